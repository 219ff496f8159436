/-! DECODE ROWS (written by wip/gen/emit.py) -/
theorem d_ask_init_0 : decode prog_2_method_1_code 0 = .ok (.aload_n 0, 1) := by decide +kernel
theorem d_ask_init_1 : decode prog_2_method_1_code 1 = .ok (.invokespecial 1, 3) := by decide +kernel
theorem d_ask_init_4 : decode prog_2_method_1_code 4 = .ok (.return_, 1) := by decide +kernel
theorem d_ask_takeFrom_0 : decode prog_2_method_2_code 0 = .ok (.aload_n 0, 1) := by decide +kernel
theorem d_ask_takeFrom_1 : decode prog_2_method_2_code 1 = .ok (.aload_n 1, 1) := by decide +kernel
theorem d_ask_takeFrom_10 : decode prog_2_method_2_code 10 = .ok (.getfield 13, 3) := by decide +kernel
theorem d_ask_takeFrom_13 : decode prog_2_method_2_code 13 = .ok (.putfield 13, 3) := by decide +kernel
theorem d_ask_takeFrom_16 : decode prog_2_method_2_code 16 = .ok (.aload_n 0, 1) := by decide +kernel
theorem d_ask_takeFrom_17 : decode prog_2_method_2_code 17 = .ok (.aload_n 1, 1) := by decide +kernel
theorem d_ask_takeFrom_18 : decode prog_2_method_2_code 18 = .ok (.getfield 16, 3) := by decide +kernel
theorem d_ask_takeFrom_2 : decode prog_2_method_2_code 2 = .ok (.getfield 7, 3) := by decide +kernel
theorem d_ask_takeFrom_21 : decode prog_2_method_2_code 21 = .ok (.putfield 16, 3) := by decide +kernel
theorem d_ask_takeFrom_24 : decode prog_2_method_2_code 24 = .ok (.aload_n 0, 1) := by decide +kernel
theorem d_ask_takeFrom_25 : decode prog_2_method_2_code 25 = .ok (.aload_n 1, 1) := by decide +kernel
theorem d_ask_takeFrom_26 : decode prog_2_method_2_code 26 = .ok (.getfield 19, 3) := by decide +kernel
theorem d_ask_takeFrom_29 : decode prog_2_method_2_code 29 = .ok (.putfield 19, 3) := by decide +kernel
theorem d_ask_takeFrom_32 : decode prog_2_method_2_code 32 = .ok (.aload_n 0, 1) := by decide +kernel
theorem d_ask_takeFrom_33 : decode prog_2_method_2_code 33 = .ok (.aload_n 1, 1) := by decide +kernel
theorem d_ask_takeFrom_34 : decode prog_2_method_2_code 34 = .ok (.getfield 22, 3) := by decide +kernel
theorem d_ask_takeFrom_37 : decode prog_2_method_2_code 37 = .ok (.putfield 22, 3) := by decide +kernel
theorem d_ask_takeFrom_40 : decode prog_2_method_2_code 40 = .ok (.return_, 1) := by decide +kernel
theorem d_ask_takeFrom_5 : decode prog_2_method_2_code 5 = .ok (.putfield 7, 3) := by decide +kernel
theorem d_ask_takeFrom_8 : decode prog_2_method_2_code 8 = .ok (.aload_n 0, 1) := by decide +kernel
theorem d_ask_takeFrom_9 : decode prog_2_method_2_code 9 = .ok (.aload_n 1, 1) := by decide +kernel
theorem d_fuse_init_0 : decode prog_3_method_1_code 0 = .ok (.aload_n 0, 1) := by decide +kernel
theorem d_fuse_init_1 : decode prog_3_method_1_code 1 = .ok (.invokespecial 1, 3) := by decide +kernel
theorem d_fuse_init_4 : decode prog_3_method_1_code 4 = .ok (.return_, 1) := by decide +kernel
theorem d_ji_bitCount_0 : decode prog_15_method_49_code 0 = .ok (.iload_n 0, 1) := by decide +kernel
theorem d_ji_bitCount_1 : decode prog_15_method_49_code 1 = .ok (.iload_n 0, 1) := by decide +kernel
theorem d_ji_bitCount_10 : decode prog_15_method_49_code 10 = .ok (.iload_n 0, 1) := by decide +kernel
theorem d_ji_bitCount_11 : decode prog_15_method_49_code 11 = .ok (.ldc_w 266, 3) := by decide +kernel
theorem d_ji_bitCount_14 : decode prog_15_method_49_code 14 = .ok (.iand, 1) := by decide +kernel
theorem d_ji_bitCount_15 : decode prog_15_method_49_code 15 = .ok (.iload_n 0, 1) := by decide +kernel
theorem d_ji_bitCount_16 : decode prog_15_method_49_code 16 = .ok (.iconst 2, 1) := by decide +kernel
theorem d_ji_bitCount_17 : decode prog_15_method_49_code 17 = .ok (.iushr, 1) := by decide +kernel
theorem d_ji_bitCount_18 : decode prog_15_method_49_code 18 = .ok (.ldc_w 266, 3) := by decide +kernel
theorem d_ji_bitCount_2 : decode prog_15_method_49_code 2 = .ok (.iconst 1, 1) := by decide +kernel
theorem d_ji_bitCount_21 : decode prog_15_method_49_code 21 = .ok (.iand, 1) := by decide +kernel
theorem d_ji_bitCount_22 : decode prog_15_method_49_code 22 = .ok (.iadd, 1) := by decide +kernel
theorem d_ji_bitCount_23 : decode prog_15_method_49_code 23 = .ok (.istore_n 0, 1) := by decide +kernel
theorem d_ji_bitCount_24 : decode prog_15_method_49_code 24 = .ok (.iload_n 0, 1) := by decide +kernel
theorem d_ji_bitCount_25 : decode prog_15_method_49_code 25 = .ok (.iload_n 0, 1) := by decide +kernel
theorem d_ji_bitCount_26 : decode prog_15_method_49_code 26 = .ok (.iconst 4, 1) := by decide +kernel
theorem d_ji_bitCount_27 : decode prog_15_method_49_code 27 = .ok (.iushr, 1) := by decide +kernel
theorem d_ji_bitCount_28 : decode prog_15_method_49_code 28 = .ok (.iadd, 1) := by decide +kernel
theorem d_ji_bitCount_29 : decode prog_15_method_49_code 29 = .ok (.ldc_w 267, 3) := by decide +kernel
theorem d_ji_bitCount_3 : decode prog_15_method_49_code 3 = .ok (.iushr, 1) := by decide +kernel
theorem d_ji_bitCount_32 : decode prog_15_method_49_code 32 = .ok (.iand, 1) := by decide +kernel
theorem d_ji_bitCount_33 : decode prog_15_method_49_code 33 = .ok (.istore_n 0, 1) := by decide +kernel
theorem d_ji_bitCount_34 : decode prog_15_method_49_code 34 = .ok (.iload_n 0, 1) := by decide +kernel
theorem d_ji_bitCount_35 : decode prog_15_method_49_code 35 = .ok (.iload_n 0, 1) := by decide +kernel
theorem d_ji_bitCount_36 : decode prog_15_method_49_code 36 = .ok (.bipush 8, 2) := by decide +kernel
theorem d_ji_bitCount_38 : decode prog_15_method_49_code 38 = .ok (.iushr, 1) := by decide +kernel
theorem d_ji_bitCount_39 : decode prog_15_method_49_code 39 = .ok (.iadd, 1) := by decide +kernel
theorem d_ji_bitCount_4 : decode prog_15_method_49_code 4 = .ok (.ldc_w 265, 3) := by decide +kernel
theorem d_ji_bitCount_40 : decode prog_15_method_49_code 40 = .ok (.istore_n 0, 1) := by decide +kernel
theorem d_ji_bitCount_41 : decode prog_15_method_49_code 41 = .ok (.iload_n 0, 1) := by decide +kernel
theorem d_ji_bitCount_42 : decode prog_15_method_49_code 42 = .ok (.iload_n 0, 1) := by decide +kernel
theorem d_ji_bitCount_43 : decode prog_15_method_49_code 43 = .ok (.bipush 16, 2) := by decide +kernel
theorem d_ji_bitCount_45 : decode prog_15_method_49_code 45 = .ok (.iushr, 1) := by decide +kernel
theorem d_ji_bitCount_46 : decode prog_15_method_49_code 46 = .ok (.iadd, 1) := by decide +kernel
theorem d_ji_bitCount_47 : decode prog_15_method_49_code 47 = .ok (.istore_n 0, 1) := by decide +kernel
theorem d_ji_bitCount_48 : decode prog_15_method_49_code 48 = .ok (.iload_n 0, 1) := by decide +kernel
theorem d_ji_bitCount_49 : decode prog_15_method_49_code 49 = .ok (.bipush 63, 2) := by decide +kernel
theorem d_ji_bitCount_51 : decode prog_15_method_49_code 51 = .ok (.iand, 1) := by decide +kernel
theorem d_ji_bitCount_52 : decode prog_15_method_49_code 52 = .ok (.ireturn, 1) := by decide +kernel
theorem d_ji_bitCount_7 : decode prog_15_method_49_code 7 = .ok (.iand, 1) := by decide +kernel
theorem d_ji_bitCount_8 : decode prog_15_method_49_code 8 = .ok (.isub, 1) := by decide +kernel
theorem d_ji_bitCount_9 : decode prog_15_method_49_code 9 = .ok (.istore_n 0, 1) := by decide +kernel
theorem d_jl_bitCount_0 : decode prog_16_method_50_code 0 = .ok (.lload_n 0, 1) := by decide +kernel
theorem d_jl_bitCount_1 : decode prog_16_method_50_code 1 = .ok (.lload_n 0, 1) := by decide +kernel
theorem d_jl_bitCount_10 : decode prog_16_method_50_code 10 = .ok (.lload_n 0, 1) := by decide +kernel
theorem d_jl_bitCount_11 : decode prog_16_method_50_code 11 = .ok (.ldc2_w 316, 3) := by decide +kernel
theorem d_jl_bitCount_14 : decode prog_16_method_50_code 14 = .ok (.land, 1) := by decide +kernel
theorem d_jl_bitCount_15 : decode prog_16_method_50_code 15 = .ok (.lload_n 0, 1) := by decide +kernel
theorem d_jl_bitCount_16 : decode prog_16_method_50_code 16 = .ok (.iconst 2, 1) := by decide +kernel
theorem d_jl_bitCount_17 : decode prog_16_method_50_code 17 = .ok (.lushr, 1) := by decide +kernel
theorem d_jl_bitCount_18 : decode prog_16_method_50_code 18 = .ok (.ldc2_w 316, 3) := by decide +kernel
theorem d_jl_bitCount_2 : decode prog_16_method_50_code 2 = .ok (.iconst 1, 1) := by decide +kernel
theorem d_jl_bitCount_21 : decode prog_16_method_50_code 21 = .ok (.land, 1) := by decide +kernel
theorem d_jl_bitCount_22 : decode prog_16_method_50_code 22 = .ok (.ladd, 1) := by decide +kernel
theorem d_jl_bitCount_23 : decode prog_16_method_50_code 23 = .ok (.lstore_n 0, 1) := by decide +kernel
theorem d_jl_bitCount_24 : decode prog_16_method_50_code 24 = .ok (.lload_n 0, 1) := by decide +kernel
theorem d_jl_bitCount_25 : decode prog_16_method_50_code 25 = .ok (.lload_n 0, 1) := by decide +kernel
theorem d_jl_bitCount_26 : decode prog_16_method_50_code 26 = .ok (.iconst 4, 1) := by decide +kernel
theorem d_jl_bitCount_27 : decode prog_16_method_50_code 27 = .ok (.lushr, 1) := by decide +kernel
theorem d_jl_bitCount_28 : decode prog_16_method_50_code 28 = .ok (.ladd, 1) := by decide +kernel
theorem d_jl_bitCount_29 : decode prog_16_method_50_code 29 = .ok (.ldc2_w 318, 3) := by decide +kernel
theorem d_jl_bitCount_3 : decode prog_16_method_50_code 3 = .ok (.lushr, 1) := by decide +kernel
theorem d_jl_bitCount_32 : decode prog_16_method_50_code 32 = .ok (.land, 1) := by decide +kernel
theorem d_jl_bitCount_33 : decode prog_16_method_50_code 33 = .ok (.lstore_n 0, 1) := by decide +kernel
theorem d_jl_bitCount_34 : decode prog_16_method_50_code 34 = .ok (.lload_n 0, 1) := by decide +kernel
theorem d_jl_bitCount_35 : decode prog_16_method_50_code 35 = .ok (.lload_n 0, 1) := by decide +kernel
theorem d_jl_bitCount_36 : decode prog_16_method_50_code 36 = .ok (.bipush 8, 2) := by decide +kernel
theorem d_jl_bitCount_38 : decode prog_16_method_50_code 38 = .ok (.lushr, 1) := by decide +kernel
theorem d_jl_bitCount_39 : decode prog_16_method_50_code 39 = .ok (.ladd, 1) := by decide +kernel
theorem d_jl_bitCount_4 : decode prog_16_method_50_code 4 = .ok (.ldc2_w 314, 3) := by decide +kernel
theorem d_jl_bitCount_40 : decode prog_16_method_50_code 40 = .ok (.lstore_n 0, 1) := by decide +kernel
theorem d_jl_bitCount_41 : decode prog_16_method_50_code 41 = .ok (.lload_n 0, 1) := by decide +kernel
theorem d_jl_bitCount_42 : decode prog_16_method_50_code 42 = .ok (.lload_n 0, 1) := by decide +kernel
theorem d_jl_bitCount_43 : decode prog_16_method_50_code 43 = .ok (.bipush 16, 2) := by decide +kernel
theorem d_jl_bitCount_45 : decode prog_16_method_50_code 45 = .ok (.lushr, 1) := by decide +kernel
theorem d_jl_bitCount_46 : decode prog_16_method_50_code 46 = .ok (.ladd, 1) := by decide +kernel
theorem d_jl_bitCount_47 : decode prog_16_method_50_code 47 = .ok (.lstore_n 0, 1) := by decide +kernel
theorem d_jl_bitCount_48 : decode prog_16_method_50_code 48 = .ok (.lload_n 0, 1) := by decide +kernel
theorem d_jl_bitCount_49 : decode prog_16_method_50_code 49 = .ok (.lload_n 0, 1) := by decide +kernel
theorem d_jl_bitCount_50 : decode prog_16_method_50_code 50 = .ok (.bipush 32, 2) := by decide +kernel
theorem d_jl_bitCount_52 : decode prog_16_method_50_code 52 = .ok (.lushr, 1) := by decide +kernel
theorem d_jl_bitCount_53 : decode prog_16_method_50_code 53 = .ok (.ladd, 1) := by decide +kernel
theorem d_jl_bitCount_54 : decode prog_16_method_50_code 54 = .ok (.lstore_n 0, 1) := by decide +kernel
theorem d_jl_bitCount_55 : decode prog_16_method_50_code 55 = .ok (.lload_n 0, 1) := by decide +kernel
theorem d_jl_bitCount_56 : decode prog_16_method_50_code 56 = .ok (.l2i, 1) := by decide +kernel
theorem d_jl_bitCount_57 : decode prog_16_method_50_code 57 = .ok (.bipush 127, 2) := by decide +kernel
theorem d_jl_bitCount_59 : decode prog_16_method_50_code 59 = .ok (.iand, 1) := by decide +kernel
theorem d_jl_bitCount_60 : decode prog_16_method_50_code 60 = .ok (.ireturn, 1) := by decide +kernel
theorem d_jl_bitCount_7 : decode prog_16_method_50_code 7 = .ok (.land, 1) := by decide +kernel
theorem d_jl_bitCount_8 : decode prog_16_method_50_code 8 = .ok (.lsub, 1) := by decide +kernel
theorem d_jl_bitCount_9 : decode prog_16_method_50_code 9 = .ok (.lstore_n 0, 1) := by decide +kernel
theorem d_jp_checkIndex_0 : decode prog_22_method_11_code 0 = .ok (.iload_n 0, 1) := by decide +kernel
theorem d_jp_checkIndex_1 : decode prog_22_method_11_code 1 = .ok (.ifCond .lt 8, 3) := by decide +kernel
theorem d_jp_checkIndex_10 : decode prog_22_method_11_code 10 = .ok (.iload_n 0, 1) := by decide +kernel
theorem d_jp_checkIndex_11 : decode prog_22_method_11_code 11 = .ok (.iload_n 1, 1) := by decide +kernel
theorem d_jp_checkIndex_12 : decode prog_22_method_11_code 12 = .ok (.invokestatic 95, 3) := by decide +kernel
theorem d_jp_checkIndex_15 : decode prog_22_method_11_code 15 = .ok (.athrow, 1) := by decide +kernel
theorem d_jp_checkIndex_16 : decode prog_22_method_11_code 16 = .ok (.iload_n 0, 1) := by decide +kernel
theorem d_jp_checkIndex_17 : decode prog_22_method_11_code 17 = .ok (.ireturn, 1) := by decide +kernel
theorem d_jp_checkIndex_4 : decode prog_22_method_11_code 4 = .ok (.iload_n 0, 1) := by decide +kernel
theorem d_jp_checkIndex_5 : decode prog_22_method_11_code 5 = .ok (.iload_n 1, 1) := by decide +kernel
theorem d_jp_checkIndex_6 : decode prog_22_method_11_code 6 = .ok (.if_icmp .lt 10, 3) := by decide +kernel
theorem d_jp_checkIndex_9 : decode prog_22_method_11_code 9 = .ok (.aload_n 2, 1) := by decide +kernel
theorem d_js_charAt_0 : decode prog_18_method_56_code 0 = .ok (.aload_n 0, 1) := by decide +kernel
theorem d_js_charAt_1 : decode prog_18_method_56_code 1 = .ok (.invokevirtual 492, 3) := by decide +kernel
theorem d_js_charAt_11 : decode prog_18_method_56_code 11 = .ok (.iload_n 1, 1) := by decide +kernel
theorem d_js_charAt_12 : decode prog_18_method_56_code 12 = .ok (.invokestatic 495, 3) := by decide +kernel
theorem d_js_charAt_15 : decode prog_18_method_56_code 15 = .ok (.ireturn, 1) := by decide +kernel
theorem d_js_charAt_16 : decode prog_18_method_56_code 16 = .ok (.aload_n 0, 1) := by decide +kernel
theorem d_js_charAt_17 : decode prog_18_method_56_code 17 = .ok (.getfield 9, 3) := by decide +kernel
theorem d_js_charAt_20 : decode prog_18_method_56_code 20 = .ok (.iload_n 1, 1) := by decide +kernel
theorem d_js_charAt_21 : decode prog_18_method_56_code 21 = .ok (.invokestatic 498, 3) := by decide +kernel
theorem d_js_charAt_24 : decode prog_18_method_56_code 24 = .ok (.ireturn, 1) := by decide +kernel
theorem d_js_charAt_4 : decode prog_18_method_56_code 4 = .ok (.ifCond .eq 12, 3) := by decide +kernel
theorem d_js_charAt_7 : decode prog_18_method_56_code 7 = .ok (.aload_n 0, 1) := by decide +kernel
theorem d_js_charAt_8 : decode prog_18_method_56_code 8 = .ok (.getfield 9, 3) := by decide +kernel
theorem d_js_checkIndex_0 : decode prog_18_method_155_code 0 = .ok (.iload_n 0, 1) := by decide +kernel
theorem d_js_checkIndex_1 : decode prog_18_method_155_code 1 = .ok (.iload_n 1, 1) := by decide +kernel
theorem d_js_checkIndex_2 : decode prog_18_method_155_code 2 = .ok (.getstatic 1053, 3) := by decide +kernel
theorem d_js_checkIndex_5 : decode prog_18_method_155_code 5 = .ok (.invokestatic 1059, 3) := by decide +kernel
theorem d_js_checkIndex_8 : decode prog_18_method_155_code 8 = .ok (.pop, 1) := by decide +kernel
theorem d_js_checkIndex_9 : decode prog_18_method_155_code 9 = .ok (.return_, 1) := by decide +kernel
theorem d_js_coder_0 : decode prog_18_method_152_code 0 = .ok (.getstatic 38, 3) := by decide +kernel
theorem d_js_coder_10 : decode prog_18_method_152_code 10 = .ok (.goto 4, 3) := by decide +kernel
theorem d_js_coder_13 : decode prog_18_method_152_code 13 = .ok (.iconst 1, 1) := by decide +kernel
theorem d_js_coder_14 : decode prog_18_method_152_code 14 = .ok (.ireturn, 1) := by decide +kernel
theorem d_js_coder_3 : decode prog_18_method_152_code 3 = .ok (.ifCond .eq 10, 3) := by decide +kernel
theorem d_js_coder_6 : decode prog_18_method_152_code 6 = .ok (.aload_n 0, 1) := by decide +kernel
theorem d_js_coder_7 : decode prog_18_method_152_code 7 = .ok (.getfield 15, 3) := by decide +kernel
theorem d_js_indexOf0_0 : decode prog_18_method_79_code 0 = .ok (.aload_n 0, 1) := by decide +kernel
theorem d_js_indexOf0_1 : decode prog_18_method_79_code 1 = .ok (.iload_n 1, 1) := by decide +kernel
theorem d_js_indexOf0_2 : decode prog_18_method_79_code 2 = .ok (.iconst 0, 1) := by decide +kernel
theorem d_js_indexOf0_3 : decode prog_18_method_79_code 3 = .ok (.invokevirtual 633, 3) := by decide +kernel
theorem d_js_indexOf0_6 : decode prog_18_method_79_code 6 = .ok (.ireturn, 1) := by decide +kernel
theorem d_js_indexOf1_0 : decode prog_18_method_80_code 0 = .ok (.aload_n 0, 1) := by decide +kernel
theorem d_js_indexOf1_1 : decode prog_18_method_80_code 1 = .ok (.invokevirtual 492, 3) := by decide +kernel
theorem d_js_indexOf1_11 : decode prog_18_method_80_code 11 = .ok (.iload_n 1, 1) := by decide +kernel
theorem d_js_indexOf1_12 : decode prog_18_method_80_code 12 = .ok (.iload_n 2, 1) := by decide +kernel
theorem d_js_indexOf1_13 : decode prog_18_method_80_code 13 = .ok (.aload_n 0, 1) := by decide +kernel
theorem d_js_indexOf1_14 : decode prog_18_method_80_code 14 = .ok (.invokevirtual 505, 3) := by decide +kernel
theorem d_js_indexOf1_17 : decode prog_18_method_80_code 17 = .ok (.invokestatic 637, 3) := by decide +kernel
theorem d_js_indexOf1_20 : decode prog_18_method_80_code 20 = .ok (.goto 16, 3) := by decide +kernel
theorem d_js_indexOf1_23 : decode prog_18_method_80_code 23 = .ok (.aload_n 0, 1) := by decide +kernel
theorem d_js_indexOf1_24 : decode prog_18_method_80_code 24 = .ok (.getfield 9, 3) := by decide +kernel
theorem d_js_indexOf1_27 : decode prog_18_method_80_code 27 = .ok (.iload_n 1, 1) := by decide +kernel
theorem d_js_indexOf1_28 : decode prog_18_method_80_code 28 = .ok (.iload_n 2, 1) := by decide +kernel
theorem d_js_indexOf1_29 : decode prog_18_method_80_code 29 = .ok (.aload_n 0, 1) := by decide +kernel
theorem d_js_indexOf1_30 : decode prog_18_method_80_code 30 = .ok (.invokevirtual 505, 3) := by decide +kernel
theorem d_js_indexOf1_33 : decode prog_18_method_80_code 33 = .ok (.invokestatic 640, 3) := by decide +kernel
theorem d_js_indexOf1_36 : decode prog_18_method_80_code 36 = .ok (.ireturn, 1) := by decide +kernel
theorem d_js_indexOf1_4 : decode prog_18_method_80_code 4 = .ok (.ifCond .eq 19, 3) := by decide +kernel
theorem d_js_indexOf1_7 : decode prog_18_method_80_code 7 = .ok (.aload_n 0, 1) := by decide +kernel
theorem d_js_indexOf1_8 : decode prog_18_method_80_code 8 = .ok (.getfield 9, 3) := by decide +kernel
theorem d_js_isLatin1_0 : decode prog_18_method_154_code 0 = .ok (.getstatic 38, 3) := by decide +kernel
theorem d_js_isLatin1_10 : decode prog_18_method_154_code 10 = .ok (.ifCond .ne 7, 3) := by decide +kernel
theorem d_js_isLatin1_13 : decode prog_18_method_154_code 13 = .ok (.iconst 1, 1) := by decide +kernel
theorem d_js_isLatin1_14 : decode prog_18_method_154_code 14 = .ok (.goto 4, 3) := by decide +kernel
theorem d_js_isLatin1_17 : decode prog_18_method_154_code 17 = .ok (.iconst 0, 1) := by decide +kernel
theorem d_js_isLatin1_18 : decode prog_18_method_154_code 18 = .ok (.ireturn, 1) := by decide +kernel
theorem d_js_isLatin1_3 : decode prog_18_method_154_code 3 = .ok (.ifCond .eq 14, 3) := by decide +kernel
theorem d_js_isLatin1_6 : decode prog_18_method_154_code 6 = .ok (.aload_n 0, 1) := by decide +kernel
theorem d_js_isLatin1_7 : decode prog_18_method_154_code 7 = .ok (.getfield 15, 3) := by decide +kernel
theorem d_js_length_0 : decode prog_18_method_54_code 0 = .ok (.aload_n 0, 1) := by decide +kernel
theorem d_js_length_1 : decode prog_18_method_54_code 1 = .ok (.getfield 9, 3) := by decide +kernel
theorem d_js_length_10 : decode prog_18_method_54_code 10 = .ok (.ireturn, 1) := by decide +kernel
theorem d_js_length_4 : decode prog_18_method_54_code 4 = .ok (.arraylength, 1) := by decide +kernel
theorem d_js_length_5 : decode prog_18_method_54_code 5 = .ok (.aload_n 0, 1) := by decide +kernel
theorem d_js_length_6 : decode prog_18_method_54_code 6 = .ok (.invokevirtual 335, 3) := by decide +kernel
theorem d_js_length_9 : decode prog_18_method_54_code 9 = .ok (.ishr, 1) := by decide +kernel
theorem d_jt_canEncode_0 : decode prog_19_method_4_code 0 = .ok (.iload_n 0, 1) := by decide +kernel
theorem d_jt_canEncode_1 : decode prog_19_method_4_code 1 = .ok (.ifCond .lt 14, 3) := by decide +kernel
theorem d_jt_canEncode_11 : decode prog_19_method_4_code 11 = .ok (.iconst 1, 1) := by decide +kernel
theorem d_jt_canEncode_12 : decode prog_19_method_4_code 12 = .ok (.goto 4, 3) := by decide +kernel
theorem d_jt_canEncode_15 : decode prog_19_method_4_code 15 = .ok (.iconst 0, 1) := by decide +kernel
theorem d_jt_canEncode_16 : decode prog_19_method_4_code 16 = .ok (.ireturn, 1) := by decide +kernel
theorem d_jt_canEncode_4 : decode prog_19_method_4_code 4 = .ok (.iload_n 0, 1) := by decide +kernel
theorem d_jt_canEncode_5 : decode prog_19_method_4_code 5 = .ok (.sipush 255, 3) := by decide +kernel
theorem d_jt_canEncode_8 : decode prog_19_method_4_code 8 = .ok (.if_icmp .gt 7, 3) := by decide +kernel
theorem d_jt_charAt_0 : decode prog_19_method_2_code 0 = .ok (.iload_n 1, 1) := by decide +kernel
theorem d_jt_charAt_1 : decode prog_19_method_2_code 1 = .ok (.aload_n 0, 1) := by decide +kernel
theorem d_jt_charAt_12 : decode prog_19_method_2_code 12 = .ok (.iand, 1) := by decide +kernel
theorem d_jt_charAt_13 : decode prog_19_method_2_code 13 = .ok (.i2c, 1) := by decide +kernel
theorem d_jt_charAt_14 : decode prog_19_method_2_code 14 = .ok (.ireturn, 1) := by decide +kernel
theorem d_jt_charAt_2 : decode prog_19_method_2_code 2 = .ok (.arraylength, 1) := by decide +kernel
theorem d_jt_charAt_3 : decode prog_19_method_2_code 3 = .ok (.invokestatic 9, 3) := by decide +kernel
theorem d_jt_charAt_6 : decode prog_19_method_2_code 6 = .ok (.aload_n 0, 1) := by decide +kernel
theorem d_jt_charAt_7 : decode prog_19_method_2_code 7 = .ok (.iload_n 1, 1) := by decide +kernel
theorem d_jt_charAt_8 : decode prog_19_method_2_code 8 = .ok (.baload, 1) := by decide +kernel
theorem d_jt_charAt_9 : decode prog_19_method_2_code 9 = .ok (.sipush 255, 3) := by decide +kernel
theorem d_jt_indexOfChar_0 : decode prog_19_method_23_code 0 = .ok (.iload_n 1, 1) := by decide +kernel
theorem d_jt_indexOfChar_1 : decode prog_19_method_23_code 1 = .ok (.i2b, 1) := by decide +kernel
theorem d_jt_indexOfChar_10 : decode prog_19_method_23_code 10 = .ok (.if_icmp .ge 21, 3) := by decide +kernel
theorem d_jt_indexOfChar_13 : decode prog_19_method_23_code 13 = .ok (.aload_n 0, 1) := by decide +kernel
theorem d_jt_indexOfChar_14 : decode prog_19_method_23_code 14 = .ok (.iload 5, 2) := by decide +kernel
theorem d_jt_indexOfChar_16 : decode prog_19_method_23_code 16 = .ok (.baload, 1) := by decide +kernel
theorem d_jt_indexOfChar_17 : decode prog_19_method_23_code 17 = .ok (.iload 4, 2) := by decide +kernel
theorem d_jt_indexOfChar_19 : decode prog_19_method_23_code 19 = .ok (.if_icmp .ne 6, 3) := by decide +kernel
theorem d_jt_indexOfChar_2 : decode prog_19_method_23_code 2 = .ok (.istore 4, 2) := by decide +kernel
theorem d_jt_indexOfChar_22 : decode prog_19_method_23_code 22 = .ok (.iload 5, 2) := by decide +kernel
theorem d_jt_indexOfChar_24 : decode prog_19_method_23_code 24 = .ok (.ireturn, 1) := by decide +kernel
theorem d_jt_indexOfChar_25 : decode prog_19_method_23_code 25 = .ok (.iinc 5 1, 3) := by decide +kernel
theorem d_jt_indexOfChar_28 : decode prog_19_method_23_code 28 = .ok (.goto (-21), 3) := by decide +kernel
theorem d_jt_indexOfChar_31 : decode prog_19_method_23_code 31 = .ok (.iconst (-1), 1) := by decide +kernel
theorem d_jt_indexOfChar_32 : decode prog_19_method_23_code 32 = .ok (.ireturn, 1) := by decide +kernel
theorem d_jt_indexOfChar_4 : decode prog_19_method_23_code 4 = .ok (.iload_n 2, 1) := by decide +kernel
theorem d_jt_indexOfChar_5 : decode prog_19_method_23_code 5 = .ok (.istore 5, 2) := by decide +kernel
theorem d_jt_indexOfChar_7 : decode prog_19_method_23_code 7 = .ok (.iload 5, 2) := by decide +kernel
theorem d_jt_indexOfChar_9 : decode prog_19_method_23_code 9 = .ok (.iload_n 3, 1) := by decide +kernel
theorem d_jt_indexOf_0 : decode prog_19_method_22_code 0 = .ok (.iload_n 1, 1) := by decide +kernel
theorem d_jt_indexOf_1 : decode prog_19_method_22_code 1 = .ok (.invokestatic 88, 3) := by decide +kernel
theorem d_jt_indexOf_10 : decode prog_19_method_22_code 10 = .ok (.iconst 0, 1) := by decide +kernel
theorem d_jt_indexOf_11 : decode prog_19_method_22_code 11 = .ok (.invokestatic 92, 3) := by decide +kernel
theorem d_jt_indexOf_14 : decode prog_19_method_22_code 14 = .ok (.istore_n 2, 1) := by decide +kernel
theorem d_jt_indexOf_15 : decode prog_19_method_22_code 15 = .ok (.iload_n 3, 1) := by decide +kernel
theorem d_jt_indexOf_16 : decode prog_19_method_22_code 16 = .ok (.aload_n 0, 1) := by decide +kernel
theorem d_jt_indexOf_17 : decode prog_19_method_22_code 17 = .ok (.arraylength, 1) := by decide +kernel
theorem d_jt_indexOf_18 : decode prog_19_method_22_code 18 = .ok (.invokestatic 38, 3) := by decide +kernel
theorem d_jt_indexOf_21 : decode prog_19_method_22_code 21 = .ok (.istore_n 3, 1) := by decide +kernel
theorem d_jt_indexOf_22 : decode prog_19_method_22_code 22 = .ok (.iload_n 2, 1) := by decide +kernel
theorem d_jt_indexOf_23 : decode prog_19_method_22_code 23 = .ok (.iload_n 3, 1) := by decide +kernel
theorem d_jt_indexOf_24 : decode prog_19_method_22_code 24 = .ok (.if_icmp .lt 5, 3) := by decide +kernel
theorem d_jt_indexOf_27 : decode prog_19_method_22_code 27 = .ok (.iconst (-1), 1) := by decide +kernel
theorem d_jt_indexOf_28 : decode prog_19_method_22_code 28 = .ok (.ireturn, 1) := by decide +kernel
theorem d_jt_indexOf_29 : decode prog_19_method_22_code 29 = .ok (.aload_n 0, 1) := by decide +kernel
theorem d_jt_indexOf_30 : decode prog_19_method_22_code 30 = .ok (.iload_n 1, 1) := by decide +kernel
theorem d_jt_indexOf_31 : decode prog_19_method_22_code 31 = .ok (.iload_n 2, 1) := by decide +kernel
theorem d_jt_indexOf_32 : decode prog_19_method_22_code 32 = .ok (.iload_n 3, 1) := by decide +kernel
theorem d_jt_indexOf_33 : decode prog_19_method_22_code 33 = .ok (.invokestatic 95, 3) := by decide +kernel
theorem d_jt_indexOf_36 : decode prog_19_method_22_code 36 = .ok (.ireturn, 1) := by decide +kernel
theorem d_jt_indexOf_4 : decode prog_19_method_22_code 4 = .ok (.ifCond .ne 5, 3) := by decide +kernel
theorem d_jt_indexOf_7 : decode prog_19_method_22_code 7 = .ok (.iconst (-1), 1) := by decide +kernel
theorem d_jt_indexOf_8 : decode prog_19_method_22_code 8 = .ok (.ireturn, 1) := by decide +kernel
theorem d_jt_indexOf_9 : decode prog_19_method_22_code 9 = .ok (.iload_n 2, 1) := by decide +kernel
theorem d_lamp_become_0 : decode prog_4_method_2_code 0 = .ok (.aload_n 0, 1) := by decide +kernel
theorem d_lamp_become_1 : decode prog_4_method_2_code 1 = .ok (.iload_n 1, 1) := by decide +kernel
theorem d_lamp_become_10 : decode prog_4_method_2_code 10 = .ok (.aload_n 0, 1) := by decide +kernel
theorem d_lamp_become_11 : decode prog_4_method_2_code 11 = .ok (.iload_n 3, 1) := by decide +kernel
theorem d_lamp_become_12 : decode prog_4_method_2_code 12 = .ok (.bipush 100, 2) := by decide +kernel
theorem d_lamp_become_14 : decode prog_4_method_2_code 14 = .ok (.idiv, 1) := by decide +kernel
theorem d_lamp_become_15 : decode prog_4_method_2_code 15 = .ok (.putfield 18, 3) := by decide +kernel
theorem d_lamp_become_18 : decode prog_4_method_2_code 18 = .ok (.aload_n 0, 1) := by decide +kernel
theorem d_lamp_become_19 : decode prog_4_method_2_code 19 = .ok (.iload_n 3, 1) := by decide +kernel
theorem d_lamp_become_2 : decode prog_4_method_2_code 2 = .ok (.putfield 9, 3) := by decide +kernel
theorem d_lamp_become_20 : decode prog_4_method_2_code 20 = .ok (.bipush 10, 2) := by decide +kernel
theorem d_lamp_become_22 : decode prog_4_method_2_code 22 = .ok (.idiv, 1) := by decide +kernel
theorem d_lamp_become_23 : decode prog_4_method_2_code 23 = .ok (.bipush 10, 2) := by decide +kernel
theorem d_lamp_become_25 : decode prog_4_method_2_code 25 = .ok (.irem, 1) := by decide +kernel
theorem d_lamp_become_26 : decode prog_4_method_2_code 26 = .ok (.putfield 21, 3) := by decide +kernel
theorem d_lamp_become_29 : decode prog_4_method_2_code 29 = .ok (.aload_n 0, 1) := by decide +kernel
theorem d_lamp_become_30 : decode prog_4_method_2_code 30 = .ok (.iload_n 3, 1) := by decide +kernel
theorem d_lamp_become_31 : decode prog_4_method_2_code 31 = .ok (.bipush 10, 2) := by decide +kernel
theorem d_lamp_become_33 : decode prog_4_method_2_code 33 = .ok (.irem, 1) := by decide +kernel
theorem d_lamp_become_34 : decode prog_4_method_2_code 34 = .ok (.putfield 24, 3) := by decide +kernel
theorem d_lamp_become_37 : decode prog_4_method_2_code 37 = .ok (.aload_n 0, 1) := by decide +kernel
theorem d_lamp_become_38 : decode prog_4_method_2_code 38 = .ok (.iload 4, 2) := by decide +kernel
theorem d_lamp_become_40 : decode prog_4_method_2_code 40 = .ok (.putfield 27, 3) := by decide +kernel
theorem d_lamp_become_43 : decode prog_4_method_2_code 43 = .ok (.return_, 1) := by decide +kernel
theorem d_lamp_become_5 : decode prog_4_method_2_code 5 = .ok (.aload_n 0, 1) := by decide +kernel
theorem d_lamp_become_6 : decode prog_4_method_2_code 6 = .ok (.iload_n 2, 1) := by decide +kernel
theorem d_lamp_become_7 : decode prog_4_method_2_code 7 = .ok (.putfield 15, 3) := by decide +kernel
theorem d_lamp_init_0 : decode prog_4_method_1_code 0 = .ok (.aload_n 0, 1) := by decide +kernel
theorem d_lamp_init_1 : decode prog_4_method_1_code 1 = .ok (.invokespecial 3, 3) := by decide +kernel
theorem d_lamp_init_4 : decode prog_4_method_1_code 4 = .ok (.return_, 1) := by decide +kernel
theorem d_lamp_isA_0 : decode prog_4_method_3_code 0 = .ok (.iload_n 1, 1) := by decide +kernel
theorem d_lamp_isA_1 : decode prog_4_method_3_code 1 = .ok (.aload_n 0, 1) := by decide +kernel
theorem d_lamp_isA_12 : decode prog_4_method_3_code 12 = .ok (.iload_n 1, 1) := by decide +kernel
theorem d_lamp_isA_13 : decode prog_4_method_3_code 13 = .ok (.iconst 2, 1) := by decide +kernel
theorem d_lamp_isA_14 : decode prog_4_method_3_code 14 = .ok (.if_icmp .ne 15, 3) := by decide +kernel
theorem d_lamp_isA_17 : decode prog_4_method_3_code 17 = .ok (.aload_n 0, 1) := by decide +kernel
theorem d_lamp_isA_18 : decode prog_4_method_3_code 18 = .ok (.getfield 9, 3) := by decide +kernel
theorem d_lamp_isA_2 : decode prog_4_method_3_code 2 = .ok (.getfield 9, 3) := by decide +kernel
theorem d_lamp_isA_21 : decode prog_4_method_3_code 21 = .ok (.iconst 5, 1) := by decide +kernel
theorem d_lamp_isA_22 : decode prog_4_method_3_code 22 = .ok (.if_icmp .ne 7, 3) := by decide +kernel
theorem d_lamp_isA_25 : decode prog_4_method_3_code 25 = .ok (.iconst 1, 1) := by decide +kernel
theorem d_lamp_isA_26 : decode prog_4_method_3_code 26 = .ok (.goto 4, 3) := by decide +kernel
theorem d_lamp_isA_29 : decode prog_4_method_3_code 29 = .ok (.iconst 0, 1) := by decide +kernel
theorem d_lamp_isA_30 : decode prog_4_method_3_code 30 = .ok (.ireturn, 1) := by decide +kernel
theorem d_lamp_isA_5 : decode prog_4_method_3_code 5 = .ok (.if_icmp .eq 20, 3) := by decide +kernel
theorem d_lamp_isA_8 : decode prog_4_method_3_code 8 = .ok (.iload_n 1, 1) := by decide +kernel
theorem d_lamp_isA_9 : decode prog_4_method_3_code 9 = .ok (.ifCond .eq 16, 3) := by decide +kernel
theorem d_lamp_isOn_0 : decode prog_4_method_4_code 0 = .ok (.aload_n 0, 1) := by decide +kernel
theorem d_lamp_isOn_1 : decode prog_4_method_4_code 1 = .ok (.getfield 9, 3) := by decide +kernel
theorem d_lamp_isOn_100 : decode prog_4_method_4_code 100 = .ok (.aload_n 0, 1) := by decide +kernel
theorem d_lamp_isOn_101 : decode prog_4_method_4_code 101 = .ok (.getfield 21, 3) := by decide +kernel
theorem d_lamp_isOn_104 : decode prog_4_method_4_code 104 = .ok (.invokestatic 30, 3) := by decide +kernel
theorem d_lamp_isOn_107 : decode prog_4_method_4_code 107 = .ok (.ireturn, 1) := by decide +kernel
theorem d_lamp_isOn_36 : decode prog_4_method_4_code 36 = .ok (.iload_n 1, 1) := by decide +kernel
theorem d_lamp_isOn_37 : decode prog_4_method_4_code 37 = .ok (.aload_n 0, 1) := by decide +kernel
theorem d_lamp_isOn_38 : decode prog_4_method_4_code 38 = .ok (.getfield 21, 3) := by decide +kernel
theorem d_lamp_isOn_4 : decode prog_4_method_4_code 4 = .ok (.tableswitch 95 2 5 #[32, 95, 93, 57], 32) := by decide +kernel
theorem d_lamp_isOn_41 : decode prog_4_method_4_code 41 = .ok (.invokestatic 30, 3) := by decide +kernel
theorem d_lamp_isOn_44 : decode prog_4_method_4_code 44 = .ok (.iload_n 1, 1) := by decide +kernel
theorem d_lamp_isOn_45 : decode prog_4_method_4_code 45 = .ok (.aload_n 0, 1) := by decide +kernel
theorem d_lamp_isOn_46 : decode prog_4_method_4_code 46 = .ok (.getfield 24, 3) := by decide +kernel
theorem d_lamp_isOn_49 : decode prog_4_method_4_code 49 = .ok (.invokestatic 30, 3) := by decide +kernel
theorem d_lamp_isOn_52 : decode prog_4_method_4_code 52 = .ok (.if_icmp .eq 7, 3) := by decide +kernel
theorem d_lamp_isOn_55 : decode prog_4_method_4_code 55 = .ok (.iconst 1, 1) := by decide +kernel
theorem d_lamp_isOn_56 : decode prog_4_method_4_code 56 = .ok (.goto 4, 3) := by decide +kernel
theorem d_lamp_isOn_59 : decode prog_4_method_4_code 59 = .ok (.iconst 0, 1) := by decide +kernel
theorem d_lamp_isOn_60 : decode prog_4_method_4_code 60 = .ok (.ireturn, 1) := by decide +kernel
theorem d_lamp_isOn_61 : decode prog_4_method_4_code 61 = .ok (.iload_n 1, 1) := by decide +kernel
theorem d_lamp_isOn_62 : decode prog_4_method_4_code 62 = .ok (.aload_n 0, 1) := by decide +kernel
theorem d_lamp_isOn_63 : decode prog_4_method_4_code 63 = .ok (.getfield 21, 3) := by decide +kernel
theorem d_lamp_isOn_66 : decode prog_4_method_4_code 66 = .ok (.invokestatic 30, 3) := by decide +kernel
theorem d_lamp_isOn_69 : decode prog_4_method_4_code 69 = .ok (.iload_n 1, 1) := by decide +kernel
theorem d_lamp_isOn_70 : decode prog_4_method_4_code 70 = .ok (.aload_n 0, 1) := by decide +kernel
theorem d_lamp_isOn_71 : decode prog_4_method_4_code 71 = .ok (.getfield 24, 3) := by decide +kernel
theorem d_lamp_isOn_74 : decode prog_4_method_4_code 74 = .ok (.invokestatic 30, 3) := by decide +kernel
theorem d_lamp_isOn_77 : decode prog_4_method_4_code 77 = .ok (.if_icmp .eq 18, 3) := by decide +kernel
theorem d_lamp_isOn_80 : decode prog_4_method_4_code 80 = .ok (.iload_n 2, 1) := by decide +kernel
theorem d_lamp_isOn_81 : decode prog_4_method_4_code 81 = .ok (.bipush 6, 2) := by decide +kernel
theorem d_lamp_isOn_83 : decode prog_4_method_4_code 83 = .ok (.bipush 17, 2) := by decide +kernel
theorem d_lamp_isOn_85 : decode prog_4_method_4_code 85 = .ok (.invokestatic 34, 3) := by decide +kernel
theorem d_lamp_isOn_88 : decode prog_4_method_4_code 88 = .ok (.ifCond .eq 7, 3) := by decide +kernel
theorem d_lamp_isOn_91 : decode prog_4_method_4_code 91 = .ok (.iconst 1, 1) := by decide +kernel
theorem d_lamp_isOn_92 : decode prog_4_method_4_code 92 = .ok (.goto 4, 3) := by decide +kernel
theorem d_lamp_isOn_95 : decode prog_4_method_4_code 95 = .ok (.iconst 0, 1) := by decide +kernel
theorem d_lamp_isOn_96 : decode prog_4_method_4_code 96 = .ok (.ireturn, 1) := by decide +kernel
theorem d_lamp_isOn_97 : decode prog_4_method_4_code 97 = .ok (.iconst 1, 1) := by decide +kernel
theorem d_lamp_isOn_98 : decode prog_4_method_4_code 98 = .ok (.ireturn, 1) := by decide +kernel
theorem d_lamp_isOn_99 : decode prog_4_method_4_code 99 = .ok (.iload_n 1, 1) := by decide +kernel
theorem d_machine_init_0 : decode prog_5_method_1_code 0 = .ok (.aload_n 0, 1) := by decide +kernel
theorem d_machine_init_1 : decode prog_5_method_1_code 1 = .ok (.invokespecial 3, 3) := by decide +kernel
theorem d_machine_init_12 : decode prog_5_method_1_code 12 = .ok (.aload_n 0, 1) := by decide +kernel
theorem d_machine_init_13 : decode prog_5_method_1_code 13 = .ok (.sipush 160, 3) := by decide +kernel
theorem d_machine_init_16 : decode prog_5_method_1_code 16 = .ok (.newarray .int, 2) := by decide +kernel
theorem d_machine_init_18 : decode prog_5_method_1_code 18 = .ok (.putfield 15, 3) := by decide +kernel
theorem d_machine_init_21 : decode prog_5_method_1_code 21 = .ok (.return_, 1) := by decide +kernel
theorem d_machine_init_4 : decode prog_5_method_1_code 4 = .ok (.aload_n 0, 1) := by decide +kernel
theorem d_machine_init_5 : decode prog_5_method_1_code 5 = .ok (.bipush 6, 2) := by decide +kernel
theorem d_machine_init_7 : decode prog_5_method_1_code 7 = .ok (.newarray .int, 2) := by decide +kernel
theorem d_machine_init_9 : decode prog_5_method_1_code 9 = .ok (.putfield 9, 3) := by decide +kernel
theorem d_machine_joined_0 : decode prog_5_method_5_code 0 = .ok (.iload_n 0, 1) := by decide +kernel
theorem d_machine_joined_1 : decode prog_5_method_5_code 1 = .ok (.lookupswitch 117 #[(43, 109), (45, 113), (60, 87), (61, 98), (303, 59), (304, 73)], 59) := by decide +kernel
theorem d_machine_joined_100 : decode prog_5_method_5_code 100 = .ok (.iload_n 2, 1) := by decide +kernel
theorem d_machine_joined_101 : decode prog_5_method_5_code 101 = .ok (.if_icmp .ne 7, 3) := by decide +kernel
theorem d_machine_joined_104 : decode prog_5_method_5_code 104 = .ok (.iconst 1, 1) := by decide +kernel
theorem d_machine_joined_105 : decode prog_5_method_5_code 105 = .ok (.goto 4, 3) := by decide +kernel
theorem d_machine_joined_108 : decode prog_5_method_5_code 108 = .ok (.iconst 0, 1) := by decide +kernel
theorem d_machine_joined_109 : decode prog_5_method_5_code 109 = .ok (.ireturn, 1) := by decide +kernel
theorem d_machine_joined_110 : decode prog_5_method_5_code 110 = .ok (.iload_n 1, 1) := by decide +kernel
theorem d_machine_joined_111 : decode prog_5_method_5_code 111 = .ok (.iload_n 2, 1) := by decide +kernel
theorem d_machine_joined_112 : decode prog_5_method_5_code 112 = .ok (.iadd, 1) := by decide +kernel
theorem d_machine_joined_113 : decode prog_5_method_5_code 113 = .ok (.ireturn, 1) := by decide +kernel
theorem d_machine_joined_114 : decode prog_5_method_5_code 114 = .ok (.iload_n 1, 1) := by decide +kernel
theorem d_machine_joined_115 : decode prog_5_method_5_code 115 = .ok (.iload_n 2, 1) := by decide +kernel
theorem d_machine_joined_116 : decode prog_5_method_5_code 116 = .ok (.isub, 1) := by decide +kernel
theorem d_machine_joined_117 : decode prog_5_method_5_code 117 = .ok (.ireturn, 1) := by decide +kernel
theorem d_machine_joined_118 : decode prog_5_method_5_code 118 = .ok (.iload_n 1, 1) := by decide +kernel
theorem d_machine_joined_119 : decode prog_5_method_5_code 119 = .ok (.iload_n 2, 1) := by decide +kernel
theorem d_machine_joined_120 : decode prog_5_method_5_code 120 = .ok (.imul, 1) := by decide +kernel
theorem d_machine_joined_121 : decode prog_5_method_5_code 121 = .ok (.ireturn, 1) := by decide +kernel
theorem d_machine_joined_60 : decode prog_5_method_5_code 60 = .ok (.iload_n 1, 1) := by decide +kernel
theorem d_machine_joined_61 : decode prog_5_method_5_code 61 = .ok (.ifCond .ne 7, 3) := by decide +kernel
theorem d_machine_joined_64 : decode prog_5_method_5_code 64 = .ok (.iload_n 2, 1) := by decide +kernel
theorem d_machine_joined_65 : decode prog_5_method_5_code 65 = .ok (.ifCond .eq 7, 3) := by decide +kernel
theorem d_machine_joined_68 : decode prog_5_method_5_code 68 = .ok (.iconst 1, 1) := by decide +kernel
theorem d_machine_joined_69 : decode prog_5_method_5_code 69 = .ok (.goto 4, 3) := by decide +kernel
theorem d_machine_joined_72 : decode prog_5_method_5_code 72 = .ok (.iconst 0, 1) := by decide +kernel
theorem d_machine_joined_73 : decode prog_5_method_5_code 73 = .ok (.ireturn, 1) := by decide +kernel
theorem d_machine_joined_74 : decode prog_5_method_5_code 74 = .ok (.iload_n 1, 1) := by decide +kernel
theorem d_machine_joined_75 : decode prog_5_method_5_code 75 = .ok (.ifCond .eq 11, 3) := by decide +kernel
theorem d_machine_joined_78 : decode prog_5_method_5_code 78 = .ok (.iload_n 2, 1) := by decide +kernel
theorem d_machine_joined_79 : decode prog_5_method_5_code 79 = .ok (.ifCond .eq 7, 3) := by decide +kernel
theorem d_machine_joined_82 : decode prog_5_method_5_code 82 = .ok (.iconst 1, 1) := by decide +kernel
theorem d_machine_joined_83 : decode prog_5_method_5_code 83 = .ok (.goto 4, 3) := by decide +kernel
theorem d_machine_joined_86 : decode prog_5_method_5_code 86 = .ok (.iconst 0, 1) := by decide +kernel
theorem d_machine_joined_87 : decode prog_5_method_5_code 87 = .ok (.ireturn, 1) := by decide +kernel
theorem d_machine_joined_88 : decode prog_5_method_5_code 88 = .ok (.iload_n 1, 1) := by decide +kernel
theorem d_machine_joined_89 : decode prog_5_method_5_code 89 = .ok (.iload_n 2, 1) := by decide +kernel
theorem d_machine_joined_90 : decode prog_5_method_5_code 90 = .ok (.if_icmp .ge 7, 3) := by decide +kernel
theorem d_machine_joined_93 : decode prog_5_method_5_code 93 = .ok (.iconst 1, 1) := by decide +kernel
theorem d_machine_joined_94 : decode prog_5_method_5_code 94 = .ok (.goto 4, 3) := by decide +kernel
theorem d_machine_joined_97 : decode prog_5_method_5_code 97 = .ok (.iconst 0, 1) := by decide +kernel
theorem d_machine_joined_98 : decode prog_5_method_5_code 98 = .ok (.ireturn, 1) := by decide +kernel
theorem d_machine_joined_99 : decode prog_5_method_5_code 99 = .ok (.iload_n 1, 1) := by decide +kernel
theorem d_machine_pop_0 : decode prog_5_method_7_code 0 = .ok (.aload_n 0, 1) := by decide +kernel
theorem d_machine_pop_1 : decode prog_5_method_7_code 1 = .ok (.getfield 27, 3) := by decide +kernel
theorem d_machine_pop_10 : decode prog_5_method_7_code 10 = .ok (.dup, 1) := by decide +kernel
theorem d_machine_pop_11 : decode prog_5_method_7_code 11 = .ok (.getfield 27, 3) := by decide +kernel
theorem d_machine_pop_14 : decode prog_5_method_7_code 14 = .ok (.iconst 1, 1) := by decide +kernel
theorem d_machine_pop_15 : decode prog_5_method_7_code 15 = .ok (.isub, 1) := by decide +kernel
theorem d_machine_pop_16 : decode prog_5_method_7_code 16 = .ok (.putfield 27, 3) := by decide +kernel
theorem d_machine_pop_19 : decode prog_5_method_7_code 19 = .ok (.aload_n 0, 1) := by decide +kernel
theorem d_machine_pop_20 : decode prog_5_method_7_code 20 = .ok (.getfield 15, 3) := by decide +kernel
theorem d_machine_pop_23 : decode prog_5_method_7_code 23 = .ok (.aload_n 0, 1) := by decide +kernel
theorem d_machine_pop_24 : decode prog_5_method_7_code 24 = .ok (.getfield 27, 3) := by decide +kernel
theorem d_machine_pop_27 : decode prog_5_method_7_code 27 = .ok (.iaload, 1) := by decide +kernel
theorem d_machine_pop_28 : decode prog_5_method_7_code 28 = .ok (.ireturn, 1) := by decide +kernel
theorem d_machine_pop_4 : decode prog_5_method_7_code 4 = .ok (.ifCond .gt 5, 3) := by decide +kernel
theorem d_machine_pop_7 : decode prog_5_method_7_code 7 = .ok (.iconst 0, 1) := by decide +kernel
theorem d_machine_pop_8 : decode prog_5_method_7_code 8 = .ok (.ireturn, 1) := by decide +kernel
theorem d_machine_pop_9 : decode prog_5_method_7_code 9 = .ok (.aload_n 0, 1) := by decide +kernel
theorem d_machine_push_0 : decode prog_5_method_6_code 0 = .ok (.aload_n 0, 1) := by decide +kernel
theorem d_machine_push_1 : decode prog_5_method_6_code 1 = .ok (.getfield 27, 3) := by decide +kernel
theorem d_machine_push_12 : decode prog_5_method_6_code 12 = .ok (.aload_n 0, 1) := by decide +kernel
theorem d_machine_push_13 : decode prog_5_method_6_code 13 = .ok (.getfield 15, 3) := by decide +kernel
theorem d_machine_push_16 : decode prog_5_method_6_code 16 = .ok (.aload_n 0, 1) := by decide +kernel
theorem d_machine_push_17 : decode prog_5_method_6_code 17 = .ok (.getfield 27, 3) := by decide +kernel
theorem d_machine_push_20 : decode prog_5_method_6_code 20 = .ok (.iload_n 1, 1) := by decide +kernel
theorem d_machine_push_21 : decode prog_5_method_6_code 21 = .ok (.iastore, 1) := by decide +kernel
theorem d_machine_push_22 : decode prog_5_method_6_code 22 = .ok (.aload_n 0, 1) := by decide +kernel
theorem d_machine_push_23 : decode prog_5_method_6_code 23 = .ok (.dup, 1) := by decide +kernel
theorem d_machine_push_24 : decode prog_5_method_6_code 24 = .ok (.getfield 27, 3) := by decide +kernel
theorem d_machine_push_27 : decode prog_5_method_6_code 27 = .ok (.iconst 1, 1) := by decide +kernel
theorem d_machine_push_28 : decode prog_5_method_6_code 28 = .ok (.iadd, 1) := by decide +kernel
theorem d_machine_push_29 : decode prog_5_method_6_code 29 = .ok (.putfield 27, 3) := by decide +kernel
theorem d_machine_push_32 : decode prog_5_method_6_code 32 = .ok (.return_, 1) := by decide +kernel
theorem d_machine_push_4 : decode prog_5_method_6_code 4 = .ok (.aload_n 0, 1) := by decide +kernel
theorem d_machine_push_5 : decode prog_5_method_6_code 5 = .ok (.getfield 15, 3) := by decide +kernel
theorem d_machine_push_8 : decode prog_5_method_6_code 8 = .ok (.arraylength, 1) := by decide +kernel
theorem d_machine_push_9 : decode prog_5_method_6_code 9 = .ok (.if_icmp .ge 23, 3) := by decide +kernel
theorem d_machine_sayBy_0 : decode prog_5_method_3_code 0 = .ok (.iload_n 2, 1) := by decide +kernel
theorem d_machine_sayBy_1 : decode prog_5_method_3_code 1 = .ok (.iconst 0, 1) := by decide +kernel
theorem d_machine_sayBy_10 : decode prog_5_method_3_code 10 = .ok (.ireturn, 1) := by decide +kernel
theorem d_machine_sayBy_11 : decode prog_5_method_3_code 11 = .ok (.iload_n 2, 1) := by decide +kernel
theorem d_machine_sayBy_12 : decode prog_5_method_3_code 12 = .ok (.ifCond .ne 7, 3) := by decide +kernel
theorem d_machine_sayBy_15 : decode prog_5_method_3_code 15 = .ok (.iconst 0, 1) := by decide +kernel
theorem d_machine_sayBy_16 : decode prog_5_method_3_code 16 = .ok (.goto 11, 3) := by decide +kernel
theorem d_machine_sayBy_19 : decode prog_5_method_3_code 19 = .ok (.aload_n 1, 1) := by decide +kernel
theorem d_machine_sayBy_2 : decode prog_5_method_3_code 2 = .ok (.iconst 2, 1) := by decide +kernel
theorem d_machine_sayBy_20 : decode prog_5_method_3_code 20 = .ok (.getfield 22, 3) := by decide +kernel
theorem d_machine_sayBy_23 : decode prog_5_method_3_code 23 = .ok (.iload_n 2, 1) := by decide +kernel
theorem d_machine_sayBy_24 : decode prog_5_method_3_code 24 = .ok (.iconst 1, 1) := by decide +kernel
theorem d_machine_sayBy_25 : decode prog_5_method_3_code 25 = .ok (.isub, 1) := by decide +kernel
theorem d_machine_sayBy_26 : decode prog_5_method_3_code 26 = .ok (.iaload, 1) := by decide +kernel
theorem d_machine_sayBy_27 : decode prog_5_method_3_code 27 = .ok (.istore_n 3, 1) := by decide +kernel
theorem d_machine_sayBy_28 : decode prog_5_method_3_code 28 = .ok (.aload_n 0, 1) := by decide +kernel
theorem d_machine_sayBy_29 : decode prog_5_method_3_code 29 = .ok (.iconst 0, 1) := by decide +kernel
theorem d_machine_sayBy_3 : decode prog_5_method_3_code 3 = .ok (.invokestatic 18, 3) := by decide +kernel
theorem d_machine_sayBy_30 : decode prog_5_method_3_code 30 = .ok (.putfield 27, 3) := by decide +kernel
theorem d_machine_sayBy_33 : decode prog_5_method_3_code 33 = .ok (.iload_n 3, 1) := by decide +kernel
theorem d_machine_sayBy_34 : decode prog_5_method_3_code 34 = .ok (.istore 4, 2) := by decide +kernel
theorem d_machine_sayBy_36 : decode prog_5_method_3_code 36 = .ok (.iload 4, 2) := by decide +kernel
theorem d_machine_sayBy_38 : decode prog_5_method_3_code 38 = .ok (.aload_n 1, 1) := by decide +kernel
theorem d_machine_sayBy_39 : decode prog_5_method_3_code 39 = .ok (.getfield 22, 3) := by decide +kernel
theorem d_machine_sayBy_42 : decode prog_5_method_3_code 42 = .ok (.iload_n 2, 1) := by decide +kernel
theorem d_machine_sayBy_43 : decode prog_5_method_3_code 43 = .ok (.iaload, 1) := by decide +kernel
theorem d_machine_sayBy_44 : decode prog_5_method_3_code 44 = .ok (.if_icmp .ge 28, 3) := by decide +kernel
theorem d_machine_sayBy_47 : decode prog_5_method_3_code 47 = .ok (.iload 4, 2) := by decide +kernel
theorem d_machine_sayBy_49 : decode prog_5_method_3_code 49 = .ok (.sipush 160, 3) := by decide +kernel
theorem d_machine_sayBy_52 : decode prog_5_method_3_code 52 = .ok (.if_icmp .ge 20, 3) := by decide +kernel
theorem d_machine_sayBy_55 : decode prog_5_method_3_code 55 = .ok (.aload_n 0, 1) := by decide +kernel
theorem d_machine_sayBy_56 : decode prog_5_method_3_code 56 = .ok (.aload_n 1, 1) := by decide +kernel
theorem d_machine_sayBy_57 : decode prog_5_method_3_code 57 = .ok (.getfield 31, 3) := by decide +kernel
theorem d_machine_sayBy_6 : decode prog_5_method_3_code 6 = .ok (.ifCond .ne 5, 3) := by decide +kernel
theorem d_machine_sayBy_60 : decode prog_5_method_3_code 60 = .ok (.iload 4, 2) := by decide +kernel
theorem d_machine_sayBy_62 : decode prog_5_method_3_code 62 = .ok (.iaload, 1) := by decide +kernel
theorem d_machine_sayBy_63 : decode prog_5_method_3_code 63 = .ok (.invokevirtual 34, 3) := by decide +kernel
theorem d_machine_sayBy_66 : decode prog_5_method_3_code 66 = .ok (.iinc 4 1, 3) := by decide +kernel
theorem d_machine_sayBy_69 : decode prog_5_method_3_code 69 = .ok (.goto (-33), 3) := by decide +kernel
theorem d_machine_sayBy_72 : decode prog_5_method_3_code 72 = .ok (.iconst 0, 1) := by decide +kernel
theorem d_machine_sayBy_73 : decode prog_5_method_3_code 73 = .ok (.sipush 999, 3) := by decide +kernel
theorem d_machine_sayBy_76 : decode prog_5_method_3_code 76 = .ok (.aload_n 0, 1) := by decide +kernel
theorem d_machine_sayBy_77 : decode prog_5_method_3_code 77 = .ok (.invokevirtual 38, 3) := by decide +kernel
theorem d_machine_sayBy_80 : decode prog_5_method_3_code 80 = .ok (.invokestatic 42, 3) := by decide +kernel
theorem d_machine_sayBy_83 : decode prog_5_method_3_code 83 = .ok (.invokestatic 48, 3) := by decide +kernel
theorem d_machine_sayBy_86 : decode prog_5_method_3_code 86 = .ok (.ireturn, 1) := by decide +kernel
theorem d_machine_sayBy_9 : decode prog_5_method_3_code 9 = .ok (.iconst 0, 1) := by decide +kernel
theorem d_machine_take_0 : decode prog_5_method_4_code 0 = .ok (.iload_n 1, 1) := by decide +kernel
theorem d_machine_take_1 : decode prog_5_method_4_code 1 = .ok (.ineg, 1) := by decide +kernel
theorem d_machine_take_100 : decode prog_5_method_4_code 100 = .ok (.aload_n 0, 1) := by decide +kernel
theorem d_machine_take_101 : decode prog_5_method_4_code 101 = .ok (.invokevirtual 38, 3) := by decide +kernel
theorem d_machine_take_104 : decode prog_5_method_4_code 104 = .ok (.iload_n 3, 1) := by decide +kernel
theorem d_machine_take_105 : decode prog_5_method_4_code 105 = .ok (.invokestatic 56, 3) := by decide +kernel
theorem d_machine_take_108 : decode prog_5_method_4_code 108 = .ok (.invokevirtual 53, 3) := by decide +kernel
theorem d_machine_take_11 : decode prog_5_method_4_code 11 = .ok (.aload_n 0, 1) := by decide +kernel
theorem d_machine_take_111 : decode prog_5_method_4_code 111 = .ok (.return_, 1) := by decide +kernel
theorem d_machine_take_12 : decode prog_5_method_4_code 12 = .ok (.iload_n 1, 1) := by decide +kernel
theorem d_machine_take_13 : decode prog_5_method_4_code 13 = .ok (.invokevirtual 53, 3) := by decide +kernel
theorem d_machine_take_16 : decode prog_5_method_4_code 16 = .ok (.goto 95, 3) := by decide +kernel
theorem d_machine_take_19 : decode prog_5_method_4_code 19 = .ok (.iload_n 2, 1) := by decide +kernel
theorem d_machine_take_2 : decode prog_5_method_4_code 2 = .ok (.sipush 306, 3) := by decide +kernel
theorem d_machine_take_20 : decode prog_5_method_4_code 20 = .ok (.iconst 0, 1) := by decide +kernel
theorem d_machine_take_21 : decode prog_5_method_4_code 21 = .ok (.aload_n 0, 1) := by decide +kernel
theorem d_machine_take_22 : decode prog_5_method_4_code 22 = .ok (.getfield 9, 3) := by decide +kernel
theorem d_machine_take_25 : decode prog_5_method_4_code 25 = .ok (.arraylength, 1) := by decide +kernel
theorem d_machine_take_26 : decode prog_5_method_4_code 26 = .ok (.iconst 1, 1) := by decide +kernel
theorem d_machine_take_27 : decode prog_5_method_4_code 27 = .ok (.isub, 1) := by decide +kernel
theorem d_machine_take_28 : decode prog_5_method_4_code 28 = .ok (.invokestatic 18, 3) := by decide +kernel
theorem d_machine_take_31 : decode prog_5_method_4_code 31 = .ok (.ifCond .eq 16, 3) := by decide +kernel
theorem d_machine_take_34 : decode prog_5_method_4_code 34 = .ok (.aload_n 0, 1) := by decide +kernel
theorem d_machine_take_35 : decode prog_5_method_4_code 35 = .ok (.aload_n 0, 1) := by decide +kernel
theorem d_machine_take_36 : decode prog_5_method_4_code 36 = .ok (.getfield 9, 3) := by decide +kernel
theorem d_machine_take_39 : decode prog_5_method_4_code 39 = .ok (.iload_n 2, 1) := by decide +kernel
theorem d_machine_take_40 : decode prog_5_method_4_code 40 = .ok (.iaload, 1) := by decide +kernel
theorem d_machine_take_41 : decode prog_5_method_4_code 41 = .ok (.invokevirtual 53, 3) := by decide +kernel
theorem d_machine_take_44 : decode prog_5_method_4_code 44 = .ok (.goto 67, 3) := by decide +kernel
theorem d_machine_take_47 : decode prog_5_method_4_code 47 = .ok (.iload_n 1, 1) := by decide +kernel
theorem d_machine_take_48 : decode prog_5_method_4_code 48 = .ok (.sipush (-305), 3) := by decide +kernel
theorem d_machine_take_5 : decode prog_5_method_4_code 5 = .ok (.isub, 1) := by decide +kernel
theorem d_machine_take_51 : decode prog_5_method_4_code 51 = .ok (.if_icmp .ne 22, 3) := by decide +kernel
theorem d_machine_take_54 : decode prog_5_method_4_code 54 = .ok (.aload_n 0, 1) := by decide +kernel
theorem d_machine_take_55 : decode prog_5_method_4_code 55 = .ok (.aload_n 0, 1) := by decide +kernel
theorem d_machine_take_56 : decode prog_5_method_4_code 56 = .ok (.invokevirtual 38, 3) := by decide +kernel
theorem d_machine_take_59 : decode prog_5_method_4_code 59 = .ok (.ifCond .ne 7, 3) := by decide +kernel
theorem d_machine_take_6 : decode prog_5_method_4_code 6 = .ok (.istore_n 2, 1) := by decide +kernel
theorem d_machine_take_62 : decode prog_5_method_4_code 62 = .ok (.iconst 1, 1) := by decide +kernel
theorem d_machine_take_63 : decode prog_5_method_4_code 63 = .ok (.goto 4, 3) := by decide +kernel
theorem d_machine_take_66 : decode prog_5_method_4_code 66 = .ok (.iconst 0, 1) := by decide +kernel
theorem d_machine_take_67 : decode prog_5_method_4_code 67 = .ok (.invokevirtual 53, 3) := by decide +kernel
theorem d_machine_take_7 : decode prog_5_method_4_code 7 = .ok (.iload_n 1, 1) := by decide +kernel
theorem d_machine_take_70 : decode prog_5_method_4_code 70 = .ok (.goto 41, 3) := by decide +kernel
theorem d_machine_take_73 : decode prog_5_method_4_code 73 = .ok (.iload_n 1, 1) := by decide +kernel
theorem d_machine_take_74 : decode prog_5_method_4_code 74 = .ok (.sipush (-312), 3) := by decide +kernel
theorem d_machine_take_77 : decode prog_5_method_4_code 77 = .ok (.if_icmp .ne 15, 3) := by decide +kernel
theorem d_machine_take_8 : decode prog_5_method_4_code 8 = .ok (.ifCond .lt 11, 3) := by decide +kernel
theorem d_machine_take_80 : decode prog_5_method_4_code 80 = .ok (.aload_n 0, 1) := by decide +kernel
theorem d_machine_take_81 : decode prog_5_method_4_code 81 = .ok (.aload_n 0, 1) := by decide +kernel
theorem d_machine_take_82 : decode prog_5_method_4_code 82 = .ok (.invokevirtual 38, 3) := by decide +kernel
theorem d_machine_take_85 : decode prog_5_method_4_code 85 = .ok (.ineg, 1) := by decide +kernel
theorem d_machine_take_86 : decode prog_5_method_4_code 86 = .ok (.invokevirtual 53, 3) := by decide +kernel
theorem d_machine_take_89 : decode prog_5_method_4_code 89 = .ok (.goto 22, 3) := by decide +kernel
theorem d_machine_take_92 : decode prog_5_method_4_code 92 = .ok (.aload_n 0, 1) := by decide +kernel
theorem d_machine_take_93 : decode prog_5_method_4_code 93 = .ok (.invokevirtual 38, 3) := by decide +kernel
theorem d_machine_take_96 : decode prog_5_method_4_code 96 = .ok (.istore_n 3, 1) := by decide +kernel
theorem d_machine_take_97 : decode prog_5_method_4_code 97 = .ok (.aload_n 0, 1) := by decide +kernel
theorem d_machine_take_98 : decode prog_5_method_4_code 98 = .ok (.iload_n 1, 1) := by decide +kernel
theorem d_machine_take_99 : decode prog_5_method_4_code 99 = .ok (.ineg, 1) := by decide +kernel
theorem d_machine_tellNames_0 : decode prog_5_method_2_code 0 = .ok (.aload_n 0, 1) := by decide +kernel
theorem d_machine_tellNames_1 : decode prog_5_method_2_code 1 = .ok (.getfield 9, 3) := by decide +kernel
theorem d_machine_tellNames_11 : decode prog_5_method_2_code 11 = .ok (.iconst 1, 1) := by decide +kernel
theorem d_machine_tellNames_12 : decode prog_5_method_2_code 12 = .ok (.iload_n 2, 1) := by decide +kernel
theorem d_machine_tellNames_13 : decode prog_5_method_2_code 13 = .ok (.iastore, 1) := by decide +kernel
theorem d_machine_tellNames_14 : decode prog_5_method_2_code 14 = .ok (.aload_n 0, 1) := by decide +kernel
theorem d_machine_tellNames_15 : decode prog_5_method_2_code 15 = .ok (.getfield 9, 3) := by decide +kernel
theorem d_machine_tellNames_18 : decode prog_5_method_2_code 18 = .ok (.iconst 2, 1) := by decide +kernel
theorem d_machine_tellNames_19 : decode prog_5_method_2_code 19 = .ok (.iload_n 3, 1) := by decide +kernel
theorem d_machine_tellNames_20 : decode prog_5_method_2_code 20 = .ok (.iastore, 1) := by decide +kernel
theorem d_machine_tellNames_21 : decode prog_5_method_2_code 21 = .ok (.aload_n 0, 1) := by decide +kernel
theorem d_machine_tellNames_22 : decode prog_5_method_2_code 22 = .ok (.getfield 9, 3) := by decide +kernel
theorem d_machine_tellNames_25 : decode prog_5_method_2_code 25 = .ok (.iconst 3, 1) := by decide +kernel
theorem d_machine_tellNames_26 : decode prog_5_method_2_code 26 = .ok (.iload 4, 2) := by decide +kernel
theorem d_machine_tellNames_28 : decode prog_5_method_2_code 28 = .ok (.iastore, 1) := by decide +kernel
theorem d_machine_tellNames_29 : decode prog_5_method_2_code 29 = .ok (.aload_n 0, 1) := by decide +kernel
theorem d_machine_tellNames_30 : decode prog_5_method_2_code 30 = .ok (.getfield 9, 3) := by decide +kernel
theorem d_machine_tellNames_33 : decode prog_5_method_2_code 33 = .ok (.iconst 4, 1) := by decide +kernel
theorem d_machine_tellNames_34 : decode prog_5_method_2_code 34 = .ok (.iload 5, 2) := by decide +kernel
theorem d_machine_tellNames_36 : decode prog_5_method_2_code 36 = .ok (.iastore, 1) := by decide +kernel
theorem d_machine_tellNames_37 : decode prog_5_method_2_code 37 = .ok (.aload_n 0, 1) := by decide +kernel
theorem d_machine_tellNames_38 : decode prog_5_method_2_code 38 = .ok (.getfield 9, 3) := by decide +kernel
theorem d_machine_tellNames_4 : decode prog_5_method_2_code 4 = .ok (.iconst 0, 1) := by decide +kernel
theorem d_machine_tellNames_41 : decode prog_5_method_2_code 41 = .ok (.iconst 5, 1) := by decide +kernel
theorem d_machine_tellNames_42 : decode prog_5_method_2_code 42 = .ok (.iload 6, 2) := by decide +kernel
theorem d_machine_tellNames_44 : decode prog_5_method_2_code 44 = .ok (.iastore, 1) := by decide +kernel
theorem d_machine_tellNames_45 : decode prog_5_method_2_code 45 = .ok (.return_, 1) := by decide +kernel
theorem d_machine_tellNames_5 : decode prog_5_method_2_code 5 = .ok (.iload_n 1, 1) := by decide +kernel
theorem d_machine_tellNames_6 : decode prog_5_method_2_code 6 = .ok (.iastore, 1) := by decide +kernel
theorem d_machine_tellNames_7 : decode prog_5_method_2_code 7 = .ok (.aload_n 0, 1) := by decide +kernel
theorem d_machine_tellNames_8 : decode prog_5_method_2_code 8 = .ok (.getfield 9, 3) := by decide +kernel
theorem d_moment_init_0 : decode prog_6_method_1_code 0 = .ok (.aload_n 0, 1) := by decide +kernel
theorem d_moment_init_1 : decode prog_6_method_1_code 1 = .ok (.invokespecial 3, 3) := by decide +kernel
theorem d_moment_init_11 : decode prog_6_method_1_code 11 = .ok (.aload_n 0, 1) := by decide +kernel
theorem d_moment_init_12 : decode prog_6_method_1_code 12 = .ok (.bipush 10, 2) := by decide +kernel
theorem d_moment_init_14 : decode prog_6_method_1_code 14 = .ok (.anewarray 15, 3) := by decide +kernel
theorem d_moment_init_17 : decode prog_6_method_1_code 17 = .ok (.putfield 17, 3) := by decide +kernel
theorem d_moment_init_20 : decode prog_6_method_1_code 20 = .ok (.iconst 0, 1) := by decide +kernel
theorem d_moment_init_21 : decode prog_6_method_1_code 21 = .ok (.istore_n 1, 1) := by decide +kernel
theorem d_moment_init_22 : decode prog_6_method_1_code 22 = .ok (.iload_n 1, 1) := by decide +kernel
theorem d_moment_init_23 : decode prog_6_method_1_code 23 = .ok (.bipush 10, 2) := by decide +kernel
theorem d_moment_init_25 : decode prog_6_method_1_code 25 = .ok (.if_icmp .ge 22, 3) := by decide +kernel
theorem d_moment_init_28 : decode prog_6_method_1_code 28 = .ok (.aload_n 0, 1) := by decide +kernel
theorem d_moment_init_29 : decode prog_6_method_1_code 29 = .ok (.getfield 17, 3) := by decide +kernel
theorem d_moment_init_32 : decode prog_6_method_1_code 32 = .ok (.iload_n 1, 1) := by decide +kernel
theorem d_moment_init_33 : decode prog_6_method_1_code 33 = .ok (.new 15, 3) := by decide +kernel
theorem d_moment_init_36 : decode prog_6_method_1_code 36 = .ok (.dup, 1) := by decide +kernel
theorem d_moment_init_37 : decode prog_6_method_1_code 37 = .ok (.invokespecial 21, 3) := by decide +kernel
theorem d_moment_init_4 : decode prog_6_method_1_code 4 = .ok (.aload_n 0, 1) := by decide +kernel
theorem d_moment_init_40 : decode prog_6_method_1_code 40 = .ok (.aastore, 1) := by decide +kernel
theorem d_moment_init_41 : decode prog_6_method_1_code 41 = .ok (.iinc 1 1, 3) := by decide +kernel
theorem d_moment_init_44 : decode prog_6_method_1_code 44 = .ok (.goto (-22), 3) := by decide +kernel
theorem d_moment_init_47 : decode prog_6_method_1_code 47 = .ok (.return_, 1) := by decide +kernel
theorem d_moment_init_5 : decode prog_6_method_1_code 5 = .ok (.iconst 4, 1) := by decide +kernel
theorem d_moment_init_6 : decode prog_6_method_1_code 6 = .ok (.newarray .int, 2) := by decide +kernel
theorem d_moment_init_8 : decode prog_6_method_1_code 8 = .ok (.putfield 9, 3) := by decide +kernel
theorem d_moment_takeFrom_0 : decode prog_6_method_2_code 0 = .ok (.aload_n 1, 1) := by decide +kernel
theorem d_moment_takeFrom_1 : decode prog_6_method_2_code 1 = .ok (.getfield 9, 3) := by decide +kernel
theorem d_moment_takeFrom_10 : decode prog_6_method_2_code 10 = .ok (.iconst 4, 1) := by decide +kernel
theorem d_moment_takeFrom_11 : decode prog_6_method_2_code 11 = .ok (.invokestatic 22, 3) := by decide +kernel
theorem d_moment_takeFrom_14 : decode prog_6_method_2_code 14 = .ok (.iconst 0, 1) := by decide +kernel
theorem d_moment_takeFrom_15 : decode prog_6_method_2_code 15 = .ok (.istore_n 2, 1) := by decide +kernel
theorem d_moment_takeFrom_16 : decode prog_6_method_2_code 16 = .ok (.iload_n 2, 1) := by decide +kernel
theorem d_moment_takeFrom_17 : decode prog_6_method_2_code 17 = .ok (.bipush 10, 2) := by decide +kernel
theorem d_moment_takeFrom_19 : decode prog_6_method_2_code 19 = .ok (.if_icmp .ge 24, 3) := by decide +kernel
theorem d_moment_takeFrom_22 : decode prog_6_method_2_code 22 = .ok (.aload_n 0, 1) := by decide +kernel
theorem d_moment_takeFrom_23 : decode prog_6_method_2_code 23 = .ok (.getfield 17, 3) := by decide +kernel
theorem d_moment_takeFrom_26 : decode prog_6_method_2_code 26 = .ok (.iload_n 2, 1) := by decide +kernel
theorem d_moment_takeFrom_27 : decode prog_6_method_2_code 27 = .ok (.aaload, 1) := by decide +kernel
theorem d_moment_takeFrom_28 : decode prog_6_method_2_code 28 = .ok (.aload_n 1, 1) := by decide +kernel
theorem d_moment_takeFrom_29 : decode prog_6_method_2_code 29 = .ok (.getfield 17, 3) := by decide +kernel
theorem d_moment_takeFrom_32 : decode prog_6_method_2_code 32 = .ok (.iload_n 2, 1) := by decide +kernel
theorem d_moment_takeFrom_33 : decode prog_6_method_2_code 33 = .ok (.aaload, 1) := by decide +kernel
theorem d_moment_takeFrom_34 : decode prog_6_method_2_code 34 = .ok (.invokevirtual 28, 3) := by decide +kernel
theorem d_moment_takeFrom_37 : decode prog_6_method_2_code 37 = .ok (.iinc 2 1, 3) := by decide +kernel
theorem d_moment_takeFrom_4 : decode prog_6_method_2_code 4 = .ok (.iconst 0, 1) := by decide +kernel
theorem d_moment_takeFrom_40 : decode prog_6_method_2_code 40 = .ok (.goto (-24), 3) := by decide +kernel
theorem d_moment_takeFrom_43 : decode prog_6_method_2_code 43 = .ok (.aload_n 0, 1) := by decide +kernel
theorem d_moment_takeFrom_44 : decode prog_6_method_2_code 44 = .ok (.aload_n 1, 1) := by decide +kernel
theorem d_moment_takeFrom_45 : decode prog_6_method_2_code 45 = .ok (.getfield 32, 3) := by decide +kernel
theorem d_moment_takeFrom_48 : decode prog_6_method_2_code 48 = .ok (.putfield 32, 3) := by decide +kernel
theorem d_moment_takeFrom_5 : decode prog_6_method_2_code 5 = .ok (.aload_n 0, 1) := by decide +kernel
theorem d_moment_takeFrom_51 : decode prog_6_method_2_code 51 = .ok (.aload_n 0, 1) := by decide +kernel
theorem d_moment_takeFrom_52 : decode prog_6_method_2_code 52 = .ok (.aload_n 1, 1) := by decide +kernel
theorem d_moment_takeFrom_53 : decode prog_6_method_2_code 53 = .ok (.getfield 36, 3) := by decide +kernel
theorem d_moment_takeFrom_56 : decode prog_6_method_2_code 56 = .ok (.putfield 36, 3) := by decide +kernel
theorem d_moment_takeFrom_59 : decode prog_6_method_2_code 59 = .ok (.return_, 1) := by decide +kernel
theorem d_moment_takeFrom_6 : decode prog_6_method_2_code 6 = .ok (.getfield 9, 3) := by decide +kernel
theorem d_moment_takeFrom_9 : decode prog_6_method_2_code 9 = .ok (.iconst 0, 1) := by decide +kernel
theorem d_reader_advanceNumber_0 : decode prog_7_method_18_code 0 = .ok (.aload_n 0, 1) := by decide +kernel
theorem d_reader_advanceNumber_1 : decode prog_7_method_18_code 1 = .ok (.iconst 0, 1) := by decide +kernel
theorem d_reader_advanceNumber_10 : decode prog_7_method_18_code 10 = .ok (.getfield 22, 3) := by decide +kernel
theorem d_reader_advanceNumber_13 : decode prog_7_method_18_code 13 = .ok (.if_icmp .ge 64, 3) := by decide +kernel
theorem d_reader_advanceNumber_16 : decode prog_7_method_18_code 16 = .ok (.aload_n 0, 1) := by decide +kernel
theorem d_reader_advanceNumber_17 : decode prog_7_method_18_code 17 = .ok (.aload_n 0, 1) := by decide +kernel
theorem d_reader_advanceNumber_18 : decode prog_7_method_18_code 18 = .ok (.getfield 43, 3) := by decide +kernel
theorem d_reader_advanceNumber_2 : decode prog_7_method_18_code 2 = .ok (.putfield 90, 3) := by decide +kernel
theorem d_reader_advanceNumber_21 : decode prog_7_method_18_code 21 = .ok (.invokevirtual 105, 3) := by decide +kernel
theorem d_reader_advanceNumber_24 : decode prog_7_method_18_code 24 = .ok (.ifCond .eq 53, 3) := by decide +kernel
theorem d_reader_advanceNumber_27 : decode prog_7_method_18_code 27 = .ok (.aload_n 0, 1) := by decide +kernel
theorem d_reader_advanceNumber_28 : decode prog_7_method_18_code 28 = .ok (.getfield 43, 3) := by decide +kernel
theorem d_reader_advanceNumber_31 : decode prog_7_method_18_code 31 = .ok (.aload_n 0, 1) := by decide +kernel
theorem d_reader_advanceNumber_32 : decode prog_7_method_18_code 32 = .ok (.getfield 56, 3) := by decide +kernel
theorem d_reader_advanceNumber_35 : decode prog_7_method_18_code 35 = .ok (.isub, 1) := by decide +kernel
theorem d_reader_advanceNumber_36 : decode prog_7_method_18_code 36 = .ok (.iconst 4, 1) := by decide +kernel
theorem d_reader_advanceNumber_37 : decode prog_7_method_18_code 37 = .ok (.if_icmp .ge 27, 3) := by decide +kernel
theorem d_reader_advanceNumber_40 : decode prog_7_method_18_code 40 = .ok (.aload_n 0, 1) := by decide +kernel
theorem d_reader_advanceNumber_41 : decode prog_7_method_18_code 41 = .ok (.aload_n 0, 1) := by decide +kernel
theorem d_reader_advanceNumber_42 : decode prog_7_method_18_code 42 = .ok (.getfield 90, 3) := by decide +kernel
theorem d_reader_advanceNumber_45 : decode prog_7_method_18_code 45 = .ok (.bipush 10, 2) := by decide +kernel
theorem d_reader_advanceNumber_47 : decode prog_7_method_18_code 47 = .ok (.imul, 1) := by decide +kernel
theorem d_reader_advanceNumber_48 : decode prog_7_method_18_code 48 = .ok (.aload_n 0, 1) := by decide +kernel
theorem d_reader_advanceNumber_49 : decode prog_7_method_18_code 49 = .ok (.getfield 9, 3) := by decide +kernel
theorem d_reader_advanceNumber_5 : decode prog_7_method_18_code 5 = .ok (.aload_n 0, 1) := by decide +kernel
theorem d_reader_advanceNumber_52 : decode prog_7_method_18_code 52 = .ok (.aload_n 0, 1) := by decide +kernel
theorem d_reader_advanceNumber_53 : decode prog_7_method_18_code 53 = .ok (.getfield 43, 3) := by decide +kernel
theorem d_reader_advanceNumber_56 : decode prog_7_method_18_code 56 = .ok (.iaload, 1) := by decide +kernel
theorem d_reader_advanceNumber_57 : decode prog_7_method_18_code 57 = .ok (.iadd, 1) := by decide +kernel
theorem d_reader_advanceNumber_58 : decode prog_7_method_18_code 58 = .ok (.bipush 48, 2) := by decide +kernel
theorem d_reader_advanceNumber_6 : decode prog_7_method_18_code 6 = .ok (.getfield 43, 3) := by decide +kernel
theorem d_reader_advanceNumber_60 : decode prog_7_method_18_code 60 = .ok (.isub, 1) := by decide +kernel
theorem d_reader_advanceNumber_61 : decode prog_7_method_18_code 61 = .ok (.putfield 90, 3) := by decide +kernel
theorem d_reader_advanceNumber_64 : decode prog_7_method_18_code 64 = .ok (.aload_n 0, 1) := by decide +kernel
theorem d_reader_advanceNumber_65 : decode prog_7_method_18_code 65 = .ok (.dup, 1) := by decide +kernel
theorem d_reader_advanceNumber_66 : decode prog_7_method_18_code 66 = .ok (.getfield 43, 3) := by decide +kernel
theorem d_reader_advanceNumber_69 : decode prog_7_method_18_code 69 = .ok (.iconst 1, 1) := by decide +kernel
theorem d_reader_advanceNumber_70 : decode prog_7_method_18_code 70 = .ok (.iadd, 1) := by decide +kernel
theorem d_reader_advanceNumber_71 : decode prog_7_method_18_code 71 = .ok (.putfield 43, 3) := by decide +kernel
theorem d_reader_advanceNumber_74 : decode prog_7_method_18_code 74 = .ok (.goto (-69), 3) := by decide +kernel
theorem d_reader_advanceNumber_77 : decode prog_7_method_18_code 77 = .ok (.aload_n 0, 1) := by decide +kernel
theorem d_reader_advanceNumber_78 : decode prog_7_method_18_code 78 = .ok (.aload_n 0, 1) := by decide +kernel
theorem d_reader_advanceNumber_79 : decode prog_7_method_18_code 79 = .ok (.getfield 43, 3) := by decide +kernel
theorem d_reader_advanceNumber_82 : decode prog_7_method_18_code 82 = .ok (.aload_n 0, 1) := by decide +kernel
theorem d_reader_advanceNumber_83 : decode prog_7_method_18_code 83 = .ok (.getfield 56, 3) := by decide +kernel
theorem d_reader_advanceNumber_86 : decode prog_7_method_18_code 86 = .ok (.isub, 1) := by decide +kernel
theorem d_reader_advanceNumber_87 : decode prog_7_method_18_code 87 = .ok (.iconst 4, 1) := by decide +kernel
theorem d_reader_advanceNumber_88 : decode prog_7_method_18_code 88 = .ok (.if_icmp .le 7, 3) := by decide +kernel
theorem d_reader_advanceNumber_9 : decode prog_7_method_18_code 9 = .ok (.aload_n 0, 1) := by decide +kernel
theorem d_reader_advanceNumber_91 : decode prog_7_method_18_code 91 = .ok (.iconst 1, 1) := by decide +kernel
theorem d_reader_advanceNumber_92 : decode prog_7_method_18_code 92 = .ok (.goto 4, 3) := by decide +kernel
theorem d_reader_advanceNumber_95 : decode prog_7_method_18_code 95 = .ok (.iconst 2, 1) := by decide +kernel
theorem d_reader_advanceNumber_96 : decode prog_7_method_18_code 96 = .ok (.putfield 53, 3) := by decide +kernel
theorem d_reader_advanceNumber_99 : decode prog_7_method_18_code 99 = .ok (.return_, 1) := by decide +kernel
theorem d_reader_advanceWord_0 : decode prog_7_method_17_code 0 = .ok (.aload_n 0, 1) := by decide +kernel
theorem d_reader_advanceWord_1 : decode prog_7_method_17_code 1 = .ok (.getfield 43, 3) := by decide +kernel
theorem d_reader_advanceWord_11 : decode prog_7_method_17_code 11 = .ok (.aload_n 0, 1) := by decide +kernel
theorem d_reader_advanceWord_12 : decode prog_7_method_17_code 12 = .ok (.aload_n 0, 1) := by decide +kernel
theorem d_reader_advanceWord_13 : decode prog_7_method_17_code 13 = .ok (.getfield 43, 3) := by decide +kernel
theorem d_reader_advanceWord_16 : decode prog_7_method_17_code 16 = .ok (.invokevirtual 99, 3) := by decide +kernel
theorem d_reader_advanceWord_19 : decode prog_7_method_17_code 19 = .ok (.ifCond .eq 16, 3) := by decide +kernel
theorem d_reader_advanceWord_22 : decode prog_7_method_17_code 22 = .ok (.aload_n 0, 1) := by decide +kernel
theorem d_reader_advanceWord_23 : decode prog_7_method_17_code 23 = .ok (.dup, 1) := by decide +kernel
theorem d_reader_advanceWord_24 : decode prog_7_method_17_code 24 = .ok (.getfield 43, 3) := by decide +kernel
theorem d_reader_advanceWord_27 : decode prog_7_method_17_code 27 = .ok (.iconst 1, 1) := by decide +kernel
theorem d_reader_advanceWord_28 : decode prog_7_method_17_code 28 = .ok (.iadd, 1) := by decide +kernel
theorem d_reader_advanceWord_29 : decode prog_7_method_17_code 29 = .ok (.putfield 43, 3) := by decide +kernel
theorem d_reader_advanceWord_32 : decode prog_7_method_17_code 32 = .ok (.goto (-32), 3) := by decide +kernel
theorem d_reader_advanceWord_35 : decode prog_7_method_17_code 35 = .ok (.aload_n 0, 1) := by decide +kernel
theorem d_reader_advanceWord_36 : decode prog_7_method_17_code 36 = .ok (.iconst 1, 1) := by decide +kernel
theorem d_reader_advanceWord_37 : decode prog_7_method_17_code 37 = .ok (.putfield 53, 3) := by decide +kernel
theorem d_reader_advanceWord_4 : decode prog_7_method_17_code 4 = .ok (.aload_n 0, 1) := by decide +kernel
theorem d_reader_advanceWord_40 : decode prog_7_method_17_code 40 = .ok (.sipush 300, 3) := by decide +kernel
theorem d_reader_advanceWord_43 : decode prog_7_method_17_code 43 = .ok (.istore_n 1, 1) := by decide +kernel
theorem d_reader_advanceWord_44 : decode prog_7_method_17_code 44 = .ok (.iconst 0, 1) := by decide +kernel
theorem d_reader_advanceWord_45 : decode prog_7_method_17_code 45 = .ok (.istore_n 2, 1) := by decide +kernel
theorem d_reader_advanceWord_46 : decode prog_7_method_17_code 46 = .ok (.iconst 0, 1) := by decide +kernel
theorem d_reader_advanceWord_47 : decode prog_7_method_17_code 47 = .ok (.istore_n 3, 1) := by decide +kernel
theorem d_reader_advanceWord_48 : decode prog_7_method_17_code 48 = .ok (.iload_n 3, 1) := by decide +kernel
theorem d_reader_advanceWord_49 : decode prog_7_method_17_code 49 = .ok (.ldc 117, 2) := by decide +kernel
theorem d_reader_advanceWord_5 : decode prog_7_method_17_code 5 = .ok (.getfield 22, 3) := by decide +kernel
theorem d_reader_advanceWord_51 : decode prog_7_method_17_code 51 = .ok (.invokevirtual 26, 3) := by decide +kernel
theorem d_reader_advanceWord_54 : decode prog_7_method_17_code 54 = .ok (.if_icmp .ge 41, 3) := by decide +kernel
theorem d_reader_advanceWord_57 : decode prog_7_method_17_code 57 = .ok (.ldc 117, 2) := by decide +kernel
theorem d_reader_advanceWord_59 : decode prog_7_method_17_code 59 = .ok (.iload_n 3, 1) := by decide +kernel
theorem d_reader_advanceWord_60 : decode prog_7_method_17_code 60 = .ok (.invokevirtual 32, 3) := by decide +kernel
theorem d_reader_advanceWord_63 : decode prog_7_method_17_code 63 = .ok (.bipush 32, 2) := by decide +kernel
theorem d_reader_advanceWord_65 : decode prog_7_method_17_code 65 = .ok (.if_icmp .ne 24, 3) := by decide +kernel
theorem d_reader_advanceWord_68 : decode prog_7_method_17_code 68 = .ok (.aload_n 0, 1) := by decide +kernel
theorem d_reader_advanceWord_69 : decode prog_7_method_17_code 69 = .ok (.iload_n 2, 1) := by decide +kernel
theorem d_reader_advanceWord_70 : decode prog_7_method_17_code 70 = .ok (.iload_n 3, 1) := by decide +kernel
theorem d_reader_advanceWord_71 : decode prog_7_method_17_code 71 = .ok (.invokevirtual 119, 3) := by decide +kernel
theorem d_reader_advanceWord_74 : decode prog_7_method_17_code 74 = .ok (.ifCond .eq 8, 3) := by decide +kernel
theorem d_reader_advanceWord_77 : decode prog_7_method_17_code 77 = .ok (.aload_n 0, 1) := by decide +kernel
theorem d_reader_advanceWord_78 : decode prog_7_method_17_code 78 = .ok (.iload_n 1, 1) := by decide +kernel
theorem d_reader_advanceWord_79 : decode prog_7_method_17_code 79 = .ok (.putfield 53, 3) := by decide +kernel
theorem d_reader_advanceWord_8 : decode prog_7_method_17_code 8 = .ok (.if_icmp .ge 27, 3) := by decide +kernel
theorem d_reader_advanceWord_82 : decode prog_7_method_17_code 82 = .ok (.iinc 1 1, 3) := by decide +kernel
theorem d_reader_advanceWord_85 : decode prog_7_method_17_code 85 = .ok (.iload_n 3, 1) := by decide +kernel
theorem d_reader_advanceWord_86 : decode prog_7_method_17_code 86 = .ok (.iconst 1, 1) := by decide +kernel
theorem d_reader_advanceWord_87 : decode prog_7_method_17_code 87 = .ok (.iadd, 1) := by decide +kernel
theorem d_reader_advanceWord_88 : decode prog_7_method_17_code 88 = .ok (.istore_n 2, 1) := by decide +kernel
theorem d_reader_advanceWord_89 : decode prog_7_method_17_code 89 = .ok (.iinc 3 1, 3) := by decide +kernel
theorem d_reader_advanceWord_92 : decode prog_7_method_17_code 92 = .ok (.goto (-44), 3) := by decide +kernel
theorem d_reader_advanceWord_95 : decode prog_7_method_17_code 95 = .ok (.return_, 1) := by decide +kernel
theorem d_reader_advance_0 : decode prog_7_method_16_code 0 = .ok (.aload_n 0, 1) := by decide +kernel
theorem d_reader_advance_1 : decode prog_7_method_16_code 1 = .ok (.getfield 43, 3) := by decide +kernel
theorem d_reader_advance_102 : decode prog_7_method_16_code 102 = .ok (.invokevirtual 105, 3) := by decide +kernel
theorem d_reader_advance_105 : decode prog_7_method_16_code 105 = .ok (.ifCond .eq 10, 3) := by decide +kernel
theorem d_reader_advance_108 : decode prog_7_method_16_code 108 = .ok (.aload_n 0, 1) := by decide +kernel
theorem d_reader_advance_109 : decode prog_7_method_16_code 109 = .ok (.invokevirtual 108, 3) := by decide +kernel
theorem d_reader_advance_11 : decode prog_7_method_16_code 11 = .ok (.aload_n 0, 1) := by decide +kernel
theorem d_reader_advance_112 : decode prog_7_method_16_code 112 = .ok (.goto 48, 3) := by decide +kernel
theorem d_reader_advance_115 : decode prog_7_method_16_code 115 = .ok (.aload_n 0, 1) := by decide +kernel
theorem d_reader_advance_116 : decode prog_7_method_16_code 116 = .ok (.ldc 111, 2) := by decide +kernel
theorem d_reader_advance_118 : decode prog_7_method_16_code 118 = .ok (.aload_n 0, 1) := by decide +kernel
theorem d_reader_advance_119 : decode prog_7_method_16_code 119 = .ok (.getfield 9, 3) := by decide +kernel
theorem d_reader_advance_12 : decode prog_7_method_16_code 12 = .ok (.getfield 9, 3) := by decide +kernel
theorem d_reader_advance_122 : decode prog_7_method_16_code 122 = .ok (.aload_n 0, 1) := by decide +kernel
theorem d_reader_advance_123 : decode prog_7_method_16_code 123 = .ok (.getfield 43, 3) := by decide +kernel
theorem d_reader_advance_126 : decode prog_7_method_16_code 126 = .ok (.iaload, 1) := by decide +kernel
theorem d_reader_advance_127 : decode prog_7_method_16_code 127 = .ok (.i2c, 1) := by decide +kernel
theorem d_reader_advance_128 : decode prog_7_method_16_code 128 = .ok (.invokevirtual 113, 3) := by decide +kernel
theorem d_reader_advance_131 : decode prog_7_method_16_code 131 = .ok (.ifCond .lt 15, 3) := by decide +kernel
theorem d_reader_advance_134 : decode prog_7_method_16_code 134 = .ok (.aload_n 0, 1) := by decide +kernel
theorem d_reader_advance_135 : decode prog_7_method_16_code 135 = .ok (.getfield 9, 3) := by decide +kernel
theorem d_reader_advance_138 : decode prog_7_method_16_code 138 = .ok (.aload_n 0, 1) := by decide +kernel
theorem d_reader_advance_139 : decode prog_7_method_16_code 139 = .ok (.getfield 43, 3) := by decide +kernel
theorem d_reader_advance_142 : decode prog_7_method_16_code 142 = .ok (.iaload, 1) := by decide +kernel
theorem d_reader_advance_143 : decode prog_7_method_16_code 143 = .ok (.goto 4, 3) := by decide +kernel
theorem d_reader_advance_146 : decode prog_7_method_16_code 146 = .ok (.iconst 1, 1) := by decide +kernel
theorem d_reader_advance_147 : decode prog_7_method_16_code 147 = .ok (.putfield 53, 3) := by decide +kernel
theorem d_reader_advance_15 : decode prog_7_method_16_code 15 = .ok (.aload_n 0, 1) := by decide +kernel
theorem d_reader_advance_150 : decode prog_7_method_16_code 150 = .ok (.aload_n 0, 1) := by decide +kernel
theorem d_reader_advance_151 : decode prog_7_method_16_code 151 = .ok (.dup, 1) := by decide +kernel
theorem d_reader_advance_152 : decode prog_7_method_16_code 152 = .ok (.getfield 43, 3) := by decide +kernel
theorem d_reader_advance_155 : decode prog_7_method_16_code 155 = .ok (.iconst 1, 1) := by decide +kernel
theorem d_reader_advance_156 : decode prog_7_method_16_code 156 = .ok (.iadd, 1) := by decide +kernel
theorem d_reader_advance_157 : decode prog_7_method_16_code 157 = .ok (.putfield 43, 3) := by decide +kernel
theorem d_reader_advance_16 : decode prog_7_method_16_code 16 = .ok (.getfield 43, 3) := by decide +kernel
theorem d_reader_advance_160 : decode prog_7_method_16_code 160 = .ok (.return_, 1) := by decide +kernel
theorem d_reader_advance_19 : decode prog_7_method_16_code 19 = .ok (.iaload, 1) := by decide +kernel
theorem d_reader_advance_20 : decode prog_7_method_16_code 20 = .ok (.bipush 32, 2) := by decide +kernel
theorem d_reader_advance_22 : decode prog_7_method_16_code 22 = .ok (.if_icmp .eq 17, 3) := by decide +kernel
theorem d_reader_advance_25 : decode prog_7_method_16_code 25 = .ok (.aload_n 0, 1) := by decide +kernel
theorem d_reader_advance_26 : decode prog_7_method_16_code 26 = .ok (.getfield 9, 3) := by decide +kernel
theorem d_reader_advance_29 : decode prog_7_method_16_code 29 = .ok (.aload_n 0, 1) := by decide +kernel
theorem d_reader_advance_30 : decode prog_7_method_16_code 30 = .ok (.getfield 43, 3) := by decide +kernel
theorem d_reader_advance_33 : decode prog_7_method_16_code 33 = .ok (.iaload, 1) := by decide +kernel
theorem d_reader_advance_34 : decode prog_7_method_16_code 34 = .ok (.bipush 10, 2) := by decide +kernel
theorem d_reader_advance_36 : decode prog_7_method_16_code 36 = .ok (.if_icmp .ne 16, 3) := by decide +kernel
theorem d_reader_advance_39 : decode prog_7_method_16_code 39 = .ok (.aload_n 0, 1) := by decide +kernel
theorem d_reader_advance_4 : decode prog_7_method_16_code 4 = .ok (.aload_n 0, 1) := by decide +kernel
theorem d_reader_advance_40 : decode prog_7_method_16_code 40 = .ok (.dup, 1) := by decide +kernel
theorem d_reader_advance_41 : decode prog_7_method_16_code 41 = .ok (.getfield 43, 3) := by decide +kernel
theorem d_reader_advance_44 : decode prog_7_method_16_code 44 = .ok (.iconst 1, 1) := by decide +kernel
theorem d_reader_advance_45 : decode prog_7_method_16_code 45 = .ok (.iadd, 1) := by decide +kernel
theorem d_reader_advance_46 : decode prog_7_method_16_code 46 = .ok (.putfield 43, 3) := by decide +kernel
theorem d_reader_advance_49 : decode prog_7_method_16_code 49 = .ok (.goto (-49), 3) := by decide +kernel
theorem d_reader_advance_5 : decode prog_7_method_16_code 5 = .ok (.getfield 22, 3) := by decide +kernel
theorem d_reader_advance_52 : decode prog_7_method_16_code 52 = .ok (.aload_n 0, 1) := by decide +kernel
theorem d_reader_advance_53 : decode prog_7_method_16_code 53 = .ok (.aload_n 0, 1) := by decide +kernel
theorem d_reader_advance_54 : decode prog_7_method_16_code 54 = .ok (.getfield 43, 3) := by decide +kernel
theorem d_reader_advance_57 : decode prog_7_method_16_code 57 = .ok (.putfield 56, 3) := by decide +kernel
theorem d_reader_advance_60 : decode prog_7_method_16_code 60 = .ok (.aload_n 0, 1) := by decide +kernel
theorem d_reader_advance_61 : decode prog_7_method_16_code 61 = .ok (.getfield 43, 3) := by decide +kernel
theorem d_reader_advance_64 : decode prog_7_method_16_code 64 = .ok (.aload_n 0, 1) := by decide +kernel
theorem d_reader_advance_65 : decode prog_7_method_16_code 65 = .ok (.getfield 22, 3) := by decide +kernel
theorem d_reader_advance_68 : decode prog_7_method_16_code 68 = .ok (.if_icmp .lt 11, 3) := by decide +kernel
theorem d_reader_advance_71 : decode prog_7_method_16_code 71 = .ok (.aload_n 0, 1) := by decide +kernel
theorem d_reader_advance_72 : decode prog_7_method_16_code 72 = .ok (.iconst 0, 1) := by decide +kernel
theorem d_reader_advance_73 : decode prog_7_method_16_code 73 = .ok (.putfield 53, 3) := by decide +kernel
theorem d_reader_advance_76 : decode prog_7_method_16_code 76 = .ok (.goto 84, 3) := by decide +kernel
theorem d_reader_advance_79 : decode prog_7_method_16_code 79 = .ok (.aload_n 0, 1) := by decide +kernel
theorem d_reader_advance_8 : decode prog_7_method_16_code 8 = .ok (.if_icmp .ge 44, 3) := by decide +kernel
theorem d_reader_advance_80 : decode prog_7_method_16_code 80 = .ok (.aload_n 0, 1) := by decide +kernel
theorem d_reader_advance_81 : decode prog_7_method_16_code 81 = .ok (.getfield 43, 3) := by decide +kernel
theorem d_reader_advance_84 : decode prog_7_method_16_code 84 = .ok (.invokevirtual 99, 3) := by decide +kernel
theorem d_reader_advance_87 : decode prog_7_method_16_code 87 = .ok (.ifCond .eq 10, 3) := by decide +kernel
theorem d_reader_advance_90 : decode prog_7_method_16_code 90 = .ok (.aload_n 0, 1) := by decide +kernel
theorem d_reader_advance_91 : decode prog_7_method_16_code 91 = .ok (.invokevirtual 102, 3) := by decide +kernel
theorem d_reader_advance_94 : decode prog_7_method_16_code 94 = .ok (.goto 66, 3) := by decide +kernel
theorem d_reader_advance_97 : decode prog_7_method_16_code 97 = .ok (.aload_n 0, 1) := by decide +kernel
theorem d_reader_advance_98 : decode prog_7_method_16_code 98 = .ok (.aload_n 0, 1) := by decide +kernel
theorem d_reader_advance_99 : decode prog_7_method_16_code 99 = .ok (.getfield 43, 3) := by decide +kernel
theorem d_reader_append_0 : decode prog_7_method_2_code 0 = .ok (.aload_n 0, 1) := by decide +kernel
theorem d_reader_append_1 : decode prog_7_method_2_code 1 = .ok (.getfield 22, 3) := by decide +kernel
theorem d_reader_append_10 : decode prog_7_method_2_code 10 = .ok (.aload_n 0, 1) := by decide +kernel
theorem d_reader_append_11 : decode prog_7_method_2_code 11 = .ok (.getfield 9, 3) := by decide +kernel
theorem d_reader_append_14 : decode prog_7_method_2_code 14 = .ok (.aload_n 0, 1) := by decide +kernel
theorem d_reader_append_15 : decode prog_7_method_2_code 15 = .ok (.getfield 22, 3) := by decide +kernel
theorem d_reader_append_18 : decode prog_7_method_2_code 18 = .ok (.iload_n 1, 1) := by decide +kernel
theorem d_reader_append_19 : decode prog_7_method_2_code 19 = .ok (.iastore, 1) := by decide +kernel
theorem d_reader_append_20 : decode prog_7_method_2_code 20 = .ok (.aload_n 0, 1) := by decide +kernel
theorem d_reader_append_21 : decode prog_7_method_2_code 21 = .ok (.dup, 1) := by decide +kernel
theorem d_reader_append_22 : decode prog_7_method_2_code 22 = .ok (.getfield 22, 3) := by decide +kernel
theorem d_reader_append_25 : decode prog_7_method_2_code 25 = .ok (.iconst 1, 1) := by decide +kernel
theorem d_reader_append_26 : decode prog_7_method_2_code 26 = .ok (.iadd, 1) := by decide +kernel
theorem d_reader_append_27 : decode prog_7_method_2_code 27 = .ok (.putfield 22, 3) := by decide +kernel
theorem d_reader_append_30 : decode prog_7_method_2_code 30 = .ok (.return_, 1) := by decide +kernel
theorem d_reader_append_4 : decode prog_7_method_2_code 4 = .ok (.sipush 160, 3) := by decide +kernel
theorem d_reader_append_7 : decode prog_7_method_2_code 7 = .ok (.if_icmp .ge 23, 3) := by decide +kernel
theorem d_reader_empty_0 : decode prog_7_method_4_code 0 = .ok (.aload_n 0, 1) := by decide +kernel
theorem d_reader_empty_1 : decode prog_7_method_4_code 1 = .ok (.iconst 0, 1) := by decide +kernel
theorem d_reader_empty_2 : decode prog_7_method_4_code 2 = .ok (.putfield 22, 3) := by decide +kernel
theorem d_reader_empty_5 : decode prog_7_method_4_code 5 = .ok (.return_, 1) := by decide +kernel
theorem d_reader_fill_0 : decode prog_7_method_3_code 0 = .ok (.iconst 0, 1) := by decide +kernel
theorem d_reader_fill_1 : decode prog_7_method_3_code 1 = .ok (.istore_n 2, 1) := by decide +kernel
theorem d_reader_fill_10 : decode prog_7_method_3_code 10 = .ok (.aload_n 0, 1) := by decide +kernel
theorem d_reader_fill_11 : decode prog_7_method_3_code 11 = .ok (.aload_n 1, 1) := by decide +kernel
theorem d_reader_fill_12 : decode prog_7_method_3_code 12 = .ok (.iload_n 2, 1) := by decide +kernel
theorem d_reader_fill_13 : decode prog_7_method_3_code 13 = .ok (.invokevirtual 32, 3) := by decide +kernel
theorem d_reader_fill_16 : decode prog_7_method_3_code 16 = .ok (.invokevirtual 36, 3) := by decide +kernel
theorem d_reader_fill_19 : decode prog_7_method_3_code 19 = .ok (.iinc 2 1, 3) := by decide +kernel
theorem d_reader_fill_2 : decode prog_7_method_3_code 2 = .ok (.iload_n 2, 1) := by decide +kernel
theorem d_reader_fill_22 : decode prog_7_method_3_code 22 = .ok (.goto (-20), 3) := by decide +kernel
theorem d_reader_fill_25 : decode prog_7_method_3_code 25 = .ok (.return_, 1) := by decide +kernel
theorem d_reader_fill_3 : decode prog_7_method_3_code 3 = .ok (.aload_n 1, 1) := by decide +kernel
theorem d_reader_fill_4 : decode prog_7_method_3_code 4 = .ok (.invokevirtual 26, 3) := by decide +kernel
theorem d_reader_fill_7 : decode prog_7_method_3_code 7 = .ok (.if_icmp .ge 18, 3) := by decide +kernel
theorem d_reader_findFault_0 : decode prog_7_method_5_code 0 = .ok (.aload_n 0, 1) := by decide +kernel
theorem d_reader_findFault_1 : decode prog_7_method_5_code 1 = .ok (.getfield 18, 3) := by decide +kernel
theorem d_reader_findFault_12 : decode prog_7_method_5_code 12 = .ok (.aload_n 0, 1) := by decide +kernel
theorem d_reader_findFault_13 : decode prog_7_method_5_code 13 = .ok (.invokevirtual 46, 3) := by decide +kernel
theorem d_reader_findFault_16 : decode prog_7_method_5_code 16 = .ok (.aload_n 0, 1) := by decide +kernel
theorem d_reader_findFault_17 : decode prog_7_method_5_code 17 = .ok (.sipush 300, 3) := by decide +kernel
theorem d_reader_findFault_20 : decode prog_7_method_5_code 20 = .ok (.invokevirtual 49, 3) := by decide +kernel
theorem d_reader_findFault_23 : decode prog_7_method_5_code 23 = .ok (.ifCond .eq 34, 3) := by decide +kernel
theorem d_reader_findFault_26 : decode prog_7_method_5_code 26 = .ok (.aload_n 0, 1) := by decide +kernel
theorem d_reader_findFault_27 : decode prog_7_method_5_code 27 = .ok (.sipush 301, 3) := by decide +kernel
theorem d_reader_findFault_30 : decode prog_7_method_5_code 30 = .ok (.invokevirtual 49, 3) := by decide +kernel
theorem d_reader_findFault_33 : decode prog_7_method_5_code 33 = .ok (.ifCond .eq 24, 3) := by decide +kernel
theorem d_reader_findFault_36 : decode prog_7_method_5_code 36 = .ok (.aload_n 0, 1) := by decide +kernel
theorem d_reader_findFault_37 : decode prog_7_method_5_code 37 = .ok (.sipush 302, 3) := by decide +kernel
theorem d_reader_findFault_4 : decode prog_7_method_5_code 4 = .ok (.invokevirtual 40, 3) := by decide +kernel
theorem d_reader_findFault_40 : decode prog_7_method_5_code 40 = .ok (.invokevirtual 49, 3) := by decide +kernel
theorem d_reader_findFault_43 : decode prog_7_method_5_code 43 = .ok (.ifCond .eq 14, 3) := by decide +kernel
theorem d_reader_findFault_46 : decode prog_7_method_5_code 46 = .ok (.aload_n 0, 1) := by decide +kernel
theorem d_reader_findFault_47 : decode prog_7_method_5_code 47 = .ok (.getfield 53, 3) := by decide +kernel
theorem d_reader_findFault_50 : decode prog_7_method_5_code 50 = .ok (.ifCond .ne 7, 3) := by decide +kernel
theorem d_reader_findFault_53 : decode prog_7_method_5_code 53 = .ok (.iconst 1, 1) := by decide +kernel
theorem d_reader_findFault_54 : decode prog_7_method_5_code 54 = .ok (.goto 4, 3) := by decide +kernel
theorem d_reader_findFault_57 : decode prog_7_method_5_code 57 = .ok (.iconst 0, 1) := by decide +kernel
theorem d_reader_findFault_58 : decode prog_7_method_5_code 58 = .ok (.istore_n 1, 1) := by decide +kernel
theorem d_reader_findFault_59 : decode prog_7_method_5_code 59 = .ok (.iload_n 1, 1) := by decide +kernel
theorem d_reader_findFault_60 : decode prog_7_method_5_code 60 = .ok (.ifCond .eq 7, 3) := by decide +kernel
theorem d_reader_findFault_63 : decode prog_7_method_5_code 63 = .ok (.iconst (-1), 1) := by decide +kernel
theorem d_reader_findFault_64 : decode prog_7_method_5_code 64 = .ok (.goto 7, 3) := by decide +kernel
theorem d_reader_findFault_67 : decode prog_7_method_5_code 67 = .ok (.aload_n 0, 1) := by decide +kernel
theorem d_reader_findFault_68 : decode prog_7_method_5_code 68 = .ok (.getfield 56, 3) := by decide +kernel
theorem d_reader_findFault_7 : decode prog_7_method_5_code 7 = .ok (.aload_n 0, 1) := by decide +kernel
theorem d_reader_findFault_71 : decode prog_7_method_5_code 71 = .ok (.ireturn, 1) := by decide +kernel
theorem d_reader_findFault_8 : decode prog_7_method_5_code 8 = .ok (.iconst 0, 1) := by decide +kernel
theorem d_reader_findFault_9 : decode prog_7_method_5_code 9 = .ok (.putfield 43, 3) := by decide +kernel
theorem d_reader_init_0 : decode prog_7_method_1_code 0 = .ok (.aload_n 0, 1) := by decide +kernel
theorem d_reader_init_1 : decode prog_7_method_1_code 1 = .ok (.invokespecial 3, 3) := by decide +kernel
theorem d_reader_init_10 : decode prog_7_method_1_code 10 = .ok (.putfield 9, 3) := by decide +kernel
theorem d_reader_init_13 : decode prog_7_method_1_code 13 = .ok (.aload_n 0, 1) := by decide +kernel
theorem d_reader_init_14 : decode prog_7_method_1_code 14 = .ok (.new 15, 3) := by decide +kernel
theorem d_reader_init_17 : decode prog_7_method_1_code 17 = .ok (.dup, 1) := by decide +kernel
theorem d_reader_init_18 : decode prog_7_method_1_code 18 = .ok (.invokespecial 17, 3) := by decide +kernel
theorem d_reader_init_21 : decode prog_7_method_1_code 21 = .ok (.putfield 18, 3) := by decide +kernel
theorem d_reader_init_24 : decode prog_7_method_1_code 24 = .ok (.return_, 1) := by decide +kernel
theorem d_reader_init_4 : decode prog_7_method_1_code 4 = .ok (.aload_n 0, 1) := by decide +kernel
theorem d_reader_init_5 : decode prog_7_method_1_code 5 = .ok (.sipush 160, 3) := by decide +kernel
theorem d_reader_init_8 : decode prog_7_method_1_code 8 = .ok (.newarray .int, 2) := by decide +kernel
theorem d_reader_isDigit_0 : decode prog_7_method_21_code 0 = .ok (.aload_n 0, 1) := by decide +kernel
theorem d_reader_isDigit_1 : decode prog_7_method_21_code 1 = .ok (.getfield 9, 3) := by decide +kernel
theorem d_reader_isDigit_10 : decode prog_7_method_21_code 10 = .ok (.invokestatic 86, 3) := by decide +kernel
theorem d_reader_isDigit_13 : decode prog_7_method_21_code 13 = .ok (.ireturn, 1) := by decide +kernel
theorem d_reader_isDigit_4 : decode prog_7_method_21_code 4 = .ok (.iload_n 1, 1) := by decide +kernel
theorem d_reader_isDigit_5 : decode prog_7_method_21_code 5 = .ok (.iaload, 1) := by decide +kernel
theorem d_reader_isDigit_6 : decode prog_7_method_21_code 6 = .ok (.bipush 48, 2) := by decide +kernel
theorem d_reader_isDigit_8 : decode prog_7_method_21_code 8 = .ok (.bipush 57, 2) := by decide +kernel
theorem d_reader_isLetter_0 : decode prog_7_method_20_code 0 = .ok (.aload_n 0, 1) := by decide +kernel
theorem d_reader_isLetter_1 : decode prog_7_method_20_code 1 = .ok (.getfield 9, 3) := by decide +kernel
theorem d_reader_isLetter_10 : decode prog_7_method_20_code 10 = .ok (.invokestatic 86, 3) := by decide +kernel
theorem d_reader_isLetter_13 : decode prog_7_method_20_code 13 = .ok (.ireturn, 1) := by decide +kernel
theorem d_reader_isLetter_4 : decode prog_7_method_20_code 4 = .ok (.iload_n 1, 1) := by decide +kernel
theorem d_reader_isLetter_5 : decode prog_7_method_20_code 5 = .ok (.iaload, 1) := by decide +kernel
theorem d_reader_isLetter_6 : decode prog_7_method_20_code 6 = .ok (.bipush 97, 2) := by decide +kernel
theorem d_reader_isLetter_8 : decode prog_7_method_20_code 8 = .ok (.bipush 122, 2) := by decide +kernel
theorem d_reader_isWord_0 : decode prog_7_method_19_code 0 = .ok (.iload_n 2, 1) := by decide +kernel
theorem d_reader_isWord_1 : decode prog_7_method_19_code 1 = .ok (.iload_n 1, 1) := by decide +kernel
theorem d_reader_isWord_11 : decode prog_7_method_19_code 11 = .ok (.isub, 1) := by decide +kernel
theorem d_reader_isWord_12 : decode prog_7_method_19_code 12 = .ok (.if_icmp .eq 5, 3) := by decide +kernel
theorem d_reader_isWord_15 : decode prog_7_method_19_code 15 = .ok (.iconst 0, 1) := by decide +kernel
theorem d_reader_isWord_16 : decode prog_7_method_19_code 16 = .ok (.ireturn, 1) := by decide +kernel
theorem d_reader_isWord_17 : decode prog_7_method_19_code 17 = .ok (.iconst 0, 1) := by decide +kernel
theorem d_reader_isWord_18 : decode prog_7_method_19_code 18 = .ok (.istore_n 3, 1) := by decide +kernel
theorem d_reader_isWord_19 : decode prog_7_method_19_code 19 = .ok (.iload_n 3, 1) := by decide +kernel
theorem d_reader_isWord_2 : decode prog_7_method_19_code 2 = .ok (.isub, 1) := by decide +kernel
theorem d_reader_isWord_20 : decode prog_7_method_19_code 20 = .ok (.iload_n 2, 1) := by decide +kernel
theorem d_reader_isWord_21 : decode prog_7_method_19_code 21 = .ok (.iload_n 1, 1) := by decide +kernel
theorem d_reader_isWord_22 : decode prog_7_method_19_code 22 = .ok (.isub, 1) := by decide +kernel
theorem d_reader_isWord_23 : decode prog_7_method_19_code 23 = .ok (.if_icmp .ge 33, 3) := by decide +kernel
theorem d_reader_isWord_26 : decode prog_7_method_19_code 26 = .ok (.ldc 117, 2) := by decide +kernel
theorem d_reader_isWord_28 : decode prog_7_method_19_code 28 = .ok (.iload_n 1, 1) := by decide +kernel
theorem d_reader_isWord_29 : decode prog_7_method_19_code 29 = .ok (.iload_n 3, 1) := by decide +kernel
theorem d_reader_isWord_3 : decode prog_7_method_19_code 3 = .ok (.aload_n 0, 1) := by decide +kernel
theorem d_reader_isWord_30 : decode prog_7_method_19_code 30 = .ok (.iadd, 1) := by decide +kernel
theorem d_reader_isWord_31 : decode prog_7_method_19_code 31 = .ok (.invokevirtual 32, 3) := by decide +kernel
theorem d_reader_isWord_34 : decode prog_7_method_19_code 34 = .ok (.aload_n 0, 1) := by decide +kernel
theorem d_reader_isWord_35 : decode prog_7_method_19_code 35 = .ok (.getfield 9, 3) := by decide +kernel
theorem d_reader_isWord_38 : decode prog_7_method_19_code 38 = .ok (.aload_n 0, 1) := by decide +kernel
theorem d_reader_isWord_39 : decode prog_7_method_19_code 39 = .ok (.getfield 56, 3) := by decide +kernel
theorem d_reader_isWord_4 : decode prog_7_method_19_code 4 = .ok (.getfield 43, 3) := by decide +kernel
theorem d_reader_isWord_42 : decode prog_7_method_19_code 42 = .ok (.iload_n 3, 1) := by decide +kernel
theorem d_reader_isWord_43 : decode prog_7_method_19_code 43 = .ok (.iadd, 1) := by decide +kernel
theorem d_reader_isWord_44 : decode prog_7_method_19_code 44 = .ok (.iaload, 1) := by decide +kernel
theorem d_reader_isWord_45 : decode prog_7_method_19_code 45 = .ok (.if_icmp .eq 5, 3) := by decide +kernel
theorem d_reader_isWord_48 : decode prog_7_method_19_code 48 = .ok (.iconst 0, 1) := by decide +kernel
theorem d_reader_isWord_49 : decode prog_7_method_19_code 49 = .ok (.ireturn, 1) := by decide +kernel
theorem d_reader_isWord_50 : decode prog_7_method_19_code 50 = .ok (.iinc 3 1, 3) := by decide +kernel
theorem d_reader_isWord_53 : decode prog_7_method_19_code 53 = .ok (.goto (-34), 3) := by decide +kernel
theorem d_reader_isWord_56 : decode prog_7_method_19_code 56 = .ok (.iconst 1, 1) := by decide +kernel
theorem d_reader_isWord_57 : decode prog_7_method_19_code 57 = .ok (.ireturn, 1) := by decide +kernel
theorem d_reader_isWord_7 : decode prog_7_method_19_code 7 = .ok (.aload_n 0, 1) := by decide +kernel
theorem d_reader_isWord_8 : decode prog_7_method_19_code 8 = .ok (.getfield 56, 3) := by decide +kernel
theorem d_reader_readAnds_0 : decode prog_7_method_8_code 0 = .ok (.aload_n 0, 1) := by decide +kernel
theorem d_reader_readAnds_1 : decode prog_7_method_8_code 1 = .ok (.iload_n 1, 1) := by decide +kernel
theorem d_reader_readAnds_10 : decode prog_7_method_8_code 10 = .ok (.iconst 0, 1) := by decide +kernel
theorem d_reader_readAnds_11 : decode prog_7_method_8_code 11 = .ok (.istore_n 2, 1) := by decide +kernel
theorem d_reader_readAnds_12 : decode prog_7_method_8_code 12 = .ok (.iload_n 2, 1) := by decide +kernel
theorem d_reader_readAnds_13 : decode prog_7_method_8_code 13 = .ok (.sipush 160, 3) := by decide +kernel
theorem d_reader_readAnds_16 : decode prog_7_method_8_code 16 = .ok (.if_icmp .ge 43, 3) := by decide +kernel
theorem d_reader_readAnds_19 : decode prog_7_method_8_code 19 = .ok (.aload_n 0, 1) := by decide +kernel
theorem d_reader_readAnds_2 : decode prog_7_method_8_code 2 = .ok (.invokevirtual 71, 3) := by decide +kernel
theorem d_reader_readAnds_20 : decode prog_7_method_8_code 20 = .ok (.getfield 53, 3) := by decide +kernel
theorem d_reader_readAnds_23 : decode prog_7_method_8_code 23 = .ok (.sipush 304, 3) := by decide +kernel
theorem d_reader_readAnds_26 : decode prog_7_method_8_code 26 = .ok (.if_icmp .ne 33, 3) := by decide +kernel
theorem d_reader_readAnds_29 : decode prog_7_method_8_code 29 = .ok (.aload_n 0, 1) := by decide +kernel
theorem d_reader_readAnds_30 : decode prog_7_method_8_code 30 = .ok (.invokevirtual 46, 3) := by decide +kernel
theorem d_reader_readAnds_33 : decode prog_7_method_8_code 33 = .ok (.aload_n 0, 1) := by decide +kernel
theorem d_reader_readAnds_34 : decode prog_7_method_8_code 34 = .ok (.iload_n 1, 1) := by decide +kernel
theorem d_reader_readAnds_35 : decode prog_7_method_8_code 35 = .ok (.invokevirtual 71, 3) := by decide +kernel
theorem d_reader_readAnds_38 : decode prog_7_method_8_code 38 = .ok (.ifCond .ne 5, 3) := by decide +kernel
theorem d_reader_readAnds_41 : decode prog_7_method_8_code 41 = .ok (.iconst 0, 1) := by decide +kernel
theorem d_reader_readAnds_42 : decode prog_7_method_8_code 42 = .ok (.ireturn, 1) := by decide +kernel
theorem d_reader_readAnds_43 : decode prog_7_method_8_code 43 = .ok (.aload_n 0, 1) := by decide +kernel
theorem d_reader_readAnds_44 : decode prog_7_method_8_code 44 = .ok (.getfield 18, 3) := by decide +kernel
theorem d_reader_readAnds_47 : decode prog_7_method_8_code 47 = .ok (.sipush (-304), 3) := by decide +kernel
theorem d_reader_readAnds_5 : decode prog_7_method_8_code 5 = .ok (.ifCond .ne 5, 3) := by decide +kernel
theorem d_reader_readAnds_50 : decode prog_7_method_8_code 50 = .ok (.invokevirtual 68, 3) := by decide +kernel
theorem d_reader_readAnds_53 : decode prog_7_method_8_code 53 = .ok (.iinc 2 1, 3) := by decide +kernel
theorem d_reader_readAnds_56 : decode prog_7_method_8_code 56 = .ok (.goto (-44), 3) := by decide +kernel
theorem d_reader_readAnds_59 : decode prog_7_method_8_code 59 = .ok (.iconst 1, 1) := by decide +kernel
theorem d_reader_readAnds_60 : decode prog_7_method_8_code 60 = .ok (.ireturn, 1) := by decide +kernel
theorem d_reader_readAnds_8 : decode prog_7_method_8_code 8 = .ok (.iconst 0, 1) := by decide +kernel
theorem d_reader_readAnds_9 : decode prog_7_method_8_code 9 = .ok (.ireturn, 1) := by decide +kernel
theorem d_reader_readBracketed_0 : decode prog_7_method_15_code 0 = .ok (.aload_n 0, 1) := by decide +kernel
theorem d_reader_readBracketed_1 : decode prog_7_method_15_code 1 = .ok (.iload_n 1, 1) := by decide +kernel
theorem d_reader_readBracketed_12 : decode prog_7_method_15_code 12 = .ok (.bipush 41, 2) := by decide +kernel
theorem d_reader_readBracketed_14 : decode prog_7_method_15_code 14 = .ok (.if_icmp .eq 5, 3) := by decide +kernel
theorem d_reader_readBracketed_17 : decode prog_7_method_15_code 17 = .ok (.iconst 0, 1) := by decide +kernel
theorem d_reader_readBracketed_18 : decode prog_7_method_15_code 18 = .ok (.ireturn, 1) := by decide +kernel
theorem d_reader_readBracketed_19 : decode prog_7_method_15_code 19 = .ok (.aload_n 0, 1) := by decide +kernel
theorem d_reader_readBracketed_2 : decode prog_7_method_15_code 2 = .ok (.invokevirtual 59, 3) := by decide +kernel
theorem d_reader_readBracketed_20 : decode prog_7_method_15_code 20 = .ok (.invokevirtual 46, 3) := by decide +kernel
theorem d_reader_readBracketed_23 : decode prog_7_method_15_code 23 = .ok (.iconst 1, 1) := by decide +kernel
theorem d_reader_readBracketed_24 : decode prog_7_method_15_code 24 = .ok (.ireturn, 1) := by decide +kernel
theorem d_reader_readBracketed_5 : decode prog_7_method_15_code 5 = .ok (.ifCond .eq 12, 3) := by decide +kernel
theorem d_reader_readBracketed_8 : decode prog_7_method_15_code 8 = .ok (.aload_n 0, 1) := by decide +kernel
theorem d_reader_readBracketed_9 : decode prog_7_method_15_code 9 = .ok (.getfield 53, 3) := by decide +kernel
theorem d_reader_readComparison_0 : decode prog_7_method_10_code 0 = .ok (.aload_n 0, 1) := by decide +kernel
theorem d_reader_readComparison_1 : decode prog_7_method_10_code 1 = .ok (.iload_n 1, 1) := by decide +kernel
theorem d_reader_readComparison_10 : decode prog_7_method_10_code 10 = .ok (.aload_n 0, 1) := by decide +kernel
theorem d_reader_readComparison_11 : decode prog_7_method_10_code 11 = .ok (.getfield 53, 3) := by decide +kernel
theorem d_reader_readComparison_14 : decode prog_7_method_10_code 14 = .ok (.bipush 60, 2) := by decide +kernel
theorem d_reader_readComparison_16 : decode prog_7_method_10_code 16 = .ok (.if_icmp .eq 14, 3) := by decide +kernel
theorem d_reader_readComparison_19 : decode prog_7_method_10_code 19 = .ok (.aload_n 0, 1) := by decide +kernel
theorem d_reader_readComparison_2 : decode prog_7_method_10_code 2 = .ok (.invokevirtual 77, 3) := by decide +kernel
theorem d_reader_readComparison_20 : decode prog_7_method_10_code 20 = .ok (.getfield 53, 3) := by decide +kernel
theorem d_reader_readComparison_23 : decode prog_7_method_10_code 23 = .ok (.bipush 61, 2) := by decide +kernel
theorem d_reader_readComparison_25 : decode prog_7_method_10_code 25 = .ok (.if_icmp .eq 5, 3) := by decide +kernel
theorem d_reader_readComparison_28 : decode prog_7_method_10_code 28 = .ok (.iconst 1, 1) := by decide +kernel
theorem d_reader_readComparison_29 : decode prog_7_method_10_code 29 = .ok (.ireturn, 1) := by decide +kernel
theorem d_reader_readComparison_30 : decode prog_7_method_10_code 30 = .ok (.aload_n 0, 1) := by decide +kernel
theorem d_reader_readComparison_31 : decode prog_7_method_10_code 31 = .ok (.getfield 53, 3) := by decide +kernel
theorem d_reader_readComparison_34 : decode prog_7_method_10_code 34 = .ok (.istore_n 2, 1) := by decide +kernel
theorem d_reader_readComparison_35 : decode prog_7_method_10_code 35 = .ok (.aload_n 0, 1) := by decide +kernel
theorem d_reader_readComparison_36 : decode prog_7_method_10_code 36 = .ok (.invokevirtual 46, 3) := by decide +kernel
theorem d_reader_readComparison_39 : decode prog_7_method_10_code 39 = .ok (.aload_n 0, 1) := by decide +kernel
theorem d_reader_readComparison_40 : decode prog_7_method_10_code 40 = .ok (.iload_n 1, 1) := by decide +kernel
theorem d_reader_readComparison_41 : decode prog_7_method_10_code 41 = .ok (.invokevirtual 77, 3) := by decide +kernel
theorem d_reader_readComparison_44 : decode prog_7_method_10_code 44 = .ok (.ifCond .ne 5, 3) := by decide +kernel
theorem d_reader_readComparison_47 : decode prog_7_method_10_code 47 = .ok (.iconst 0, 1) := by decide +kernel
theorem d_reader_readComparison_48 : decode prog_7_method_10_code 48 = .ok (.ireturn, 1) := by decide +kernel
theorem d_reader_readComparison_49 : decode prog_7_method_10_code 49 = .ok (.aload_n 0, 1) := by decide +kernel
theorem d_reader_readComparison_5 : decode prog_7_method_10_code 5 = .ok (.ifCond .ne 5, 3) := by decide +kernel
theorem d_reader_readComparison_50 : decode prog_7_method_10_code 50 = .ok (.getfield 18, 3) := by decide +kernel
theorem d_reader_readComparison_53 : decode prog_7_method_10_code 53 = .ok (.iload_n 2, 1) := by decide +kernel
theorem d_reader_readComparison_54 : decode prog_7_method_10_code 54 = .ok (.ineg, 1) := by decide +kernel
theorem d_reader_readComparison_55 : decode prog_7_method_10_code 55 = .ok (.invokevirtual 68, 3) := by decide +kernel
theorem d_reader_readComparison_58 : decode prog_7_method_10_code 58 = .ok (.iconst 1, 1) := by decide +kernel
theorem d_reader_readComparison_59 : decode prog_7_method_10_code 59 = .ok (.ireturn, 1) := by decide +kernel
theorem d_reader_readComparison_8 : decode prog_7_method_10_code 8 = .ok (.iconst 0, 1) := by decide +kernel
theorem d_reader_readComparison_9 : decode prog_7_method_10_code 9 = .ok (.ireturn, 1) := by decide +kernel
theorem d_reader_readNegated_0 : decode prog_7_method_14_code 0 = .ok (.aload_n 0, 1) := by decide +kernel
theorem d_reader_readNegated_1 : decode prog_7_method_14_code 1 = .ok (.iload_n 1, 1) := by decide +kernel
theorem d_reader_readNegated_10 : decode prog_7_method_14_code 10 = .ok (.aload_n 0, 1) := by decide +kernel
theorem d_reader_readNegated_11 : decode prog_7_method_14_code 11 = .ok (.getfield 18, 3) := by decide +kernel
theorem d_reader_readNegated_14 : decode prog_7_method_14_code 14 = .ok (.sipush (-312), 3) := by decide +kernel
theorem d_reader_readNegated_17 : decode prog_7_method_14_code 17 = .ok (.invokevirtual 68, 3) := by decide +kernel
theorem d_reader_readNegated_2 : decode prog_7_method_14_code 2 = .ok (.invokevirtual 83, 3) := by decide +kernel
theorem d_reader_readNegated_20 : decode prog_7_method_14_code 20 = .ok (.iconst 1, 1) := by decide +kernel
theorem d_reader_readNegated_21 : decode prog_7_method_14_code 21 = .ok (.ireturn, 1) := by decide +kernel
theorem d_reader_readNegated_5 : decode prog_7_method_14_code 5 = .ok (.ifCond .ne 5, 3) := by decide +kernel
theorem d_reader_readNegated_8 : decode prog_7_method_14_code 8 = .ok (.iconst 0, 1) := by decide +kernel
theorem d_reader_readNegated_9 : decode prog_7_method_14_code 9 = .ok (.ireturn, 1) := by decide +kernel
theorem d_reader_readNot_0 : decode prog_7_method_9_code 0 = .ok (.aload_n 0, 1) := by decide +kernel
theorem d_reader_readNot_1 : decode prog_7_method_9_code 1 = .ok (.getfield 53, 3) := by decide +kernel
theorem d_reader_readNot_10 : decode prog_7_method_9_code 10 = .ok (.aload_n 0, 1) := by decide +kernel
theorem d_reader_readNot_11 : decode prog_7_method_9_code 11 = .ok (.iload_n 1, 1) := by decide +kernel
theorem d_reader_readNot_12 : decode prog_7_method_9_code 12 = .ok (.invokevirtual 74, 3) := by decide +kernel
theorem d_reader_readNot_15 : decode prog_7_method_9_code 15 = .ok (.ireturn, 1) := by decide +kernel
theorem d_reader_readNot_16 : decode prog_7_method_9_code 16 = .ok (.iload_n 1, 1) := by decide +kernel
theorem d_reader_readNot_17 : decode prog_7_method_9_code 17 = .ok (.iconst 5, 1) := by decide +kernel
theorem d_reader_readNot_18 : decode prog_7_method_9_code 18 = .ok (.if_icmp .lt 5, 3) := by decide +kernel
theorem d_reader_readNot_21 : decode prog_7_method_9_code 21 = .ok (.iconst 0, 1) := by decide +kernel
theorem d_reader_readNot_22 : decode prog_7_method_9_code 22 = .ok (.ireturn, 1) := by decide +kernel
theorem d_reader_readNot_23 : decode prog_7_method_9_code 23 = .ok (.aload_n 0, 1) := by decide +kernel
theorem d_reader_readNot_24 : decode prog_7_method_9_code 24 = .ok (.invokevirtual 46, 3) := by decide +kernel
theorem d_reader_readNot_27 : decode prog_7_method_9_code 27 = .ok (.aload_n 0, 1) := by decide +kernel
theorem d_reader_readNot_28 : decode prog_7_method_9_code 28 = .ok (.iload_n 1, 1) := by decide +kernel
theorem d_reader_readNot_29 : decode prog_7_method_9_code 29 = .ok (.iconst 1, 1) := by decide +kernel
theorem d_reader_readNot_30 : decode prog_7_method_9_code 30 = .ok (.iadd, 1) := by decide +kernel
theorem d_reader_readNot_31 : decode prog_7_method_9_code 31 = .ok (.invokevirtual 71, 3) := by decide +kernel
theorem d_reader_readNot_34 : decode prog_7_method_9_code 34 = .ok (.ifCond .ne 5, 3) := by decide +kernel
theorem d_reader_readNot_37 : decode prog_7_method_9_code 37 = .ok (.iconst 0, 1) := by decide +kernel
theorem d_reader_readNot_38 : decode prog_7_method_9_code 38 = .ok (.ireturn, 1) := by decide +kernel
theorem d_reader_readNot_39 : decode prog_7_method_9_code 39 = .ok (.aload_n 0, 1) := by decide +kernel
theorem d_reader_readNot_4 : decode prog_7_method_9_code 4 = .ok (.sipush 305, 3) := by decide +kernel
theorem d_reader_readNot_40 : decode prog_7_method_9_code 40 = .ok (.getfield 18, 3) := by decide +kernel
theorem d_reader_readNot_43 : decode prog_7_method_9_code 43 = .ok (.sipush (-305), 3) := by decide +kernel
theorem d_reader_readNot_46 : decode prog_7_method_9_code 46 = .ok (.invokevirtual 68, 3) := by decide +kernel
theorem d_reader_readNot_49 : decode prog_7_method_9_code 49 = .ok (.iconst 1, 1) := by decide +kernel
theorem d_reader_readNot_50 : decode prog_7_method_9_code 50 = .ok (.ireturn, 1) := by decide +kernel
theorem d_reader_readNot_7 : decode prog_7_method_9_code 7 = .ok (.if_icmp .eq 9, 3) := by decide +kernel
theorem d_reader_readOne_0 : decode prog_7_method_13_code 0 = .ok (.aload_n 0, 1) := by decide +kernel
theorem d_reader_readOne_1 : decode prog_7_method_13_code 1 = .ok (.getfield 53, 3) := by decide +kernel
theorem d_reader_readOne_100 : decode prog_7_method_13_code 100 = .ok (.iadd, 1) := by decide +kernel
theorem d_reader_readOne_101 : decode prog_7_method_13_code 101 = .ok (.invokevirtual 93, 3) := by decide +kernel
theorem d_reader_readOne_104 : decode prog_7_method_13_code 104 = .ok (.goto 10, 3) := by decide +kernel
theorem d_reader_readOne_107 : decode prog_7_method_13_code 107 = .ok (.aload_n 0, 1) := by decide +kernel
theorem d_reader_readOne_108 : decode prog_7_method_13_code 108 = .ok (.iload_n 1, 1) := by decide +kernel
theorem d_reader_readOne_109 : decode prog_7_method_13_code 109 = .ok (.iconst 1, 1) := by decide +kernel
theorem d_reader_readOne_110 : decode prog_7_method_13_code 110 = .ok (.iadd, 1) := by decide +kernel
theorem d_reader_readOne_111 : decode prog_7_method_13_code 111 = .ok (.invokevirtual 96, 3) := by decide +kernel
theorem d_reader_readOne_114 : decode prog_7_method_13_code 114 = .ok (.ireturn, 1) := by decide +kernel
theorem d_reader_readOne_12 : decode prog_7_method_13_code 12 = .ok (.sipush 306, 3) := by decide +kernel
theorem d_reader_readOne_15 : decode prog_7_method_13_code 15 = .ok (.sipush 311, 3) := by decide +kernel
theorem d_reader_readOne_18 : decode prog_7_method_13_code 18 = .ok (.invokestatic 86, 3) := by decide +kernel
theorem d_reader_readOne_21 : decode prog_7_method_13_code 21 = .ok (.ifCond .eq 36, 3) := by decide +kernel
theorem d_reader_readOne_24 : decode prog_7_method_13_code 24 = .ok (.aload_n 0, 1) := by decide +kernel
theorem d_reader_readOne_25 : decode prog_7_method_13_code 25 = .ok (.getfield 18, 3) := by decide +kernel
theorem d_reader_readOne_28 : decode prog_7_method_13_code 28 = .ok (.aload_n 0, 1) := by decide +kernel
theorem d_reader_readOne_29 : decode prog_7_method_13_code 29 = .ok (.getfield 53, 3) := by decide +kernel
theorem d_reader_readOne_32 : decode prog_7_method_13_code 32 = .ok (.iconst 2, 1) := by decide +kernel
theorem d_reader_readOne_33 : decode prog_7_method_13_code 33 = .ok (.if_icmp .ne 10, 3) := by decide +kernel
theorem d_reader_readOne_36 : decode prog_7_method_13_code 36 = .ok (.aload_n 0, 1) := by decide +kernel
theorem d_reader_readOne_37 : decode prog_7_method_13_code 37 = .ok (.getfield 90, 3) := by decide +kernel
theorem d_reader_readOne_4 : decode prog_7_method_13_code 4 = .ok (.iconst 2, 1) := by decide +kernel
theorem d_reader_readOne_40 : decode prog_7_method_13_code 40 = .ok (.goto 8, 3) := by decide +kernel
theorem d_reader_readOne_43 : decode prog_7_method_13_code 43 = .ok (.aload_n 0, 1) := by decide +kernel
theorem d_reader_readOne_44 : decode prog_7_method_13_code 44 = .ok (.getfield 53, 3) := by decide +kernel
theorem d_reader_readOne_47 : decode prog_7_method_13_code 47 = .ok (.ineg, 1) := by decide +kernel
theorem d_reader_readOne_48 : decode prog_7_method_13_code 48 = .ok (.invokevirtual 68, 3) := by decide +kernel
theorem d_reader_readOne_5 : decode prog_7_method_13_code 5 = .ok (.if_icmp .eq 19, 3) := by decide +kernel
theorem d_reader_readOne_51 : decode prog_7_method_13_code 51 = .ok (.aload_n 0, 1) := by decide +kernel
theorem d_reader_readOne_52 : decode prog_7_method_13_code 52 = .ok (.invokevirtual 46, 3) := by decide +kernel
theorem d_reader_readOne_55 : decode prog_7_method_13_code 55 = .ok (.iconst 1, 1) := by decide +kernel
theorem d_reader_readOne_56 : decode prog_7_method_13_code 56 = .ok (.ireturn, 1) := by decide +kernel
theorem d_reader_readOne_57 : decode prog_7_method_13_code 57 = .ok (.aload_n 0, 1) := by decide +kernel
theorem d_reader_readOne_58 : decode prog_7_method_13_code 58 = .ok (.getfield 53, 3) := by decide +kernel
theorem d_reader_readOne_61 : decode prog_7_method_13_code 61 = .ok (.bipush 45, 2) := by decide +kernel
theorem d_reader_readOne_63 : decode prog_7_method_13_code 63 = .ok (.if_icmp .eq 12, 3) := by decide +kernel
theorem d_reader_readOne_66 : decode prog_7_method_13_code 66 = .ok (.aload_n 0, 1) := by decide +kernel
theorem d_reader_readOne_67 : decode prog_7_method_13_code 67 = .ok (.getfield 53, 3) := by decide +kernel
theorem d_reader_readOne_70 : decode prog_7_method_13_code 70 = .ok (.bipush 40, 2) := by decide +kernel
theorem d_reader_readOne_72 : decode prog_7_method_13_code 72 = .ok (.if_icmp .ne 8, 3) := by decide +kernel
theorem d_reader_readOne_75 : decode prog_7_method_13_code 75 = .ok (.iload_n 1, 1) := by decide +kernel
theorem d_reader_readOne_76 : decode prog_7_method_13_code 76 = .ok (.iconst 5, 1) := by decide +kernel
theorem d_reader_readOne_77 : decode prog_7_method_13_code 77 = .ok (.if_icmp .lt 5, 3) := by decide +kernel
theorem d_reader_readOne_8 : decode prog_7_method_13_code 8 = .ok (.aload_n 0, 1) := by decide +kernel
theorem d_reader_readOne_80 : decode prog_7_method_13_code 80 = .ok (.iconst 0, 1) := by decide +kernel
theorem d_reader_readOne_81 : decode prog_7_method_13_code 81 = .ok (.ireturn, 1) := by decide +kernel
theorem d_reader_readOne_82 : decode prog_7_method_13_code 82 = .ok (.aload_n 0, 1) := by decide +kernel
theorem d_reader_readOne_83 : decode prog_7_method_13_code 83 = .ok (.getfield 53, 3) := by decide +kernel
theorem d_reader_readOne_86 : decode prog_7_method_13_code 86 = .ok (.istore_n 2, 1) := by decide +kernel
theorem d_reader_readOne_87 : decode prog_7_method_13_code 87 = .ok (.aload_n 0, 1) := by decide +kernel
theorem d_reader_readOne_88 : decode prog_7_method_13_code 88 = .ok (.invokevirtual 46, 3) := by decide +kernel
theorem d_reader_readOne_9 : decode prog_7_method_13_code 9 = .ok (.getfield 53, 3) := by decide +kernel
theorem d_reader_readOne_91 : decode prog_7_method_13_code 91 = .ok (.iload_n 2, 1) := by decide +kernel
theorem d_reader_readOne_92 : decode prog_7_method_13_code 92 = .ok (.bipush 45, 2) := by decide +kernel
theorem d_reader_readOne_94 : decode prog_7_method_13_code 94 = .ok (.if_icmp .ne 13, 3) := by decide +kernel
theorem d_reader_readOne_97 : decode prog_7_method_13_code 97 = .ok (.aload_n 0, 1) := by decide +kernel
theorem d_reader_readOne_98 : decode prog_7_method_13_code 98 = .ok (.iload_n 1, 1) := by decide +kernel
theorem d_reader_readOne_99 : decode prog_7_method_13_code 99 = .ok (.iconst 1, 1) := by decide +kernel
theorem d_reader_readOrs_0 : decode prog_7_method_7_code 0 = .ok (.aload_n 0, 1) := by decide +kernel
theorem d_reader_readOrs_1 : decode prog_7_method_7_code 1 = .ok (.iload_n 1, 1) := by decide +kernel
theorem d_reader_readOrs_10 : decode prog_7_method_7_code 10 = .ok (.iconst 0, 1) := by decide +kernel
theorem d_reader_readOrs_11 : decode prog_7_method_7_code 11 = .ok (.istore_n 2, 1) := by decide +kernel
theorem d_reader_readOrs_12 : decode prog_7_method_7_code 12 = .ok (.iload_n 2, 1) := by decide +kernel
theorem d_reader_readOrs_13 : decode prog_7_method_7_code 13 = .ok (.sipush 160, 3) := by decide +kernel
theorem d_reader_readOrs_16 : decode prog_7_method_7_code 16 = .ok (.if_icmp .ge 43, 3) := by decide +kernel
theorem d_reader_readOrs_19 : decode prog_7_method_7_code 19 = .ok (.aload_n 0, 1) := by decide +kernel
theorem d_reader_readOrs_2 : decode prog_7_method_7_code 2 = .ok (.invokevirtual 65, 3) := by decide +kernel
theorem d_reader_readOrs_20 : decode prog_7_method_7_code 20 = .ok (.getfield 53, 3) := by decide +kernel
theorem d_reader_readOrs_23 : decode prog_7_method_7_code 23 = .ok (.sipush 303, 3) := by decide +kernel
theorem d_reader_readOrs_26 : decode prog_7_method_7_code 26 = .ok (.if_icmp .ne 33, 3) := by decide +kernel
theorem d_reader_readOrs_29 : decode prog_7_method_7_code 29 = .ok (.aload_n 0, 1) := by decide +kernel
theorem d_reader_readOrs_30 : decode prog_7_method_7_code 30 = .ok (.invokevirtual 46, 3) := by decide +kernel
theorem d_reader_readOrs_33 : decode prog_7_method_7_code 33 = .ok (.aload_n 0, 1) := by decide +kernel
theorem d_reader_readOrs_34 : decode prog_7_method_7_code 34 = .ok (.iload_n 1, 1) := by decide +kernel
theorem d_reader_readOrs_35 : decode prog_7_method_7_code 35 = .ok (.invokevirtual 65, 3) := by decide +kernel
theorem d_reader_readOrs_38 : decode prog_7_method_7_code 38 = .ok (.ifCond .ne 5, 3) := by decide +kernel
theorem d_reader_readOrs_41 : decode prog_7_method_7_code 41 = .ok (.iconst 0, 1) := by decide +kernel
theorem d_reader_readOrs_42 : decode prog_7_method_7_code 42 = .ok (.ireturn, 1) := by decide +kernel
theorem d_reader_readOrs_43 : decode prog_7_method_7_code 43 = .ok (.aload_n 0, 1) := by decide +kernel
theorem d_reader_readOrs_44 : decode prog_7_method_7_code 44 = .ok (.getfield 18, 3) := by decide +kernel
theorem d_reader_readOrs_47 : decode prog_7_method_7_code 47 = .ok (.sipush (-303), 3) := by decide +kernel
theorem d_reader_readOrs_5 : decode prog_7_method_7_code 5 = .ok (.ifCond .ne 5, 3) := by decide +kernel
theorem d_reader_readOrs_50 : decode prog_7_method_7_code 50 = .ok (.invokevirtual 68, 3) := by decide +kernel
theorem d_reader_readOrs_53 : decode prog_7_method_7_code 53 = .ok (.iinc 2 1, 3) := by decide +kernel
theorem d_reader_readOrs_56 : decode prog_7_method_7_code 56 = .ok (.goto (-44), 3) := by decide +kernel
theorem d_reader_readOrs_59 : decode prog_7_method_7_code 59 = .ok (.iconst 1, 1) := by decide +kernel
theorem d_reader_readOrs_60 : decode prog_7_method_7_code 60 = .ok (.ireturn, 1) := by decide +kernel
theorem d_reader_readOrs_8 : decode prog_7_method_7_code 8 = .ok (.iconst 0, 1) := by decide +kernel
theorem d_reader_readOrs_9 : decode prog_7_method_7_code 9 = .ok (.ireturn, 1) := by decide +kernel
theorem d_reader_readPart_0 : decode prog_7_method_6_code 0 = .ok (.aload_n 0, 1) := by decide +kernel
theorem d_reader_readPart_1 : decode prog_7_method_6_code 1 = .ok (.getfield 53, 3) := by decide +kernel
theorem d_reader_readPart_10 : decode prog_7_method_6_code 10 = .ok (.aload_n 0, 1) := by decide +kernel
theorem d_reader_readPart_11 : decode prog_7_method_6_code 11 = .ok (.invokevirtual 46, 3) := by decide +kernel
theorem d_reader_readPart_14 : decode prog_7_method_6_code 14 = .ok (.aload_n 0, 1) := by decide +kernel
theorem d_reader_readPart_15 : decode prog_7_method_6_code 15 = .ok (.iconst 0, 1) := by decide +kernel
theorem d_reader_readPart_16 : decode prog_7_method_6_code 16 = .ok (.invokevirtual 59, 3) := by decide +kernel
theorem d_reader_readPart_19 : decode prog_7_method_6_code 19 = .ok (.ifCond .eq 12, 3) := by decide +kernel
theorem d_reader_readPart_22 : decode prog_7_method_6_code 22 = .ok (.aload_n 0, 1) := by decide +kernel
theorem d_reader_readPart_23 : decode prog_7_method_6_code 23 = .ok (.getfield 53, 3) := by decide +kernel
theorem d_reader_readPart_26 : decode prog_7_method_6_code 26 = .ok (.bipush 59, 2) := by decide +kernel
theorem d_reader_readPart_28 : decode prog_7_method_6_code 28 = .ok (.if_icmp .eq 5, 3) := by decide +kernel
theorem d_reader_readPart_31 : decode prog_7_method_6_code 31 = .ok (.iconst 0, 1) := by decide +kernel
theorem d_reader_readPart_32 : decode prog_7_method_6_code 32 = .ok (.ireturn, 1) := by decide +kernel
theorem d_reader_readPart_33 : decode prog_7_method_6_code 33 = .ok (.aload_n 0, 1) := by decide +kernel
theorem d_reader_readPart_34 : decode prog_7_method_6_code 34 = .ok (.getfield 18, 3) := by decide +kernel
theorem d_reader_readPart_37 : decode prog_7_method_6_code 37 = .ok (.invokevirtual 62, 3) := by decide +kernel
theorem d_reader_readPart_4 : decode prog_7_method_6_code 4 = .ok (.iload_n 1, 1) := by decide +kernel
theorem d_reader_readPart_40 : decode prog_7_method_6_code 40 = .ok (.aload_n 0, 1) := by decide +kernel
theorem d_reader_readPart_41 : decode prog_7_method_6_code 41 = .ok (.invokevirtual 46, 3) := by decide +kernel
theorem d_reader_readPart_44 : decode prog_7_method_6_code 44 = .ok (.iconst 1, 1) := by decide +kernel
theorem d_reader_readPart_45 : decode prog_7_method_6_code 45 = .ok (.ireturn, 1) := by decide +kernel
theorem d_reader_readPart_5 : decode prog_7_method_6_code 5 = .ok (.if_icmp .eq 5, 3) := by decide +kernel
theorem d_reader_readPart_8 : decode prog_7_method_6_code 8 = .ok (.iconst 0, 1) := by decide +kernel
theorem d_reader_readPart_9 : decode prog_7_method_6_code 9 = .ok (.ireturn, 1) := by decide +kernel
theorem d_reader_readSum_0 : decode prog_7_method_11_code 0 = .ok (.aload_n 0, 1) := by decide +kernel
theorem d_reader_readSum_1 : decode prog_7_method_11_code 1 = .ok (.iload_n 1, 1) := by decide +kernel
theorem d_reader_readSum_10 : decode prog_7_method_11_code 10 = .ok (.iconst 0, 1) := by decide +kernel
theorem d_reader_readSum_11 : decode prog_7_method_11_code 11 = .ok (.istore_n 2, 1) := by decide +kernel
theorem d_reader_readSum_12 : decode prog_7_method_11_code 12 = .ok (.iload_n 2, 1) := by decide +kernel
theorem d_reader_readSum_13 : decode prog_7_method_11_code 13 = .ok (.sipush 160, 3) := by decide +kernel
theorem d_reader_readSum_16 : decode prog_7_method_11_code 16 = .ok (.if_icmp .ge 55, 3) := by decide +kernel
theorem d_reader_readSum_19 : decode prog_7_method_11_code 19 = .ok (.aload_n 0, 1) := by decide +kernel
theorem d_reader_readSum_2 : decode prog_7_method_11_code 2 = .ok (.invokevirtual 80, 3) := by decide +kernel
theorem d_reader_readSum_20 : decode prog_7_method_11_code 20 = .ok (.getfield 53, 3) := by decide +kernel
theorem d_reader_readSum_23 : decode prog_7_method_11_code 23 = .ok (.bipush 43, 2) := by decide +kernel
theorem d_reader_readSum_25 : decode prog_7_method_11_code 25 = .ok (.if_icmp .eq 12, 3) := by decide +kernel
theorem d_reader_readSum_28 : decode prog_7_method_11_code 28 = .ok (.aload_n 0, 1) := by decide +kernel
theorem d_reader_readSum_29 : decode prog_7_method_11_code 29 = .ok (.getfield 53, 3) := by decide +kernel
theorem d_reader_readSum_32 : decode prog_7_method_11_code 32 = .ok (.bipush 45, 2) := by decide +kernel
theorem d_reader_readSum_34 : decode prog_7_method_11_code 34 = .ok (.if_icmp .ne 37, 3) := by decide +kernel
theorem d_reader_readSum_37 : decode prog_7_method_11_code 37 = .ok (.aload_n 0, 1) := by decide +kernel
theorem d_reader_readSum_38 : decode prog_7_method_11_code 38 = .ok (.getfield 53, 3) := by decide +kernel
theorem d_reader_readSum_41 : decode prog_7_method_11_code 41 = .ok (.istore_n 3, 1) := by decide +kernel
theorem d_reader_readSum_42 : decode prog_7_method_11_code 42 = .ok (.aload_n 0, 1) := by decide +kernel
theorem d_reader_readSum_43 : decode prog_7_method_11_code 43 = .ok (.invokevirtual 46, 3) := by decide +kernel
theorem d_reader_readSum_46 : decode prog_7_method_11_code 46 = .ok (.aload_n 0, 1) := by decide +kernel
theorem d_reader_readSum_47 : decode prog_7_method_11_code 47 = .ok (.iload_n 1, 1) := by decide +kernel
theorem d_reader_readSum_48 : decode prog_7_method_11_code 48 = .ok (.invokevirtual 80, 3) := by decide +kernel
theorem d_reader_readSum_5 : decode prog_7_method_11_code 5 = .ok (.ifCond .ne 5, 3) := by decide +kernel
theorem d_reader_readSum_51 : decode prog_7_method_11_code 51 = .ok (.ifCond .ne 5, 3) := by decide +kernel
theorem d_reader_readSum_54 : decode prog_7_method_11_code 54 = .ok (.iconst 0, 1) := by decide +kernel
theorem d_reader_readSum_55 : decode prog_7_method_11_code 55 = .ok (.ireturn, 1) := by decide +kernel
theorem d_reader_readSum_56 : decode prog_7_method_11_code 56 = .ok (.aload_n 0, 1) := by decide +kernel
theorem d_reader_readSum_57 : decode prog_7_method_11_code 57 = .ok (.getfield 18, 3) := by decide +kernel
theorem d_reader_readSum_60 : decode prog_7_method_11_code 60 = .ok (.iload_n 3, 1) := by decide +kernel
theorem d_reader_readSum_61 : decode prog_7_method_11_code 61 = .ok (.ineg, 1) := by decide +kernel
theorem d_reader_readSum_62 : decode prog_7_method_11_code 62 = .ok (.invokevirtual 68, 3) := by decide +kernel
theorem d_reader_readSum_65 : decode prog_7_method_11_code 65 = .ok (.iinc 2 1, 3) := by decide +kernel
theorem d_reader_readSum_68 : decode prog_7_method_11_code 68 = .ok (.goto (-56), 3) := by decide +kernel
theorem d_reader_readSum_71 : decode prog_7_method_11_code 71 = .ok (.iconst 1, 1) := by decide +kernel
theorem d_reader_readSum_72 : decode prog_7_method_11_code 72 = .ok (.ireturn, 1) := by decide +kernel
theorem d_reader_readSum_8 : decode prog_7_method_11_code 8 = .ok (.iconst 0, 1) := by decide +kernel
theorem d_reader_readSum_9 : decode prog_7_method_11_code 9 = .ok (.ireturn, 1) := by decide +kernel
theorem d_reader_readTerm_0 : decode prog_7_method_12_code 0 = .ok (.aload_n 0, 1) := by decide +kernel
theorem d_reader_readTerm_1 : decode prog_7_method_12_code 1 = .ok (.iload_n 1, 1) := by decide +kernel
theorem d_reader_readTerm_10 : decode prog_7_method_12_code 10 = .ok (.iconst 0, 1) := by decide +kernel
theorem d_reader_readTerm_11 : decode prog_7_method_12_code 11 = .ok (.istore_n 2, 1) := by decide +kernel
theorem d_reader_readTerm_12 : decode prog_7_method_12_code 12 = .ok (.iload_n 2, 1) := by decide +kernel
theorem d_reader_readTerm_13 : decode prog_7_method_12_code 13 = .ok (.sipush 160, 3) := by decide +kernel
theorem d_reader_readTerm_16 : decode prog_7_method_12_code 16 = .ok (.if_icmp .ge 41, 3) := by decide +kernel
theorem d_reader_readTerm_19 : decode prog_7_method_12_code 19 = .ok (.aload_n 0, 1) := by decide +kernel
theorem d_reader_readTerm_2 : decode prog_7_method_12_code 2 = .ok (.invokevirtual 83, 3) := by decide +kernel
theorem d_reader_readTerm_20 : decode prog_7_method_12_code 20 = .ok (.getfield 53, 3) := by decide +kernel
theorem d_reader_readTerm_23 : decode prog_7_method_12_code 23 = .ok (.bipush 42, 2) := by decide +kernel
theorem d_reader_readTerm_25 : decode prog_7_method_12_code 25 = .ok (.if_icmp .ne 32, 3) := by decide +kernel
theorem d_reader_readTerm_28 : decode prog_7_method_12_code 28 = .ok (.aload_n 0, 1) := by decide +kernel
theorem d_reader_readTerm_29 : decode prog_7_method_12_code 29 = .ok (.invokevirtual 46, 3) := by decide +kernel
theorem d_reader_readTerm_32 : decode prog_7_method_12_code 32 = .ok (.aload_n 0, 1) := by decide +kernel
theorem d_reader_readTerm_33 : decode prog_7_method_12_code 33 = .ok (.iload_n 1, 1) := by decide +kernel
theorem d_reader_readTerm_34 : decode prog_7_method_12_code 34 = .ok (.invokevirtual 83, 3) := by decide +kernel
theorem d_reader_readTerm_37 : decode prog_7_method_12_code 37 = .ok (.ifCond .ne 5, 3) := by decide +kernel
theorem d_reader_readTerm_40 : decode prog_7_method_12_code 40 = .ok (.iconst 0, 1) := by decide +kernel
theorem d_reader_readTerm_41 : decode prog_7_method_12_code 41 = .ok (.ireturn, 1) := by decide +kernel
theorem d_reader_readTerm_42 : decode prog_7_method_12_code 42 = .ok (.aload_n 0, 1) := by decide +kernel
theorem d_reader_readTerm_43 : decode prog_7_method_12_code 43 = .ok (.getfield 18, 3) := by decide +kernel
theorem d_reader_readTerm_46 : decode prog_7_method_12_code 46 = .ok (.bipush (-42), 2) := by decide +kernel
theorem d_reader_readTerm_48 : decode prog_7_method_12_code 48 = .ok (.invokevirtual 68, 3) := by decide +kernel
theorem d_reader_readTerm_5 : decode prog_7_method_12_code 5 = .ok (.ifCond .ne 5, 3) := by decide +kernel
theorem d_reader_readTerm_51 : decode prog_7_method_12_code 51 = .ok (.iinc 2 1, 3) := by decide +kernel
theorem d_reader_readTerm_54 : decode prog_7_method_12_code 54 = .ok (.goto (-42), 3) := by decide +kernel
theorem d_reader_readTerm_57 : decode prog_7_method_12_code 57 = .ok (.iconst 1, 1) := by decide +kernel
theorem d_reader_readTerm_58 : decode prog_7_method_12_code 58 = .ok (.ireturn, 1) := by decide +kernel
theorem d_reader_readTerm_8 : decode prog_7_method_12_code 8 = .ok (.iconst 0, 1) := by decide +kernel
theorem d_reader_readTerm_9 : decode prog_7_method_12_code 9 = .ok (.ireturn, 1) := by decide +kernel
theorem d_sheet_become_0 : decode prog_8_method_2_code 0 = .ok (.aload_n 0, 1) := by decide +kernel
theorem d_sheet_become_1 : decode prog_8_method_2_code 1 = .ok (.iload_n 1, 1) := by decide +kernel
theorem d_sheet_become_10 : decode prog_8_method_2_code 10 = .ok (.iconst 0, 1) := by decide +kernel
theorem d_sheet_become_11 : decode prog_8_method_2_code 11 = .ok (.istore_n 3, 1) := by decide +kernel
theorem d_sheet_become_12 : decode prog_8_method_2_code 12 = .ok (.iload_n 3, 1) := by decide +kernel
theorem d_sheet_become_13 : decode prog_8_method_2_code 13 = .ok (.bipush 40, 2) := by decide +kernel
theorem d_sheet_become_15 : decode prog_8_method_2_code 15 = .ok (.if_icmp .ge 16, 3) := by decide +kernel
theorem d_sheet_become_18 : decode prog_8_method_2_code 18 = .ok (.aload_n 0, 1) := by decide +kernel
theorem d_sheet_become_19 : decode prog_8_method_2_code 19 = .ok (.getfield 9, 3) := by decide +kernel
theorem d_sheet_become_2 : decode prog_8_method_2_code 2 = .ok (.putfield 15, 3) := by decide +kernel
theorem d_sheet_become_22 : decode prog_8_method_2_code 22 = .ok (.iload_n 3, 1) := by decide +kernel
theorem d_sheet_become_23 : decode prog_8_method_2_code 23 = .ok (.iconst 0, 1) := by decide +kernel
theorem d_sheet_become_24 : decode prog_8_method_2_code 24 = .ok (.iastore, 1) := by decide +kernel
theorem d_sheet_become_25 : decode prog_8_method_2_code 25 = .ok (.iinc 3 1, 3) := by decide +kernel
theorem d_sheet_become_28 : decode prog_8_method_2_code 28 = .ok (.goto (-16), 3) := by decide +kernel
theorem d_sheet_become_31 : decode prog_8_method_2_code 31 = .ok (.return_, 1) := by decide +kernel
theorem d_sheet_become_5 : decode prog_8_method_2_code 5 = .ok (.aload_n 0, 1) := by decide +kernel
theorem d_sheet_become_6 : decode prog_8_method_2_code 6 = .ok (.iload_n 2, 1) := by decide +kernel
theorem d_sheet_become_7 : decode prog_8_method_2_code 7 = .ok (.putfield 19, 3) := by decide +kernel
theorem d_sheet_holds_0 : decode prog_8_method_5_code 0 = .ok (.iload_n 2, 1) := by decide +kernel
theorem d_sheet_holds_1 : decode prog_8_method_5_code 1 = .ok (.ifCond .lt 29, 3) := by decide +kernel
theorem d_sheet_holds_10 : decode prog_8_method_5_code 10 = .ok (.getfield 19, 3) := by decide +kernel
theorem d_sheet_holds_13 : decode prog_8_method_5_code 13 = .ok (.if_icmp .gt 17, 3) := by decide +kernel
theorem d_sheet_holds_16 : decode prog_8_method_5_code 16 = .ok (.iload_n 2, 1) := by decide +kernel
theorem d_sheet_holds_17 : decode prog_8_method_5_code 17 = .ok (.aload_n 0, 1) := by decide +kernel
theorem d_sheet_holds_18 : decode prog_8_method_5_code 18 = .ok (.getfield 19, 3) := by decide +kernel
theorem d_sheet_holds_21 : decode prog_8_method_5_code 21 = .ok (.iload_n 1, 1) := by decide +kernel
theorem d_sheet_holds_22 : decode prog_8_method_5_code 22 = .ok (.isub, 1) := by decide +kernel
theorem d_sheet_holds_23 : decode prog_8_method_5_code 23 = .ok (.if_icmp .gt 7, 3) := by decide +kernel
theorem d_sheet_holds_26 : decode prog_8_method_5_code 26 = .ok (.iconst 1, 1) := by decide +kernel
theorem d_sheet_holds_27 : decode prog_8_method_5_code 27 = .ok (.goto 4, 3) := by decide +kernel
theorem d_sheet_holds_30 : decode prog_8_method_5_code 30 = .ok (.iconst 0, 1) := by decide +kernel
theorem d_sheet_holds_31 : decode prog_8_method_5_code 31 = .ok (.ireturn, 1) := by decide +kernel
theorem d_sheet_holds_4 : decode prog_8_method_5_code 4 = .ok (.iload_n 1, 1) := by decide +kernel
theorem d_sheet_holds_5 : decode prog_8_method_5_code 5 = .ok (.ifCond .lt 25, 3) := by decide +kernel
theorem d_sheet_holds_8 : decode prog_8_method_5_code 8 = .ok (.iload_n 1, 1) := by decide +kernel
theorem d_sheet_holds_9 : decode prog_8_method_5_code 9 = .ok (.aload_n 0, 1) := by decide +kernel
theorem d_sheet_init_0 : decode prog_8_method_1_code 0 = .ok (.aload_n 0, 1) := by decide +kernel
theorem d_sheet_init_1 : decode prog_8_method_1_code 1 = .ok (.invokespecial 3, 3) := by decide +kernel
theorem d_sheet_init_12 : decode prog_8_method_1_code 12 = .ok (.aload_n 0, 1) := by decide +kernel
theorem d_sheet_init_13 : decode prog_8_method_1_code 13 = .ok (.iconst (-1), 1) := by decide +kernel
theorem d_sheet_init_14 : decode prog_8_method_1_code 14 = .ok (.putfield 15, 3) := by decide +kernel
theorem d_sheet_init_17 : decode prog_8_method_1_code 17 = .ok (.return_, 1) := by decide +kernel
theorem d_sheet_init_4 : decode prog_8_method_1_code 4 = .ok (.aload_n 0, 1) := by decide +kernel
theorem d_sheet_init_5 : decode prog_8_method_1_code 5 = .ok (.bipush 40, 2) := by decide +kernel
theorem d_sheet_init_7 : decode prog_8_method_1_code 7 = .ok (.newarray .int, 2) := by decide +kernel
theorem d_sheet_init_9 : decode prog_8_method_1_code 9 = .ok (.putfield 9, 3) := by decide +kernel
theorem d_sheet_isMissing_0 : decode prog_8_method_3_code 0 = .ok (.aload_n 0, 1) := by decide +kernel
theorem d_sheet_isMissing_1 : decode prog_8_method_3_code 1 = .ok (.getfield 15, 3) := by decide +kernel
theorem d_sheet_isMissing_12 : decode prog_8_method_3_code 12 = .ok (.iconst 0, 1) := by decide +kernel
theorem d_sheet_isMissing_13 : decode prog_8_method_3_code 13 = .ok (.ireturn, 1) := by decide +kernel
theorem d_sheet_isMissing_4 : decode prog_8_method_3_code 4 = .ok (.iconst (-1), 1) := by decide +kernel
theorem d_sheet_isMissing_5 : decode prog_8_method_3_code 5 = .ok (.if_icmp .ne 7, 3) := by decide +kernel
theorem d_sheet_isMissing_8 : decode prog_8_method_3_code 8 = .ok (.iconst 1, 1) := by decide +kernel
theorem d_sheet_isMissing_9 : decode prog_8_method_3_code 9 = .ok (.goto 4, 3) := by decide +kernel
theorem d_sheet_isWithin_0 : decode prog_8_method_6_code 0 = .ok (.iconst 0, 1) := by decide +kernel
theorem d_sheet_isWithin_1 : decode prog_8_method_6_code 1 = .ok (.istore_n 3, 1) := by decide +kernel
theorem d_sheet_isWithin_10 : decode prog_8_method_6_code 10 = .ok (.aload_n 0, 1) := by decide +kernel
theorem d_sheet_isWithin_11 : decode prog_8_method_6_code 11 = .ok (.getfield 9, 3) := by decide +kernel
theorem d_sheet_isWithin_14 : decode prog_8_method_6_code 14 = .ok (.iload_n 3, 1) := by decide +kernel
theorem d_sheet_isWithin_15 : decode prog_8_method_6_code 15 = .ok (.iaload, 1) := by decide +kernel
theorem d_sheet_isWithin_16 : decode prog_8_method_6_code 16 = .ok (.iload_n 1, 1) := by decide +kernel
theorem d_sheet_isWithin_17 : decode prog_8_method_6_code 17 = .ok (.iload_n 2, 1) := by decide +kernel
theorem d_sheet_isWithin_18 : decode prog_8_method_6_code 18 = .ok (.invokestatic 22, 3) := by decide +kernel
theorem d_sheet_isWithin_2 : decode prog_8_method_6_code 2 = .ok (.iload_n 3, 1) := by decide +kernel
theorem d_sheet_isWithin_21 : decode prog_8_method_6_code 21 = .ok (.ifCond .ne 5, 3) := by decide +kernel
theorem d_sheet_isWithin_24 : decode prog_8_method_6_code 24 = .ok (.iconst 0, 1) := by decide +kernel
theorem d_sheet_isWithin_25 : decode prog_8_method_6_code 25 = .ok (.ireturn, 1) := by decide +kernel
theorem d_sheet_isWithin_26 : decode prog_8_method_6_code 26 = .ok (.iinc 3 1, 3) := by decide +kernel
theorem d_sheet_isWithin_29 : decode prog_8_method_6_code 29 = .ok (.goto (-27), 3) := by decide +kernel
theorem d_sheet_isWithin_3 : decode prog_8_method_6_code 3 = .ok (.aload_n 0, 1) := by decide +kernel
theorem d_sheet_isWithin_32 : decode prog_8_method_6_code 32 = .ok (.iconst 1, 1) := by decide +kernel
theorem d_sheet_isWithin_33 : decode prog_8_method_6_code 33 = .ok (.ireturn, 1) := by decide +kernel
theorem d_sheet_isWithin_4 : decode prog_8_method_6_code 4 = .ok (.getfield 19, 3) := by decide +kernel
theorem d_sheet_isWithin_7 : decode prog_8_method_6_code 7 = .ok (.if_icmp .ge 25, 3) := by decide +kernel
theorem d_sheet_write_0 : decode prog_8_method_4_code 0 = .ok (.aload_n 0, 1) := by decide +kernel
theorem d_sheet_write_1 : decode prog_8_method_4_code 1 = .ok (.getfield 15, 3) := by decide +kernel
theorem d_sheet_write_11 : decode prog_8_method_4_code 11 = .ok (.iload_n 1, 1) := by decide +kernel
theorem d_sheet_write_12 : decode prog_8_method_4_code 12 = .ok (.iload_n 2, 1) := by decide +kernel
theorem d_sheet_write_13 : decode prog_8_method_4_code 13 = .ok (.i2b, 1) := by decide +kernel
theorem d_sheet_write_14 : decode prog_8_method_4_code 14 = .ok (.iastore, 1) := by decide +kernel
theorem d_sheet_write_15 : decode prog_8_method_4_code 15 = .ok (.goto 29, 3) := by decide +kernel
theorem d_sheet_write_18 : decode prog_8_method_4_code 18 = .ok (.aload_n 0, 1) := by decide +kernel
theorem d_sheet_write_19 : decode prog_8_method_4_code 19 = .ok (.getfield 15, 3) := by decide +kernel
theorem d_sheet_write_22 : decode prog_8_method_4_code 22 = .ok (.iconst 1, 1) := by decide +kernel
theorem d_sheet_write_23 : decode prog_8_method_4_code 23 = .ok (.if_icmp .ne 14, 3) := by decide +kernel
theorem d_sheet_write_26 : decode prog_8_method_4_code 26 = .ok (.aload_n 0, 1) := by decide +kernel
theorem d_sheet_write_27 : decode prog_8_method_4_code 27 = .ok (.getfield 9, 3) := by decide +kernel
theorem d_sheet_write_30 : decode prog_8_method_4_code 30 = .ok (.iload_n 1, 1) := by decide +kernel
theorem d_sheet_write_31 : decode prog_8_method_4_code 31 = .ok (.iload_n 2, 1) := by decide +kernel
theorem d_sheet_write_32 : decode prog_8_method_4_code 32 = .ok (.i2s, 1) := by decide +kernel
theorem d_sheet_write_33 : decode prog_8_method_4_code 33 = .ok (.iastore, 1) := by decide +kernel
theorem d_sheet_write_34 : decode prog_8_method_4_code 34 = .ok (.goto 10, 3) := by decide +kernel
theorem d_sheet_write_37 : decode prog_8_method_4_code 37 = .ok (.aload_n 0, 1) := by decide +kernel
theorem d_sheet_write_38 : decode prog_8_method_4_code 38 = .ok (.getfield 9, 3) := by decide +kernel
theorem d_sheet_write_4 : decode prog_8_method_4_code 4 = .ok (.ifCond .ne 14, 3) := by decide +kernel
theorem d_sheet_write_41 : decode prog_8_method_4_code 41 = .ok (.iload_n 1, 1) := by decide +kernel
theorem d_sheet_write_42 : decode prog_8_method_4_code 42 = .ok (.iload_n 2, 1) := by decide +kernel
theorem d_sheet_write_43 : decode prog_8_method_4_code 43 = .ok (.iastore, 1) := by decide +kernel
theorem d_sheet_write_44 : decode prog_8_method_4_code 44 = .ok (.return_, 1) := by decide +kernel
theorem d_sheet_write_7 : decode prog_8_method_4_code 7 = .ok (.aload_n 0, 1) := by decide +kernel
theorem d_sheet_write_8 : decode prog_8_method_4_code 8 = .ok (.getfield 9, 3) := by decide +kernel
theorem d_sumset_begin_0 : decode prog_9_method_2_code 0 = .ok (.iconst 0, 1) := by decide +kernel
theorem d_sumset_begin_1 : decode prog_9_method_2_code 1 = .ok (.istore_n 1, 1) := by decide +kernel
theorem d_sumset_begin_12 : decode prog_9_method_2_code 12 = .ok (.iload_n 1, 1) := by decide +kernel
theorem d_sumset_begin_13 : decode prog_9_method_2_code 13 = .ok (.lconst 0, 1) := by decide +kernel
theorem d_sumset_begin_14 : decode prog_9_method_2_code 14 = .ok (.lastore, 1) := by decide +kernel
theorem d_sumset_begin_15 : decode prog_9_method_2_code 15 = .ok (.iinc 1 1, 3) := by decide +kernel
theorem d_sumset_begin_18 : decode prog_9_method_2_code 18 = .ok (.goto (-16), 3) := by decide +kernel
theorem d_sumset_begin_2 : decode prog_9_method_2_code 2 = .ok (.iload_n 1, 1) := by decide +kernel
theorem d_sumset_begin_21 : decode prog_9_method_2_code 21 = .ok (.aload_n 0, 1) := by decide +kernel
theorem d_sumset_begin_22 : decode prog_9_method_2_code 22 = .ok (.getfield 9, 3) := by decide +kernel
theorem d_sumset_begin_25 : decode prog_9_method_2_code 25 = .ok (.iconst 0, 1) := by decide +kernel
theorem d_sumset_begin_26 : decode prog_9_method_2_code 26 = .ok (.lconst 1, 1) := by decide +kernel
theorem d_sumset_begin_27 : decode prog_9_method_2_code 27 = .ok (.lastore, 1) := by decide +kernel
theorem d_sumset_begin_28 : decode prog_9_method_2_code 28 = .ok (.return_, 1) := by decide +kernel
theorem d_sumset_begin_3 : decode prog_9_method_2_code 3 = .ok (.bipush 16, 2) := by decide +kernel
theorem d_sumset_begin_5 : decode prog_9_method_2_code 5 = .ok (.if_icmp .ge 16, 3) := by decide +kernel
theorem d_sumset_begin_8 : decode prog_9_method_2_code 8 = .ok (.aload_n 0, 1) := by decide +kernel
theorem d_sumset_begin_9 : decode prog_9_method_2_code 9 = .ok (.getfield 9, 3) := by decide +kernel
theorem d_sumset_init_0 : decode prog_9_method_1_code 0 = .ok (.aload_n 0, 1) := by decide +kernel
theorem d_sumset_init_1 : decode prog_9_method_1_code 1 = .ok (.invokespecial 1, 3) := by decide +kernel
theorem d_sumset_init_12 : decode prog_9_method_1_code 12 = .ok (.return_, 1) := by decide +kernel
theorem d_sumset_init_4 : decode prog_9_method_1_code 4 = .ok (.aload_n 0, 1) := by decide +kernel
theorem d_sumset_init_5 : decode prog_9_method_1_code 5 = .ok (.bipush 16, 2) := by decide +kernel
theorem d_sumset_init_7 : decode prog_9_method_1_code 7 = .ok (.newarray .long, 2) := by decide +kernel
theorem d_sumset_init_9 : decode prog_9_method_1_code 9 = .ok (.putfield 9, 3) := by decide +kernel
theorem d_sumset_join_0 : decode prog_9_method_4_code 0 = .ok (.bipush 15, 2) := by decide +kernel
theorem d_sumset_join_11 : decode prog_9_method_4_code 11 = .ok (.iload_n 2, 1) := by decide +kernel
theorem d_sumset_join_12 : decode prog_9_method_4_code 12 = .ok (.dup2, 1) := by decide +kernel
theorem d_sumset_join_13 : decode prog_9_method_4_code 13 = .ok (.laload, 1) := by decide +kernel
theorem d_sumset_join_14 : decode prog_9_method_4_code 14 = .ok (.aload_n 0, 1) := by decide +kernel
theorem d_sumset_join_15 : decode prog_9_method_4_code 15 = .ok (.iload_n 2, 1) := by decide +kernel
theorem d_sumset_join_16 : decode prog_9_method_4_code 16 = .ok (.iload_n 1, 1) := by decide +kernel
theorem d_sumset_join_17 : decode prog_9_method_4_code 17 = .ok (.invokevirtual 13, 3) := by decide +kernel
theorem d_sumset_join_2 : decode prog_9_method_4_code 2 = .ok (.istore_n 2, 1) := by decide +kernel
theorem d_sumset_join_20 : decode prog_9_method_4_code 20 = .ok (.lor, 1) := by decide +kernel
theorem d_sumset_join_21 : decode prog_9_method_4_code 21 = .ok (.lastore, 1) := by decide +kernel
theorem d_sumset_join_22 : decode prog_9_method_4_code 22 = .ok (.iinc 2 (-1), 3) := by decide +kernel
theorem d_sumset_join_25 : decode prog_9_method_4_code 25 = .ok (.goto (-22), 3) := by decide +kernel
theorem d_sumset_join_28 : decode prog_9_method_4_code 28 = .ok (.return_, 1) := by decide +kernel
theorem d_sumset_join_3 : decode prog_9_method_4_code 3 = .ok (.iload_n 2, 1) := by decide +kernel
theorem d_sumset_join_4 : decode prog_9_method_4_code 4 = .ok (.ifCond .lt 24, 3) := by decide +kernel
theorem d_sumset_join_7 : decode prog_9_method_4_code 7 = .ok (.aload_n 0, 1) := by decide +kernel
theorem d_sumset_join_8 : decode prog_9_method_4_code 8 = .ok (.getfield 9, 3) := by decide +kernel
theorem d_sumset_meets_0 : decode prog_9_method_3_code 0 = .ok (.iconst 0, 1) := by decide +kernel
theorem d_sumset_meets_1 : decode prog_9_method_3_code 1 = .ok (.istore_n 2, 1) := by decide +kernel
theorem d_sumset_meets_12 : decode prog_9_method_3_code 12 = .ok (.iload_n 2, 1) := by decide +kernel
theorem d_sumset_meets_13 : decode prog_9_method_3_code 13 = .ok (.laload, 1) := by decide +kernel
theorem d_sumset_meets_14 : decode prog_9_method_3_code 14 = .ok (.aload_n 0, 1) := by decide +kernel
theorem d_sumset_meets_15 : decode prog_9_method_3_code 15 = .ok (.iload_n 2, 1) := by decide +kernel
theorem d_sumset_meets_16 : decode prog_9_method_3_code 16 = .ok (.iload_n 1, 1) := by decide +kernel
theorem d_sumset_meets_17 : decode prog_9_method_3_code 17 = .ok (.invokevirtual 13, 3) := by decide +kernel
theorem d_sumset_meets_2 : decode prog_9_method_3_code 2 = .ok (.iload_n 2, 1) := by decide +kernel
theorem d_sumset_meets_20 : decode prog_9_method_3_code 20 = .ok (.land, 1) := by decide +kernel
theorem d_sumset_meets_21 : decode prog_9_method_3_code 21 = .ok (.lconst 0, 1) := by decide +kernel
theorem d_sumset_meets_22 : decode prog_9_method_3_code 22 = .ok (.lcmp, 1) := by decide +kernel
theorem d_sumset_meets_23 : decode prog_9_method_3_code 23 = .ok (.ifCond .eq 5, 3) := by decide +kernel
theorem d_sumset_meets_26 : decode prog_9_method_3_code 26 = .ok (.iconst 1, 1) := by decide +kernel
theorem d_sumset_meets_27 : decode prog_9_method_3_code 27 = .ok (.ireturn, 1) := by decide +kernel
theorem d_sumset_meets_28 : decode prog_9_method_3_code 28 = .ok (.iinc 2 1, 3) := by decide +kernel
theorem d_sumset_meets_3 : decode prog_9_method_3_code 3 = .ok (.bipush 16, 2) := by decide +kernel
theorem d_sumset_meets_31 : decode prog_9_method_3_code 31 = .ok (.goto (-29), 3) := by decide +kernel
theorem d_sumset_meets_34 : decode prog_9_method_3_code 34 = .ok (.iconst 0, 1) := by decide +kernel
theorem d_sumset_meets_35 : decode prog_9_method_3_code 35 = .ok (.ireturn, 1) := by decide +kernel
theorem d_sumset_meets_5 : decode prog_9_method_3_code 5 = .ok (.if_icmp .ge 29, 3) := by decide +kernel
theorem d_sumset_meets_8 : decode prog_9_method_3_code 8 = .ok (.aload_n 0, 1) := by decide +kernel
theorem d_sumset_meets_9 : decode prog_9_method_3_code 9 = .ok (.getfield 9, 3) := by decide +kernel
theorem d_sumset_raised_0 : decode prog_9_method_5_code 0 = .ok (.iload_n 1, 1) := by decide +kernel
theorem d_sumset_raised_1 : decode prog_9_method_5_code 1 = .ok (.iload_n 2, 1) := by decide +kernel
theorem d_sumset_raised_10 : decode prog_9_method_5_code 10 = .ok (.irem, 1) := by decide +kernel
theorem d_sumset_raised_11 : decode prog_9_method_5_code 11 = .ok (.istore 4, 2) := by decide +kernel
theorem d_sumset_raised_13 : decode prog_9_method_5_code 13 = .ok (.iload_n 3, 1) := by decide +kernel
theorem d_sumset_raised_14 : decode prog_9_method_5_code 14 = .ok (.ifCond .lt 15, 3) := by decide +kernel
theorem d_sumset_raised_17 : decode prog_9_method_5_code 17 = .ok (.aload_n 0, 1) := by decide +kernel
theorem d_sumset_raised_18 : decode prog_9_method_5_code 18 = .ok (.getfield 9, 3) := by decide +kernel
theorem d_sumset_raised_2 : decode prog_9_method_5_code 2 = .ok (.bipush 64, 2) := by decide +kernel
theorem d_sumset_raised_21 : decode prog_9_method_5_code 21 = .ok (.iload_n 3, 1) := by decide +kernel
theorem d_sumset_raised_22 : decode prog_9_method_5_code 22 = .ok (.laload, 1) := by decide +kernel
theorem d_sumset_raised_23 : decode prog_9_method_5_code 23 = .ok (.iload 4, 2) := by decide +kernel
theorem d_sumset_raised_25 : decode prog_9_method_5_code 25 = .ok (.lshl, 1) := by decide +kernel
theorem d_sumset_raised_26 : decode prog_9_method_5_code 26 = .ok (.goto 4, 3) := by decide +kernel
theorem d_sumset_raised_29 : decode prog_9_method_5_code 29 = .ok (.lconst 0, 1) := by decide +kernel
theorem d_sumset_raised_30 : decode prog_9_method_5_code 30 = .ok (.lstore 5, 2) := by decide +kernel
theorem d_sumset_raised_32 : decode prog_9_method_5_code 32 = .ok (.iload 4, 2) := by decide +kernel
theorem d_sumset_raised_34 : decode prog_9_method_5_code 34 = .ok (.ifCond .le 27, 3) := by decide +kernel
theorem d_sumset_raised_37 : decode prog_9_method_5_code 37 = .ok (.iload_n 3, 1) := by decide +kernel
theorem d_sumset_raised_38 : decode prog_9_method_5_code 38 = .ok (.iconst 1, 1) := by decide +kernel
theorem d_sumset_raised_39 : decode prog_9_method_5_code 39 = .ok (.if_icmp .lt 22, 3) := by decide +kernel
theorem d_sumset_raised_4 : decode prog_9_method_5_code 4 = .ok (.idiv, 1) := by decide +kernel
theorem d_sumset_raised_42 : decode prog_9_method_5_code 42 = .ok (.lload 5, 2) := by decide +kernel
theorem d_sumset_raised_44 : decode prog_9_method_5_code 44 = .ok (.aload_n 0, 1) := by decide +kernel
theorem d_sumset_raised_45 : decode prog_9_method_5_code 45 = .ok (.getfield 9, 3) := by decide +kernel
theorem d_sumset_raised_48 : decode prog_9_method_5_code 48 = .ok (.iload_n 3, 1) := by decide +kernel
theorem d_sumset_raised_49 : decode prog_9_method_5_code 49 = .ok (.iconst 1, 1) := by decide +kernel
theorem d_sumset_raised_5 : decode prog_9_method_5_code 5 = .ok (.isub, 1) := by decide +kernel
theorem d_sumset_raised_50 : decode prog_9_method_5_code 50 = .ok (.isub, 1) := by decide +kernel
theorem d_sumset_raised_51 : decode prog_9_method_5_code 51 = .ok (.laload, 1) := by decide +kernel
theorem d_sumset_raised_52 : decode prog_9_method_5_code 52 = .ok (.bipush 64, 2) := by decide +kernel
theorem d_sumset_raised_54 : decode prog_9_method_5_code 54 = .ok (.iload 4, 2) := by decide +kernel
theorem d_sumset_raised_56 : decode prog_9_method_5_code 56 = .ok (.isub, 1) := by decide +kernel
theorem d_sumset_raised_57 : decode prog_9_method_5_code 57 = .ok (.lushr, 1) := by decide +kernel
theorem d_sumset_raised_58 : decode prog_9_method_5_code 58 = .ok (.lor, 1) := by decide +kernel
theorem d_sumset_raised_59 : decode prog_9_method_5_code 59 = .ok (.lstore 5, 2) := by decide +kernel
theorem d_sumset_raised_6 : decode prog_9_method_5_code 6 = .ok (.istore_n 3, 1) := by decide +kernel
theorem d_sumset_raised_61 : decode prog_9_method_5_code 61 = .ok (.lload 5, 2) := by decide +kernel
theorem d_sumset_raised_63 : decode prog_9_method_5_code 63 = .ok (.lreturn, 1) := by decide +kernel
theorem d_sumset_raised_7 : decode prog_9_method_5_code 7 = .ok (.iload_n 2, 1) := by decide +kernel
theorem d_sumset_raised_8 : decode prog_9_method_5_code 8 = .ok (.bipush 64, 2) := by decide +kernel
theorem d_sumset_size_0 : decode prog_9_method_6_code 0 = .ok (.iconst 0, 1) := by decide +kernel
theorem d_sumset_size_1 : decode prog_9_method_6_code 1 = .ok (.istore_n 1, 1) := by decide +kernel
theorem d_sumset_size_10 : decode prog_9_method_6_code 10 = .ok (.iload_n 1, 1) := by decide +kernel
theorem d_sumset_size_11 : decode prog_9_method_6_code 11 = .ok (.aload_n 0, 1) := by decide +kernel
theorem d_sumset_size_12 : decode prog_9_method_6_code 12 = .ok (.getfield 9, 3) := by decide +kernel
theorem d_sumset_size_15 : decode prog_9_method_6_code 15 = .ok (.iload_n 2, 1) := by decide +kernel
theorem d_sumset_size_16 : decode prog_9_method_6_code 16 = .ok (.laload, 1) := by decide +kernel
theorem d_sumset_size_17 : decode prog_9_method_6_code 17 = .ok (.invokestatic 17, 3) := by decide +kernel
theorem d_sumset_size_2 : decode prog_9_method_6_code 2 = .ok (.iconst 0, 1) := by decide +kernel
theorem d_sumset_size_20 : decode prog_9_method_6_code 20 = .ok (.iadd, 1) := by decide +kernel
theorem d_sumset_size_21 : decode prog_9_method_6_code 21 = .ok (.istore_n 1, 1) := by decide +kernel
theorem d_sumset_size_22 : decode prog_9_method_6_code 22 = .ok (.iinc 2 1, 3) := by decide +kernel
theorem d_sumset_size_25 : decode prog_9_method_6_code 25 = .ok (.goto (-21), 3) := by decide +kernel
theorem d_sumset_size_28 : decode prog_9_method_6_code 28 = .ok (.iload_n 1, 1) := by decide +kernel
theorem d_sumset_size_29 : decode prog_9_method_6_code 29 = .ok (.ireturn, 1) := by decide +kernel
theorem d_sumset_size_3 : decode prog_9_method_6_code 3 = .ok (.istore_n 2, 1) := by decide +kernel
theorem d_sumset_size_4 : decode prog_9_method_6_code 4 = .ok (.iload_n 2, 1) := by decide +kernel
theorem d_sumset_size_5 : decode prog_9_method_6_code 5 = .ok (.bipush 16, 2) := by decide +kernel
theorem d_sumset_size_7 : decode prog_9_method_6_code 7 = .ok (.if_icmp .ge 21, 3) := by decide +kernel
theorem d_text_add_0 : decode prog_10_method_3_code 0 = .ok (.aload_n 0, 1) := by decide +kernel
theorem d_text_add_1 : decode prog_10_method_3_code 1 = .ok (.getfield 18, 3) := by decide +kernel
theorem d_text_add_10 : decode prog_10_method_3_code 10 = .ok (.aload_n 0, 1) := by decide +kernel
theorem d_text_add_11 : decode prog_10_method_3_code 11 = .ok (.getfield 9, 3) := by decide +kernel
theorem d_text_add_14 : decode prog_10_method_3_code 14 = .ok (.aload_n 0, 1) := by decide +kernel
theorem d_text_add_15 : decode prog_10_method_3_code 15 = .ok (.getfield 18, 3) := by decide +kernel
theorem d_text_add_18 : decode prog_10_method_3_code 18 = .ok (.iload_n 1, 1) := by decide +kernel
theorem d_text_add_19 : decode prog_10_method_3_code 19 = .ok (.iastore, 1) := by decide +kernel
theorem d_text_add_20 : decode prog_10_method_3_code 20 = .ok (.aload_n 0, 1) := by decide +kernel
theorem d_text_add_21 : decode prog_10_method_3_code 21 = .ok (.dup, 1) := by decide +kernel
theorem d_text_add_22 : decode prog_10_method_3_code 22 = .ok (.getfield 18, 3) := by decide +kernel
theorem d_text_add_25 : decode prog_10_method_3_code 25 = .ok (.iconst 1, 1) := by decide +kernel
theorem d_text_add_26 : decode prog_10_method_3_code 26 = .ok (.iadd, 1) := by decide +kernel
theorem d_text_add_27 : decode prog_10_method_3_code 27 = .ok (.putfield 18, 3) := by decide +kernel
theorem d_text_add_30 : decode prog_10_method_3_code 30 = .ok (.return_, 1) := by decide +kernel
theorem d_text_add_4 : decode prog_10_method_3_code 4 = .ok (.sipush 160, 3) := by decide +kernel
theorem d_text_add_7 : decode prog_10_method_3_code 7 = .ok (.if_icmp .ge 23, 3) := by decide +kernel
theorem d_text_begin_0 : decode prog_10_method_2_code 0 = .ok (.aload_n 0, 1) := by decide +kernel
theorem d_text_begin_1 : decode prog_10_method_2_code 1 = .ok (.iconst 0, 1) := by decide +kernel
theorem d_text_begin_10 : decode prog_10_method_2_code 10 = .ok (.return_, 1) := by decide +kernel
theorem d_text_begin_2 : decode prog_10_method_2_code 2 = .ok (.putfield 18, 3) := by decide +kernel
theorem d_text_begin_5 : decode prog_10_method_2_code 5 = .ok (.aload_n 0, 1) := by decide +kernel
theorem d_text_begin_6 : decode prog_10_method_2_code 6 = .ok (.iconst 0, 1) := by decide +kernel
theorem d_text_begin_7 : decode prog_10_method_2_code 7 = .ok (.putfield 22, 3) := by decide +kernel
theorem d_text_endPart_0 : decode prog_10_method_4_code 0 = .ok (.aload_n 0, 1) := by decide +kernel
theorem d_text_endPart_1 : decode prog_10_method_4_code 1 = .ok (.getfield 22, 3) := by decide +kernel
theorem d_text_endPart_12 : decode prog_10_method_4_code 12 = .ok (.aload_n 0, 1) := by decide +kernel
theorem d_text_endPart_13 : decode prog_10_method_4_code 13 = .ok (.getfield 22, 3) := by decide +kernel
theorem d_text_endPart_16 : decode prog_10_method_4_code 16 = .ok (.aload_n 0, 1) := by decide +kernel
theorem d_text_endPart_17 : decode prog_10_method_4_code 17 = .ok (.getfield 18, 3) := by decide +kernel
theorem d_text_endPart_20 : decode prog_10_method_4_code 20 = .ok (.iastore, 1) := by decide +kernel
theorem d_text_endPart_21 : decode prog_10_method_4_code 21 = .ok (.aload_n 0, 1) := by decide +kernel
theorem d_text_endPart_22 : decode prog_10_method_4_code 22 = .ok (.dup, 1) := by decide +kernel
theorem d_text_endPart_23 : decode prog_10_method_4_code 23 = .ok (.getfield 22, 3) := by decide +kernel
theorem d_text_endPart_26 : decode prog_10_method_4_code 26 = .ok (.iconst 1, 1) := by decide +kernel
theorem d_text_endPart_27 : decode prog_10_method_4_code 27 = .ok (.iadd, 1) := by decide +kernel
theorem d_text_endPart_28 : decode prog_10_method_4_code 28 = .ok (.putfield 22, 3) := by decide +kernel
theorem d_text_endPart_31 : decode prog_10_method_4_code 31 = .ok (.return_, 1) := by decide +kernel
theorem d_text_endPart_4 : decode prog_10_method_4_code 4 = .ok (.iconst 3, 1) := by decide +kernel
theorem d_text_endPart_5 : decode prog_10_method_4_code 5 = .ok (.if_icmp .ge 26, 3) := by decide +kernel
theorem d_text_endPart_8 : decode prog_10_method_4_code 8 = .ok (.aload_n 0, 1) := by decide +kernel
theorem d_text_endPart_9 : decode prog_10_method_4_code 9 = .ok (.getfield 15, 3) := by decide +kernel
theorem d_text_init_0 : decode prog_10_method_1_code 0 = .ok (.aload_n 0, 1) := by decide +kernel
theorem d_text_init_1 : decode prog_10_method_1_code 1 = .ok (.invokespecial 3, 3) := by decide +kernel
theorem d_text_init_10 : decode prog_10_method_1_code 10 = .ok (.putfield 9, 3) := by decide +kernel
theorem d_text_init_13 : decode prog_10_method_1_code 13 = .ok (.aload_n 0, 1) := by decide +kernel
theorem d_text_init_14 : decode prog_10_method_1_code 14 = .ok (.iconst 3, 1) := by decide +kernel
theorem d_text_init_15 : decode prog_10_method_1_code 15 = .ok (.newarray .int, 2) := by decide +kernel
theorem d_text_init_17 : decode prog_10_method_1_code 17 = .ok (.putfield 15, 3) := by decide +kernel
theorem d_text_init_20 : decode prog_10_method_1_code 20 = .ok (.return_, 1) := by decide +kernel
theorem d_text_init_4 : decode prog_10_method_1_code 4 = .ok (.aload_n 0, 1) := by decide +kernel
theorem d_text_init_5 : decode prog_10_method_1_code 5 = .ok (.sipush 160, 3) := by decide +kernel
theorem d_text_init_8 : decode prog_10_method_1_code 8 = .ok (.newarray .int, 2) := by decide +kernel
theorem d_text_takeFrom_0 : decode prog_10_method_5_code 0 = .ok (.aload_n 1, 1) := by decide +kernel
theorem d_text_takeFrom_1 : decode prog_10_method_5_code 1 = .ok (.getfield 9, 3) := by decide +kernel
theorem d_text_takeFrom_10 : decode prog_10_method_5_code 10 = .ok (.sipush 160, 3) := by decide +kernel
theorem d_text_takeFrom_13 : decode prog_10_method_5_code 13 = .ok (.invokestatic 25, 3) := by decide +kernel
theorem d_text_takeFrom_16 : decode prog_10_method_5_code 16 = .ok (.aload_n 1, 1) := by decide +kernel
theorem d_text_takeFrom_17 : decode prog_10_method_5_code 17 = .ok (.getfield 15, 3) := by decide +kernel
theorem d_text_takeFrom_20 : decode prog_10_method_5_code 20 = .ok (.iconst 0, 1) := by decide +kernel
theorem d_text_takeFrom_21 : decode prog_10_method_5_code 21 = .ok (.aload_n 0, 1) := by decide +kernel
theorem d_text_takeFrom_22 : decode prog_10_method_5_code 22 = .ok (.getfield 15, 3) := by decide +kernel
theorem d_text_takeFrom_25 : decode prog_10_method_5_code 25 = .ok (.iconst 0, 1) := by decide +kernel
theorem d_text_takeFrom_26 : decode prog_10_method_5_code 26 = .ok (.iconst 3, 1) := by decide +kernel
theorem d_text_takeFrom_27 : decode prog_10_method_5_code 27 = .ok (.invokestatic 25, 3) := by decide +kernel
theorem d_text_takeFrom_30 : decode prog_10_method_5_code 30 = .ok (.aload_n 0, 1) := by decide +kernel
theorem d_text_takeFrom_31 : decode prog_10_method_5_code 31 = .ok (.aload_n 1, 1) := by decide +kernel
theorem d_text_takeFrom_32 : decode prog_10_method_5_code 32 = .ok (.getfield 18, 3) := by decide +kernel
theorem d_text_takeFrom_35 : decode prog_10_method_5_code 35 = .ok (.putfield 18, 3) := by decide +kernel
theorem d_text_takeFrom_38 : decode prog_10_method_5_code 38 = .ok (.aload_n 0, 1) := by decide +kernel
theorem d_text_takeFrom_39 : decode prog_10_method_5_code 39 = .ok (.aload_n 1, 1) := by decide +kernel
theorem d_text_takeFrom_4 : decode prog_10_method_5_code 4 = .ok (.iconst 0, 1) := by decide +kernel
theorem d_text_takeFrom_40 : decode prog_10_method_5_code 40 = .ok (.getfield 22, 3) := by decide +kernel
theorem d_text_takeFrom_43 : decode prog_10_method_5_code 43 = .ok (.putfield 22, 3) := by decide +kernel
theorem d_text_takeFrom_46 : decode prog_10_method_5_code 46 = .ok (.return_, 1) := by decide +kernel
theorem d_text_takeFrom_5 : decode prog_10_method_5_code 5 = .ok (.aload_n 0, 1) := by decide +kernel
theorem d_text_takeFrom_6 : decode prog_10_method_5_code 6 = .ok (.getfield 9, 3) := by decide +kernel
theorem d_text_takeFrom_9 : decode prog_10_method_5_code 9 = .ok (.iconst 0, 1) := by decide +kernel
theorem d_w_agree_0 : decode prog_1_method_62_code 0 = .ok (.aload_n 0, 1) := by decide +kernel
theorem d_w_agree_1 : decode prog_1_method_62_code 1 = .ok (.iload_n 1, 1) := by decide +kernel
theorem d_w_agree_10 : decode prog_1_method_62_code 10 = .ok (.invokevirtual 217, 3) := by decide +kernel
theorem d_w_agree_13 : decode prog_1_method_62_code 13 = .ok (.ifCond .ne 6, 3) := by decide +kernel
theorem d_w_agree_16 : decode prog_1_method_62_code 16 = .ok (.bipush (-5), 2) := by decide +kernel
theorem d_w_agree_18 : decode prog_1_method_62_code 18 = .ok (.ireturn, 1) := by decide +kernel
theorem d_w_agree_19 : decode prog_1_method_62_code 19 = .ok (.aload_n 0, 1) := by decide +kernel
theorem d_w_agree_2 : decode prog_1_method_62_code 2 = .ok (.invokevirtual 357, 3) := by decide +kernel
theorem d_w_agree_20 : decode prog_1_method_62_code 20 = .ok (.iload_n 1, 1) := by decide +kernel
theorem d_w_agree_21 : decode prog_1_method_62_code 21 = .ok (.iload_n 2, 1) := by decide +kernel
theorem d_w_agree_22 : decode prog_1_method_62_code 22 = .ok (.invokevirtual 360, 3) := by decide +kernel
theorem d_w_agree_25 : decode prog_1_method_62_code 25 = .ok (.ireturn, 1) := by decide +kernel
theorem d_w_agree_5 : decode prog_1_method_62_code 5 = .ok (.ifCond .eq 11, 3) := by decide +kernel
theorem d_w_agree_8 : decode prog_1_method_62_code 8 = .ok (.aload_n 0, 1) := by decide +kernel
theorem d_w_agree_9 : decode prog_1_method_62_code 9 = .ok (.iload_n 2, 1) := by decide +kernel
theorem d_w_agreedFuse_0 : decode prog_1_method_54_code 0 = .ok (.iconst (-1), 1) := by decide +kernel
theorem d_w_agreedFuse_1 : decode prog_1_method_54_code 1 = .ok (.istore_n 3, 1) := by decide +kernel
theorem d_w_agreedFuse_11 : decode prog_1_method_54_code 11 = .ok (.if_icmp .ge 48, 3) := by decide +kernel
theorem d_w_agreedFuse_14 : decode prog_1_method_54_code 14 = .ok (.iload_n 2, 1) := by decide +kernel
theorem d_w_agreedFuse_15 : decode prog_1_method_54_code 15 = .ok (.iload 4, 2) := by decide +kernel
theorem d_w_agreedFuse_17 : decode prog_1_method_54_code 17 = .ok (.invokestatic 242, 3) := by decide +kernel
theorem d_w_agreedFuse_2 : decode prog_1_method_54_code 2 = .ok (.iconst 0, 1) := by decide +kernel
theorem d_w_agreedFuse_20 : decode prog_1_method_54_code 20 = .ok (.ifCond .eq 33, 3) := by decide +kernel
theorem d_w_agreedFuse_23 : decode prog_1_method_54_code 23 = .ok (.aload_n 0, 1) := by decide +kernel
theorem d_w_agreedFuse_24 : decode prog_1_method_54_code 24 = .ok (.getfield 23, 3) := by decide +kernel
theorem d_w_agreedFuse_27 : decode prog_1_method_54_code 27 = .ok (.iload 4, 2) := by decide +kernel
theorem d_w_agreedFuse_29 : decode prog_1_method_54_code 29 = .ok (.aaload, 1) := by decide +kernel
theorem d_w_agreedFuse_3 : decode prog_1_method_54_code 3 = .ok (.istore 4, 2) := by decide +kernel
theorem d_w_agreedFuse_30 : decode prog_1_method_54_code 30 = .ok (.getfield 220, 3) := by decide +kernel
theorem d_w_agreedFuse_33 : decode prog_1_method_54_code 33 = .ok (.iload_n 1, 1) := by decide +kernel
theorem d_w_agreedFuse_34 : decode prog_1_method_54_code 34 = .ok (.iaload, 1) := by decide +kernel
theorem d_w_agreedFuse_35 : decode prog_1_method_54_code 35 = .ok (.istore 5, 2) := by decide +kernel
theorem d_w_agreedFuse_37 : decode prog_1_method_54_code 37 = .ok (.iload_n 3, 1) := by decide +kernel
theorem d_w_agreedFuse_38 : decode prog_1_method_54_code 38 = .ok (.iconst (-1), 1) := by decide +kernel
theorem d_w_agreedFuse_39 : decode prog_1_method_54_code 39 = .ok (.if_icmp .eq 11, 3) := by decide +kernel
theorem d_w_agreedFuse_42 : decode prog_1_method_54_code 42 = .ok (.iload_n 3, 1) := by decide +kernel
theorem d_w_agreedFuse_43 : decode prog_1_method_54_code 43 = .ok (.iload 5, 2) := by decide +kernel
theorem d_w_agreedFuse_45 : decode prog_1_method_54_code 45 = .ok (.if_icmp .eq 5, 3) := by decide +kernel
theorem d_w_agreedFuse_48 : decode prog_1_method_54_code 48 = .ok (.iconst (-1), 1) := by decide +kernel
theorem d_w_agreedFuse_49 : decode prog_1_method_54_code 49 = .ok (.ireturn, 1) := by decide +kernel
theorem d_w_agreedFuse_5 : decode prog_1_method_54_code 5 = .ok (.iload 4, 2) := by decide +kernel
theorem d_w_agreedFuse_50 : decode prog_1_method_54_code 50 = .ok (.iload 5, 2) := by decide +kernel
theorem d_w_agreedFuse_52 : decode prog_1_method_54_code 52 = .ok (.istore_n 3, 1) := by decide +kernel
theorem d_w_agreedFuse_53 : decode prog_1_method_54_code 53 = .ok (.iinc 4 1, 3) := by decide +kernel
theorem d_w_agreedFuse_56 : decode prog_1_method_54_code 56 = .ok (.goto (-51), 3) := by decide +kernel
theorem d_w_agreedFuse_59 : decode prog_1_method_54_code 59 = .ok (.iload_n 3, 1) := by decide +kernel
theorem d_w_agreedFuse_60 : decode prog_1_method_54_code 60 = .ok (.ireturn, 1) := by decide +kernel
theorem d_w_agreedFuse_7 : decode prog_1_method_54_code 7 = .ok (.aload_n 0, 1) := by decide +kernel
theorem d_w_agreedFuse_8 : decode prog_1_method_54_code 8 = .ok (.getfield 136, 3) := by decide +kernel
theorem d_w_agreementsOver_0 : decode prog_1_method_67_code 0 = .ok (.iconst 0, 1) := by decide +kernel
theorem d_w_agreementsOver_1 : decode prog_1_method_67_code 1 = .ok (.istore_n 3, 1) := by decide +kernel
theorem d_w_agreementsOver_11 : decode prog_1_method_67_code 11 = .ok (.if_icmp .ge 28, 3) := by decide +kernel
theorem d_w_agreementsOver_14 : decode prog_1_method_67_code 14 = .ok (.iload_n 2, 1) := by decide +kernel
theorem d_w_agreementsOver_15 : decode prog_1_method_67_code 15 = .ok (.iload 4, 2) := by decide +kernel
theorem d_w_agreementsOver_17 : decode prog_1_method_67_code 17 = .ok (.invokestatic 242, 3) := by decide +kernel
theorem d_w_agreementsOver_2 : decode prog_1_method_67_code 2 = .ok (.iconst 0, 1) := by decide +kernel
theorem d_w_agreementsOver_20 : decode prog_1_method_67_code 20 = .ok (.ifCond .eq 13, 3) := by decide +kernel
theorem d_w_agreementsOver_23 : decode prog_1_method_67_code 23 = .ok (.iload_n 3, 1) := by decide +kernel
theorem d_w_agreementsOver_24 : decode prog_1_method_67_code 24 = .ok (.aload_n 0, 1) := by decide +kernel
theorem d_w_agreementsOver_25 : decode prog_1_method_67_code 25 = .ok (.iload_n 1, 1) := by decide +kernel
theorem d_w_agreementsOver_26 : decode prog_1_method_67_code 26 = .ok (.iload 4, 2) := by decide +kernel
theorem d_w_agreementsOver_28 : decode prog_1_method_67_code 28 = .ok (.invokevirtual 360, 3) := by decide +kernel
theorem d_w_agreementsOver_3 : decode prog_1_method_67_code 3 = .ok (.istore 4, 2) := by decide +kernel
theorem d_w_agreementsOver_31 : decode prog_1_method_67_code 31 = .ok (.iadd, 1) := by decide +kernel
theorem d_w_agreementsOver_32 : decode prog_1_method_67_code 32 = .ok (.istore_n 3, 1) := by decide +kernel
theorem d_w_agreementsOver_33 : decode prog_1_method_67_code 33 = .ok (.iinc 4 1, 3) := by decide +kernel
theorem d_w_agreementsOver_36 : decode prog_1_method_67_code 36 = .ok (.goto (-31), 3) := by decide +kernel
theorem d_w_agreementsOver_39 : decode prog_1_method_67_code 39 = .ok (.iload_n 3, 1) := by decide +kernel
theorem d_w_agreementsOver_40 : decode prog_1_method_67_code 40 = .ok (.ireturn, 1) := by decide +kernel
theorem d_w_agreementsOver_5 : decode prog_1_method_67_code 5 = .ok (.iload 4, 2) := by decide +kernel
theorem d_w_agreementsOver_7 : decode prog_1_method_67_code 7 = .ok (.aload_n 0, 1) := by decide +kernel
theorem d_w_agreementsOver_8 : decode prog_1_method_67_code 8 = .ok (.getfield 136, 3) := by decide +kernel
theorem d_w_agreements_0 : decode prog_1_method_66_code 0 = .ok (.iconst 0, 1) := by decide +kernel
theorem d_w_agreements_1 : decode prog_1_method_66_code 1 = .ok (.istore_n 3, 1) := by decide +kernel
theorem d_w_agreements_11 : decode prog_1_method_66_code 11 = .ok (.if_icmp .ge 39, 3) := by decide +kernel
theorem d_w_agreements_14 : decode prog_1_method_66_code 14 = .ok (.aload_n 0, 1) := by decide +kernel
theorem d_w_agreements_15 : decode prog_1_method_66_code 15 = .ok (.getfield 27, 3) := by decide +kernel
theorem d_w_agreements_18 : decode prog_1_method_66_code 18 = .ok (.iload_n 1, 1) := by decide +kernel
theorem d_w_agreements_19 : decode prog_1_method_66_code 19 = .ok (.aaload, 1) := by decide +kernel
theorem d_w_agreements_2 : decode prog_1_method_66_code 2 = .ok (.iconst 0, 1) := by decide +kernel
theorem d_w_agreements_20 : decode prog_1_method_66_code 20 = .ok (.getfield 220, 3) := by decide +kernel
theorem d_w_agreements_23 : decode prog_1_method_66_code 23 = .ok (.iload 4, 2) := by decide +kernel
theorem d_w_agreements_25 : decode prog_1_method_66_code 25 = .ok (.iaload, 1) := by decide +kernel
theorem d_w_agreements_26 : decode prog_1_method_66_code 26 = .ok (.aload_n 0, 1) := by decide +kernel
theorem d_w_agreements_27 : decode prog_1_method_66_code 27 = .ok (.getfield 23, 3) := by decide +kernel
theorem d_w_agreements_3 : decode prog_1_method_66_code 3 = .ok (.istore 4, 2) := by decide +kernel
theorem d_w_agreements_30 : decode prog_1_method_66_code 30 = .ok (.iload_n 2, 1) := by decide +kernel
theorem d_w_agreements_31 : decode prog_1_method_66_code 31 = .ok (.aaload, 1) := by decide +kernel
theorem d_w_agreements_32 : decode prog_1_method_66_code 32 = .ok (.getfield 220, 3) := by decide +kernel
theorem d_w_agreements_35 : decode prog_1_method_66_code 35 = .ok (.iload 4, 2) := by decide +kernel
theorem d_w_agreements_37 : decode prog_1_method_66_code 37 = .ok (.iaload, 1) := by decide +kernel
theorem d_w_agreements_38 : decode prog_1_method_66_code 38 = .ok (.if_icmp .ne 6, 3) := by decide +kernel
theorem d_w_agreements_41 : decode prog_1_method_66_code 41 = .ok (.iinc 3 1, 3) := by decide +kernel
theorem d_w_agreements_44 : decode prog_1_method_66_code 44 = .ok (.iinc 4 1, 3) := by decide +kernel
theorem d_w_agreements_47 : decode prog_1_method_66_code 47 = .ok (.goto (-42), 3) := by decide +kernel
theorem d_w_agreements_5 : decode prog_1_method_66_code 5 = .ok (.iload 4, 2) := by decide +kernel
theorem d_w_agreements_50 : decode prog_1_method_66_code 50 = .ok (.iload_n 3, 1) := by decide +kernel
theorem d_w_agreements_51 : decode prog_1_method_66_code 51 = .ok (.ireturn, 1) := by decide +kernel
theorem d_w_agreements_7 : decode prog_1_method_66_code 7 = .ok (.aload_n 0, 1) := by decide +kernel
theorem d_w_agreements_8 : decode prog_1_method_66_code 8 = .ok (.getfield 133, 3) := by decide +kernel
theorem d_w_ahead_0 : decode prog_1_method_36_code 0 = .ok (.iload_n 1, 1) := by decide +kernel
theorem d_w_ahead_1 : decode prog_1_method_36_code 1 = .ok (.invokestatic 260, 3) := by decide +kernel
theorem d_w_ahead_10 : decode prog_1_method_36_code 10 = .ok (.invokestatic 110, 3) := by decide +kernel
theorem d_w_ahead_101 : decode prog_1_method_36_code 101 = .ok (.iload_n 2, 1) := by decide +kernel
theorem d_w_ahead_102 : decode prog_1_method_36_code 102 = .ok (.ifCond .ne 8, 3) := by decide +kernel
theorem d_w_ahead_105 : decode prog_1_method_36_code 105 = .ok (.iload 5, 2) := by decide +kernel
theorem d_w_ahead_107 : decode prog_1_method_36_code 107 = .ok (.goto 5, 3) := by decide +kernel
theorem d_w_ahead_110 : decode prog_1_method_36_code 110 = .ok (.iload 6, 2) := by decide +kernel
theorem d_w_ahead_112 : decode prog_1_method_36_code 112 = .ok (.ireturn, 1) := by decide +kernel
theorem d_w_ahead_13 : decode prog_1_method_36_code 13 = .ok (.ifCond .ne 6, 3) := by decide +kernel
theorem d_w_ahead_16 : decode prog_1_method_36_code 16 = .ok (.bipush (-2), 2) := by decide +kernel
theorem d_w_ahead_18 : decode prog_1_method_36_code 18 = .ok (.ireturn, 1) := by decide +kernel
theorem d_w_ahead_19 : decode prog_1_method_36_code 19 = .ok (.aload_n 0, 1) := by decide +kernel
theorem d_w_ahead_20 : decode prog_1_method_36_code 20 = .ok (.invokevirtual 297, 3) := by decide +kernel
theorem d_w_ahead_23 : decode prog_1_method_36_code 23 = .ok (.istore_n 3, 1) := by decide +kernel
theorem d_w_ahead_24 : decode prog_1_method_36_code 24 = .ok (.iload_n 3, 1) := by decide +kernel
theorem d_w_ahead_25 : decode prog_1_method_36_code 25 = .ok (.ifCond .ne 5, 3) := by decide +kernel
theorem d_w_ahead_28 : decode prog_1_method_36_code 28 = .ok (.iconst (-1), 1) := by decide +kernel
theorem d_w_ahead_29 : decode prog_1_method_36_code 29 = .ok (.ireturn, 1) := by decide +kernel
theorem d_w_ahead_30 : decode prog_1_method_36_code 30 = .ok (.aload_n 0, 1) := by decide +kernel
theorem d_w_ahead_31 : decode prog_1_method_36_code 31 = .ok (.iload_n 1, 1) := by decide +kernel
theorem d_w_ahead_32 : decode prog_1_method_36_code 32 = .ok (.iload_n 3, 1) := by decide +kernel
theorem d_w_ahead_33 : decode prog_1_method_36_code 33 = .ok (.invokevirtual 303, 3) := by decide +kernel
theorem d_w_ahead_36 : decode prog_1_method_36_code 36 = .ok (.aload_n 0, 1) := by decide +kernel
theorem d_w_ahead_37 : decode prog_1_method_36_code 37 = .ok (.getfield 114, 3) := by decide +kernel
theorem d_w_ahead_4 : decode prog_1_method_36_code 4 = .ok (.ifCond .eq 12, 3) := by decide +kernel
theorem d_w_ahead_40 : decode prog_1_method_36_code 40 = .ok (.invokestatic 130, 3) := by decide +kernel
theorem d_w_ahead_43 : decode prog_1_method_36_code 43 = .ok (.istore 4, 2) := by decide +kernel
theorem d_w_ahead_45 : decode prog_1_method_36_code 45 = .ok (.iconst 0, 1) := by decide +kernel
theorem d_w_ahead_46 : decode prog_1_method_36_code 46 = .ok (.istore 5, 2) := by decide +kernel
theorem d_w_ahead_48 : decode prog_1_method_36_code 48 = .ok (.bipush 13, 2) := by decide +kernel
theorem d_w_ahead_50 : decode prog_1_method_36_code 50 = .ok (.istore 6, 2) := by decide +kernel
theorem d_w_ahead_52 : decode prog_1_method_36_code 52 = .ok (.iconst 0, 1) := by decide +kernel
theorem d_w_ahead_53 : decode prog_1_method_36_code 53 = .ok (.istore 7, 2) := by decide +kernel
theorem d_w_ahead_55 : decode prog_1_method_36_code 55 = .ok (.iload 7, 2) := by decide +kernel
theorem d_w_ahead_57 : decode prog_1_method_36_code 57 = .ok (.iload 4, 2) := by decide +kernel
theorem d_w_ahead_59 : decode prog_1_method_36_code 59 = .ok (.if_icmp .gt 42, 3) := by decide +kernel
theorem d_w_ahead_62 : decode prog_1_method_36_code 62 = .ok (.iload 7, 2) := by decide +kernel
theorem d_w_ahead_64 : decode prog_1_method_36_code 64 = .ok (.invokestatic 316, 3) := by decide +kernel
theorem d_w_ahead_67 : decode prog_1_method_36_code 67 = .ok (.iconst 2, 1) := by decide +kernel
theorem d_w_ahead_68 : decode prog_1_method_36_code 68 = .ok (.if_icmp .gt 27, 3) := by decide +kernel
theorem d_w_ahead_7 : decode prog_1_method_36_code 7 = .ok (.iload_n 2, 1) := by decide +kernel
theorem d_w_ahead_71 : decode prog_1_method_36_code 71 = .ok (.aload_n 0, 1) := by decide +kernel
theorem d_w_ahead_72 : decode prog_1_method_36_code 72 = .ok (.iload 7, 2) := by decide +kernel
theorem d_w_ahead_74 : decode prog_1_method_36_code 74 = .ok (.iload_n 3, 1) := by decide +kernel
theorem d_w_ahead_75 : decode prog_1_method_36_code 75 = .ok (.invokevirtual 321, 3) := by decide +kernel
theorem d_w_ahead_78 : decode prog_1_method_36_code 78 = .ok (.istore 8, 2) := by decide +kernel
theorem d_w_ahead_8 : decode prog_1_method_36_code 8 = .ok (.iconst 0, 1) := by decide +kernel
theorem d_w_ahead_80 : decode prog_1_method_36_code 80 = .ok (.iload 8, 2) := by decide +kernel
theorem d_w_ahead_82 : decode prog_1_method_36_code 82 = .ok (.iload 6, 2) := by decide +kernel
theorem d_w_ahead_84 : decode prog_1_method_36_code 84 = .ok (.if_icmp .ge 11, 3) := by decide +kernel
theorem d_w_ahead_87 : decode prog_1_method_36_code 87 = .ok (.iload 7, 2) := by decide +kernel
theorem d_w_ahead_89 : decode prog_1_method_36_code 89 = .ok (.istore 5, 2) := by decide +kernel
theorem d_w_ahead_9 : decode prog_1_method_36_code 9 = .ok (.iconst 1, 1) := by decide +kernel
theorem d_w_ahead_91 : decode prog_1_method_36_code 91 = .ok (.iload 8, 2) := by decide +kernel
theorem d_w_ahead_93 : decode prog_1_method_36_code 93 = .ok (.istore 6, 2) := by decide +kernel
theorem d_w_ahead_95 : decode prog_1_method_36_code 95 = .ok (.iinc 7 1, 3) := by decide +kernel
theorem d_w_ahead_98 : decode prog_1_method_36_code 98 = .ok (.goto (-43), 3) := by decide +kernel
theorem d_w_amissLamps_0 : decode prog_1_method_39_code 0 = .ok (.aload_n 0, 1) := by decide +kernel
theorem d_w_amissLamps_1 : decode prog_1_method_39_code 1 = .ok (.iload_n 1, 1) := by decide +kernel
theorem d_w_amissLamps_10 : decode prog_1_method_39_code 10 = .ok (.aload_n 2, 1) := by decide +kernel
theorem d_w_amissLamps_11 : decode prog_1_method_39_code 11 = .ok (.getfield 278, 3) := by decide +kernel
theorem d_w_amissLamps_14 : decode prog_1_method_39_code 14 = .ok (.aload_n 2, 1) := by decide +kernel
theorem d_w_amissLamps_15 : decode prog_1_method_39_code 15 = .ok (.getfield 281, 3) := by decide +kernel
theorem d_w_amissLamps_18 : decode prog_1_method_39_code 18 = .ok (.invokevirtual 236, 3) := by decide +kernel
theorem d_w_amissLamps_2 : decode prog_1_method_39_code 2 = .ok (.aload_n 2, 1) := by decide +kernel
theorem d_w_amissLamps_21 : decode prog_1_method_39_code 21 = .ok (.iand, 1) := by decide +kernel
theorem d_w_amissLamps_22 : decode prog_1_method_39_code 22 = .ok (.istore_n 3, 1) := by decide +kernel
theorem d_w_amissLamps_23 : decode prog_1_method_39_code 23 = .ok (.iload_n 3, 1) := by decide +kernel
theorem d_w_amissLamps_24 : decode prog_1_method_39_code 24 = .ok (.aload_n 2, 1) := by decide +kernel
theorem d_w_amissLamps_25 : decode prog_1_method_39_code 25 = .ok (.getfield 287, 3) := by decide +kernel
theorem d_w_amissLamps_28 : decode prog_1_method_39_code 28 = .ok (.ixor, 1) := by decide +kernel
theorem d_w_amissLamps_29 : decode prog_1_method_39_code 29 = .ok (.aload_n 0, 1) := by decide +kernel
theorem d_w_amissLamps_3 : decode prog_1_method_39_code 3 = .ok (.getfield 273, 3) := by decide +kernel
theorem d_w_amissLamps_30 : decode prog_1_method_39_code 30 = .ok (.aload_n 2, 1) := by decide +kernel
theorem d_w_amissLamps_31 : decode prog_1_method_39_code 31 = .ok (.getfield 284, 3) := by decide +kernel
theorem d_w_amissLamps_34 : decode prog_1_method_39_code 34 = .ok (.invokevirtual 263, 3) := by decide +kernel
theorem d_w_amissLamps_37 : decode prog_1_method_39_code 37 = .ok (.iand, 1) := by decide +kernel
theorem d_w_amissLamps_38 : decode prog_1_method_39_code 38 = .ok (.ireturn, 1) := by decide +kernel
theorem d_w_amissLamps_6 : decode prog_1_method_39_code 6 = .ok (.invokevirtual 233, 3) := by decide +kernel
theorem d_w_amissLamps_9 : decode prog_1_method_39_code 9 = .ok (.aload_n 0, 1) := by decide +kernel
theorem d_w_amiss_0 : decode prog_1_method_29_code 0 = .ok (.aload_n 0, 1) := by decide +kernel
theorem d_w_amiss_1 : decode prog_1_method_29_code 1 = .ok (.iload_n 1, 1) := by decide +kernel
theorem d_w_amiss_10 : decode prog_1_method_29_code 10 = .ok (.ireturn, 1) := by decide +kernel
theorem d_w_amiss_11 : decode prog_1_method_29_code 11 = .ok (.iload_n 2, 1) := by decide +kernel
theorem d_w_amiss_12 : decode prog_1_method_29_code 12 = .ok (.iconst 0, 1) := by decide +kernel
theorem d_w_amiss_13 : decode prog_1_method_29_code 13 = .ok (.aload_n 0, 1) := by decide +kernel
theorem d_w_amiss_14 : decode prog_1_method_29_code 14 = .ok (.getfield 45, 3) := by decide +kernel
theorem d_w_amiss_17 : decode prog_1_method_29_code 17 = .ok (.getfield 139, 3) := by decide +kernel
theorem d_w_amiss_2 : decode prog_1_method_29_code 2 = .ok (.invokevirtual 217, 3) := by decide +kernel
theorem d_w_amiss_20 : decode prog_1_method_29_code 20 = .ok (.iconst 1, 1) := by decide +kernel
theorem d_w_amiss_21 : decode prog_1_method_29_code 21 = .ok (.isub, 1) := by decide +kernel
theorem d_w_amiss_22 : decode prog_1_method_29_code 22 = .ok (.invokestatic 110, 3) := by decide +kernel
theorem d_w_amiss_25 : decode prog_1_method_29_code 25 = .ok (.ifCond .ne 6, 3) := by decide +kernel
theorem d_w_amiss_28 : decode prog_1_method_29_code 28 = .ok (.bipush (-7), 2) := by decide +kernel
theorem d_w_amiss_30 : decode prog_1_method_29_code 30 = .ok (.ireturn, 1) := by decide +kernel
theorem d_w_amiss_31 : decode prog_1_method_29_code 31 = .ok (.aload_n 0, 1) := by decide +kernel
theorem d_w_amiss_32 : decode prog_1_method_29_code 32 = .ok (.iload_n 1, 1) := by decide +kernel
theorem d_w_amiss_33 : decode prog_1_method_29_code 33 = .ok (.aload_n 0, 1) := by decide +kernel
theorem d_w_amiss_34 : decode prog_1_method_29_code 34 = .ok (.getfield 45, 3) := by decide +kernel
theorem d_w_amiss_37 : decode prog_1_method_29_code 37 = .ok (.getfield 269, 3) := by decide +kernel
theorem d_w_amiss_40 : decode prog_1_method_29_code 40 = .ok (.iload_n 2, 1) := by decide +kernel
theorem d_w_amiss_41 : decode prog_1_method_29_code 41 = .ok (.aaload, 1) := by decide +kernel
theorem d_w_amiss_42 : decode prog_1_method_29_code 42 = .ok (.invokevirtual 290, 3) := by decide +kernel
theorem d_w_amiss_45 : decode prog_1_method_29_code 45 = .ok (.ireturn, 1) := by decide +kernel
theorem d_w_amiss_5 : decode prog_1_method_29_code 5 = .ok (.ifCond .ne 6, 3) := by decide +kernel
theorem d_w_amiss_8 : decode prog_1_method_29_code 8 = .ok (.bipush (-5), 2) := by decide +kernel
theorem d_w_ask_0 : decode prog_1_method_27_code 0 = .ok (.iload_n 1, 1) := by decide +kernel
theorem d_w_ask_1 : decode prog_1_method_27_code 1 = .ok (.invokestatic 260, 3) := by decide +kernel
theorem d_w_ask_10 : decode prog_1_method_27_code 10 = .ok (.invokevirtual 263, 3) := by decide +kernel
theorem d_w_ask_102 : decode prog_1_method_27_code 102 = .ok (.aload_n 0, 1) := by decide +kernel
theorem d_w_ask_103 : decode prog_1_method_27_code 103 = .ok (.getfield 45, 3) := by decide +kernel
theorem d_w_ask_106 : decode prog_1_method_27_code 106 = .ok (.dup, 1) := by decide +kernel
theorem d_w_ask_107 : decode prog_1_method_27_code 107 = .ok (.getfield 139, 3) := by decide +kernel
theorem d_w_ask_110 : decode prog_1_method_27_code 110 = .ok (.iconst 1, 1) := by decide +kernel
theorem d_w_ask_111 : decode prog_1_method_27_code 111 = .ok (.iadd, 1) := by decide +kernel
theorem d_w_ask_112 : decode prog_1_method_27_code 112 = .ok (.putfield 139, 3) := by decide +kernel
theorem d_w_ask_115 : decode prog_1_method_27_code 115 = .ok (.aload_n 0, 1) := by decide +kernel
theorem d_w_ask_116 : decode prog_1_method_27_code 116 = .ok (.getfield 45, 3) := by decide +kernel
theorem d_w_ask_119 : decode prog_1_method_27_code 119 = .ok (.getfield 139, 3) := by decide +kernel
theorem d_w_ask_122 : decode prog_1_method_27_code 122 = .ok (.iconst 1, 1) := by decide +kernel
theorem d_w_ask_123 : decode prog_1_method_27_code 123 = .ok (.isub, 1) := by decide +kernel
theorem d_w_ask_124 : decode prog_1_method_27_code 124 = .ok (.ireturn, 1) := by decide +kernel
theorem d_w_ask_13 : decode prog_1_method_27_code 13 = .ok (.invokestatic 266, 3) := by decide +kernel
theorem d_w_ask_16 : decode prog_1_method_27_code 16 = .ok (.ifCond .ne 6, 3) := by decide +kernel
theorem d_w_ask_19 : decode prog_1_method_27_code 19 = .ok (.bipush (-2), 2) := by decide +kernel
theorem d_w_ask_21 : decode prog_1_method_27_code 21 = .ok (.ireturn, 1) := by decide +kernel
theorem d_w_ask_22 : decode prog_1_method_27_code 22 = .ok (.aload_n 0, 1) := by decide +kernel
theorem d_w_ask_23 : decode prog_1_method_27_code 23 = .ok (.getfield 45, 3) := by decide +kernel
theorem d_w_ask_26 : decode prog_1_method_27_code 26 = .ok (.getfield 139, 3) := by decide +kernel
theorem d_w_ask_29 : decode prog_1_method_27_code 29 = .ok (.bipush 10, 2) := by decide +kernel
theorem d_w_ask_31 : decode prog_1_method_27_code 31 = .ok (.if_icmp .lt 6, 3) := by decide +kernel
theorem d_w_ask_34 : decode prog_1_method_27_code 34 = .ok (.bipush (-4), 2) := by decide +kernel
theorem d_w_ask_36 : decode prog_1_method_27_code 36 = .ok (.ireturn, 1) := by decide +kernel
theorem d_w_ask_37 : decode prog_1_method_27_code 37 = .ok (.aload_n 0, 1) := by decide +kernel
theorem d_w_ask_38 : decode prog_1_method_27_code 38 = .ok (.getfield 45, 3) := by decide +kernel
theorem d_w_ask_4 : decode prog_1_method_27_code 4 = .ok (.ifCond .eq 15, 3) := by decide +kernel
theorem d_w_ask_41 : decode prog_1_method_27_code 41 = .ok (.getfield 269, 3) := by decide +kernel
theorem d_w_ask_44 : decode prog_1_method_27_code 44 = .ok (.aload_n 0, 1) := by decide +kernel
theorem d_w_ask_45 : decode prog_1_method_27_code 45 = .ok (.getfield 45, 3) := by decide +kernel
theorem d_w_ask_48 : decode prog_1_method_27_code 48 = .ok (.getfield 139, 3) := by decide +kernel
theorem d_w_ask_51 : decode prog_1_method_27_code 51 = .ok (.aaload, 1) := by decide +kernel
theorem d_w_ask_52 : decode prog_1_method_27_code 52 = .ok (.astore_n 3, 1) := by decide +kernel
theorem d_w_ask_53 : decode prog_1_method_27_code 53 = .ok (.aload_n 3, 1) := by decide +kernel
theorem d_w_ask_54 : decode prog_1_method_27_code 54 = .ok (.aload_n 0, 1) := by decide +kernel
theorem d_w_ask_55 : decode prog_1_method_27_code 55 = .ok (.getfield 45, 3) := by decide +kernel
theorem d_w_ask_58 : decode prog_1_method_27_code 58 = .ok (.getfield 127, 3) := by decide +kernel
theorem d_w_ask_61 : decode prog_1_method_27_code 61 = .ok (.iconst 0, 1) := by decide +kernel
theorem d_w_ask_62 : decode prog_1_method_27_code 62 = .ok (.iaload, 1) := by decide +kernel
theorem d_w_ask_63 : decode prog_1_method_27_code 63 = .ok (.putfield 273, 3) := by decide +kernel
theorem d_w_ask_66 : decode prog_1_method_27_code 66 = .ok (.aload_n 3, 1) := by decide +kernel
theorem d_w_ask_67 : decode prog_1_method_27_code 67 = .ok (.aload_n 0, 1) := by decide +kernel
theorem d_w_ask_68 : decode prog_1_method_27_code 68 = .ok (.getfield 45, 3) := by decide +kernel
theorem d_w_ask_7 : decode prog_1_method_27_code 7 = .ok (.iload_n 2, 1) := by decide +kernel
theorem d_w_ask_71 : decode prog_1_method_27_code 71 = .ok (.getfield 127, 3) := by decide +kernel
theorem d_w_ask_74 : decode prog_1_method_27_code 74 = .ok (.iconst 1, 1) := by decide +kernel
theorem d_w_ask_75 : decode prog_1_method_27_code 75 = .ok (.iaload, 1) := by decide +kernel
theorem d_w_ask_76 : decode prog_1_method_27_code 76 = .ok (.putfield 278, 3) := by decide +kernel
theorem d_w_ask_79 : decode prog_1_method_27_code 79 = .ok (.aload_n 3, 1) := by decide +kernel
theorem d_w_ask_8 : decode prog_1_method_27_code 8 = .ok (.aload_n 0, 1) := by decide +kernel
theorem d_w_ask_80 : decode prog_1_method_27_code 80 = .ok (.aload_n 0, 1) := by decide +kernel
theorem d_w_ask_81 : decode prog_1_method_27_code 81 = .ok (.getfield 45, 3) := by decide +kernel
theorem d_w_ask_84 : decode prog_1_method_27_code 84 = .ok (.getfield 127, 3) := by decide +kernel
theorem d_w_ask_87 : decode prog_1_method_27_code 87 = .ok (.iconst 2, 1) := by decide +kernel
theorem d_w_ask_88 : decode prog_1_method_27_code 88 = .ok (.iaload, 1) := by decide +kernel
theorem d_w_ask_89 : decode prog_1_method_27_code 89 = .ok (.putfield 281, 3) := by decide +kernel
theorem d_w_ask_9 : decode prog_1_method_27_code 9 = .ok (.iload_n 1, 1) := by decide +kernel
theorem d_w_ask_92 : decode prog_1_method_27_code 92 = .ok (.aload_n 3, 1) := by decide +kernel
theorem d_w_ask_93 : decode prog_1_method_27_code 93 = .ok (.iload_n 1, 1) := by decide +kernel
theorem d_w_ask_94 : decode prog_1_method_27_code 94 = .ok (.putfield 284, 3) := by decide +kernel
theorem d_w_ask_97 : decode prog_1_method_27_code 97 = .ok (.aload_n 3, 1) := by decide +kernel
theorem d_w_ask_98 : decode prog_1_method_27_code 98 = .ok (.iload_n 2, 1) := by decide +kernel
theorem d_w_ask_99 : decode prog_1_method_27_code 99 = .ok (.putfield 287, 3) := by decide +kernel
theorem d_w_back_0 : decode prog_1_method_80_code 0 = .ok (.aload_n 0, 1) := by decide +kernel
theorem d_w_back_1 : decode prog_1_method_80_code 1 = .ok (.getfield 411, 3) := by decide +kernel
theorem d_w_back_10 : decode prog_1_method_80_code 10 = .ok (.aload_n 0, 1) := by decide +kernel
theorem d_w_back_11 : decode prog_1_method_80_code 11 = .ok (.getfield 45, 3) := by decide +kernel
theorem d_w_back_14 : decode prog_1_method_80_code 14 = .ok (.aload_n 0, 1) := by decide +kernel
theorem d_w_back_15 : decode prog_1_method_80_code 15 = .ok (.getfield 49, 3) := by decide +kernel
theorem d_w_back_18 : decode prog_1_method_80_code 18 = .ok (.invokevirtual 408, 3) := by decide +kernel
theorem d_w_back_21 : decode prog_1_method_80_code 21 = .ok (.aload_n 0, 1) := by decide +kernel
theorem d_w_back_22 : decode prog_1_method_80_code 22 = .ok (.getfield 45, 3) := by decide +kernel
theorem d_w_back_25 : decode prog_1_method_80_code 25 = .ok (.getfield 139, 3) := by decide +kernel
theorem d_w_back_28 : decode prog_1_method_80_code 28 = .ok (.ireturn, 1) := by decide +kernel
theorem d_w_back_4 : decode prog_1_method_80_code 4 = .ok (.ifCond .ne 6, 3) := by decide +kernel
theorem d_w_back_7 : decode prog_1_method_80_code 7 = .ok (.bipush (-3), 2) := by decide +kernel
theorem d_w_back_9 : decode prog_1_method_80_code 9 = .ok (.ireturn, 1) := by decide +kernel
theorem d_w_bitsBelow_0 : decode prog_1_method_94_code 0 = .ok (.iconst 1, 1) := by decide +kernel
theorem d_w_bitsBelow_1 : decode prog_1_method_94_code 1 = .ok (.iload_n 0, 1) := by decide +kernel
theorem d_w_bitsBelow_2 : decode prog_1_method_94_code 2 = .ok (.ishl, 1) := by decide +kernel
theorem d_w_bitsBelow_3 : decode prog_1_method_94_code 3 = .ok (.iconst 1, 1) := by decide +kernel
theorem d_w_bitsBelow_4 : decode prog_1_method_94_code 4 = .ok (.isub, 1) := by decide +kernel
theorem d_w_bitsBelow_5 : decode prog_1_method_94_code 5 = .ok (.ireturn, 1) := by decide +kernel
theorem d_w_bound_0 : decode prog_1_method_38_code 0 = .ok (.aload_n 0, 1) := by decide +kernel
theorem d_w_bound_1 : decode prog_1_method_38_code 1 = .ok (.invokevirtual 297, 3) := by decide +kernel
theorem d_w_bound_10 : decode prog_1_method_38_code 10 = .ok (.iload_n 2, 1) := by decide +kernel
theorem d_w_bound_11 : decode prog_1_method_38_code 11 = .ok (.bipush 12, 2) := by decide +kernel
theorem d_w_bound_13 : decode prog_1_method_38_code 13 = .ok (.if_icmp .ge 16, 3) := by decide +kernel
theorem d_w_bound_16 : decode prog_1_method_38_code 16 = .ok (.iconst 1, 1) := by decide +kernel
theorem d_w_bound_17 : decode prog_1_method_38_code 17 = .ok (.iload_n 2, 1) := by decide +kernel
theorem d_w_bound_18 : decode prog_1_method_38_code 18 = .ok (.ishl, 1) := by decide +kernel
theorem d_w_bound_19 : decode prog_1_method_38_code 19 = .ok (.iload_n 1, 1) := by decide +kernel
theorem d_w_bound_20 : decode prog_1_method_38_code 20 = .ok (.if_icmp .ge 9, 3) := by decide +kernel
theorem d_w_bound_23 : decode prog_1_method_38_code 23 = .ok (.iinc 2 1, 3) := by decide +kernel
theorem d_w_bound_26 : decode prog_1_method_38_code 26 = .ok (.goto (-16), 3) := by decide +kernel
theorem d_w_bound_29 : decode prog_1_method_38_code 29 = .ok (.iload_n 2, 1) := by decide +kernel
theorem d_w_bound_30 : decode prog_1_method_38_code 30 = .ok (.ireturn, 1) := by decide +kernel
theorem d_w_bound_4 : decode prog_1_method_38_code 4 = .ok (.invokestatic 316, 3) := by decide +kernel
theorem d_w_bound_7 : decode prog_1_method_38_code 7 = .ok (.istore_n 1, 1) := by decide +kernel
theorem d_w_bound_8 : decode prog_1_method_38_code 8 = .ok (.iconst 0, 1) := by decide +kernel
theorem d_w_bound_9 : decode prog_1_method_38_code 9 = .ok (.istore_n 2, 1) := by decide +kernel
theorem d_w_bright_0 : decode prog_1_method_18_code 0 = .ok (.aload_n 0, 1) := by decide +kernel
theorem d_w_bright_1 : decode prog_1_method_18_code 1 = .ok (.iload_n 1, 1) := by decide +kernel
theorem d_w_bright_10 : decode prog_1_method_18_code 10 = .ok (.invokevirtual 162, 3) := by decide +kernel
theorem d_w_bright_13 : decode prog_1_method_18_code 13 = .ok (.ifCond .ne 6, 3) := by decide +kernel
theorem d_w_bright_16 : decode prog_1_method_18_code 16 = .ok (.bipush (-5), 2) := by decide +kernel
theorem d_w_bright_18 : decode prog_1_method_18_code 18 = .ok (.ireturn, 1) := by decide +kernel
theorem d_w_bright_19 : decode prog_1_method_18_code 19 = .ok (.aload_n 0, 1) := by decide +kernel
theorem d_w_bright_2 : decode prog_1_method_18_code 2 = .ok (.invokevirtual 217, 3) := by decide +kernel
theorem d_w_bright_20 : decode prog_1_method_18_code 20 = .ok (.iload_n 2, 1) := by decide +kernel
theorem d_w_bright_21 : decode prog_1_method_18_code 21 = .ok (.aload_n 0, 1) := by decide +kernel
theorem d_w_bright_22 : decode prog_1_method_18_code 22 = .ok (.iload_n 1, 1) := by decide +kernel
theorem d_w_bright_23 : decode prog_1_method_18_code 23 = .ok (.invokevirtual 223, 3) := by decide +kernel
theorem d_w_bright_26 : decode prog_1_method_18_code 26 = .ok (.invokevirtual 226, 3) := by decide +kernel
theorem d_w_bright_29 : decode prog_1_method_18_code 29 = .ok (.ireturn, 1) := by decide +kernel
theorem d_w_bright_5 : decode prog_1_method_18_code 5 = .ok (.ifCond .eq 11, 3) := by decide +kernel
theorem d_w_bright_8 : decode prog_1_method_18_code 8 = .ok (.aload_n 0, 1) := by decide +kernel
theorem d_w_bright_9 : decode prog_1_method_18_code 9 = .ok (.iload_n 2, 1) := by decide +kernel
theorem d_w_brightness_0 : decode prog_1_method_26_code 0 = .ok (.iload_n 2, 1) := by decide +kernel
theorem d_w_brightness_1 : decode prog_1_method_26_code 1 = .ok (.iload_n 1, 1) := by decide +kernel
theorem d_w_brightness_10 : decode prog_1_method_26_code 10 = .ok (.iconst 1, 1) := by decide +kernel
theorem d_w_brightness_11 : decode prog_1_method_26_code 11 = .ok (.aload_n 0, 1) := by decide +kernel
theorem d_w_brightness_12 : decode prog_1_method_26_code 12 = .ok (.iload_n 1, 1) := by decide +kernel
theorem d_w_brightness_13 : decode prog_1_method_26_code 13 = .ok (.iload_n 2, 1) := by decide +kernel
theorem d_w_brightness_14 : decode prog_1_method_26_code 14 = .ok (.invokevirtual 253, 3) := by decide +kernel
theorem d_w_brightness_17 : decode prog_1_method_26_code 17 = .ok (.invokestatic 248, 3) := by decide +kernel
theorem d_w_brightness_2 : decode prog_1_method_26_code 2 = .ok (.invokestatic 242, 3) := by decide +kernel
theorem d_w_brightness_20 : decode prog_1_method_26_code 20 = .ok (.istore_n 3, 1) := by decide +kernel
theorem d_w_brightness_21 : decode prog_1_method_26_code 21 = .ok (.aload_n 0, 1) := by decide +kernel
theorem d_w_brightness_22 : decode prog_1_method_26_code 22 = .ok (.iconst 0, 1) := by decide +kernel
theorem d_w_brightness_23 : decode prog_1_method_26_code 23 = .ok (.iload_n 1, 1) := by decide +kernel
theorem d_w_brightness_24 : decode prog_1_method_26_code 24 = .ok (.iload_n 3, 1) := by decide +kernel
theorem d_w_brightness_25 : decode prog_1_method_26_code 25 = .ok (.invokevirtual 256, 3) := by decide +kernel
theorem d_w_brightness_28 : decode prog_1_method_26_code 28 = .ok (.iload_n 3, 1) := by decide +kernel
theorem d_w_brightness_29 : decode prog_1_method_26_code 29 = .ok (.idiv, 1) := by decide +kernel
theorem d_w_brightness_30 : decode prog_1_method_26_code 30 = .ok (.ireturn, 1) := by decide +kernel
theorem d_w_brightness_5 : decode prog_1_method_26_code 5 = .ok (.ifCond .ne 5, 3) := by decide +kernel
theorem d_w_brightness_8 : decode prog_1_method_26_code 8 = .ok (.iconst 0, 1) := by decide +kernel
theorem d_w_brightness_9 : decode prog_1_method_26_code 9 = .ok (.ireturn, 1) := by decide +kernel
theorem d_w_broken_0 : decode prog_1_method_71_code 0 = .ok (.aload_n 0, 1) := by decide +kernel
theorem d_w_broken_1 : decode prog_1_method_71_code 1 = .ok (.iload_n 1, 1) := by decide +kernel
theorem d_w_broken_10 : decode prog_1_method_71_code 10 = .ok (.ireturn, 1) := by decide +kernel
theorem d_w_broken_100 : decode prog_1_method_71_code 100 = .ok (.iconst 1, 1) := by decide +kernel
theorem d_w_broken_101 : decode prog_1_method_71_code 101 = .ok (.iload 8, 2) := by decide +kernel
theorem d_w_broken_103 : decode prog_1_method_71_code 103 = .ok (.ishl, 1) := by decide +kernel
theorem d_w_broken_104 : decode prog_1_method_71_code 104 = .ok (.iconst (-1), 1) := by decide +kernel
theorem d_w_broken_105 : decode prog_1_method_71_code 105 = .ok (.ixor, 1) := by decide +kernel
theorem d_w_broken_106 : decode prog_1_method_71_code 106 = .ok (.iand, 1) := by decide +kernel
theorem d_w_broken_107 : decode prog_1_method_71_code 107 = .ok (.iload 4, 2) := by decide +kernel
theorem d_w_broken_109 : decode prog_1_method_71_code 109 = .ok (.iand, 1) := by decide +kernel
theorem d_w_broken_11 : decode prog_1_method_71_code 11 = .ok (.iload_n 2, 1) := by decide +kernel
theorem d_w_broken_110 : decode prog_1_method_71_code 110 = .ok (.iload_n 3, 1) := by decide +kernel
theorem d_w_broken_111 : decode prog_1_method_71_code 111 = .ok (.if_icmp .ne 12, 3) := by decide +kernel
theorem d_w_broken_114 : decode prog_1_method_71_code 114 = .ok (.iload 7, 2) := by decide +kernel
theorem d_w_broken_116 : decode prog_1_method_71_code 116 = .ok (.iconst 1, 1) := by decide +kernel
theorem d_w_broken_117 : decode prog_1_method_71_code 117 = .ok (.iload 8, 2) := by decide +kernel
theorem d_w_broken_119 : decode prog_1_method_71_code 119 = .ok (.ishl, 1) := by decide +kernel
theorem d_w_broken_12 : decode prog_1_method_71_code 12 = .ok (.invokestatic 260, 3) := by decide +kernel
theorem d_w_broken_120 : decode prog_1_method_71_code 120 = .ok (.ior, 1) := by decide +kernel
theorem d_w_broken_121 : decode prog_1_method_71_code 121 = .ok (.istore 7, 2) := by decide +kernel
theorem d_w_broken_123 : decode prog_1_method_71_code 123 = .ok (.iinc 8 1, 3) := by decide +kernel
theorem d_w_broken_126 : decode prog_1_method_71_code 126 = .ok (.goto (-37), 3) := by decide +kernel
theorem d_w_broken_129 : decode prog_1_method_71_code 129 = .ok (.iconst 0, 1) := by decide +kernel
theorem d_w_broken_130 : decode prog_1_method_71_code 130 = .ok (.istore 8, 2) := by decide +kernel
theorem d_w_broken_132 : decode prog_1_method_71_code 132 = .ok (.iload 8, 2) := by decide +kernel
theorem d_w_broken_134 : decode prog_1_method_71_code 134 = .ok (.aload_n 0, 1) := by decide +kernel
theorem d_w_broken_135 : decode prog_1_method_71_code 135 = .ok (.getfield 114, 3) := by decide +kernel
theorem d_w_broken_138 : decode prog_1_method_71_code 138 = .ok (.if_icmp .ge 50, 3) := by decide +kernel
theorem d_w_broken_141 : decode prog_1_method_71_code 141 = .ok (.iload 5, 2) := by decide +kernel
theorem d_w_broken_143 : decode prog_1_method_71_code 143 = .ok (.aload_n 0, 1) := by decide +kernel
theorem d_w_broken_144 : decode prog_1_method_71_code 144 = .ok (.iload_n 1, 1) := by decide +kernel
theorem d_w_broken_145 : decode prog_1_method_71_code 145 = .ok (.aload_n 0, 1) := by decide +kernel
theorem d_w_broken_146 : decode prog_1_method_71_code 146 = .ok (.getfield 45, 3) := by decide +kernel
theorem d_w_broken_149 : decode prog_1_method_71_code 149 = .ok (.getfield 127, 3) := by decide +kernel
theorem d_w_broken_15 : decode prog_1_method_71_code 15 = .ok (.ifCond .eq 15, 3) := by decide +kernel
theorem d_w_broken_152 : decode prog_1_method_71_code 152 = .ok (.iconst 0, 1) := by decide +kernel
theorem d_w_broken_153 : decode prog_1_method_71_code 153 = .ok (.iaload, 1) := by decide +kernel
theorem d_w_broken_154 : decode prog_1_method_71_code 154 = .ok (.iconst 1, 1) := by decide +kernel
theorem d_w_broken_155 : decode prog_1_method_71_code 155 = .ok (.iload 8, 2) := by decide +kernel
theorem d_w_broken_157 : decode prog_1_method_71_code 157 = .ok (.ishl, 1) := by decide +kernel
theorem d_w_broken_158 : decode prog_1_method_71_code 158 = .ok (.ior, 1) := by decide +kernel
theorem d_w_broken_159 : decode prog_1_method_71_code 159 = .ok (.invokevirtual 233, 3) := by decide +kernel
theorem d_w_broken_162 : decode prog_1_method_71_code 162 = .ok (.iand, 1) := by decide +kernel
theorem d_w_broken_163 : decode prog_1_method_71_code 163 = .ok (.iload 4, 2) := by decide +kernel
theorem d_w_broken_165 : decode prog_1_method_71_code 165 = .ok (.iand, 1) := by decide +kernel
theorem d_w_broken_166 : decode prog_1_method_71_code 166 = .ok (.iload_n 3, 1) := by decide +kernel
theorem d_w_broken_167 : decode prog_1_method_71_code 167 = .ok (.if_icmp .ne 15, 3) := by decide +kernel
theorem d_w_broken_170 : decode prog_1_method_71_code 170 = .ok (.iload 7, 2) := by decide +kernel
theorem d_w_broken_172 : decode prog_1_method_71_code 172 = .ok (.iconst 1, 1) := by decide +kernel
theorem d_w_broken_173 : decode prog_1_method_71_code 173 = .ok (.bipush 16, 2) := by decide +kernel
theorem d_w_broken_175 : decode prog_1_method_71_code 175 = .ok (.iload 8, 2) := by decide +kernel
theorem d_w_broken_177 : decode prog_1_method_71_code 177 = .ok (.iadd, 1) := by decide +kernel
theorem d_w_broken_178 : decode prog_1_method_71_code 178 = .ok (.ishl, 1) := by decide +kernel
theorem d_w_broken_179 : decode prog_1_method_71_code 179 = .ok (.ior, 1) := by decide +kernel
theorem d_w_broken_18 : decode prog_1_method_71_code 18 = .ok (.iload_n 3, 1) := by decide +kernel
theorem d_w_broken_180 : decode prog_1_method_71_code 180 = .ok (.istore 7, 2) := by decide +kernel
theorem d_w_broken_182 : decode prog_1_method_71_code 182 = .ok (.iinc 8 1, 3) := by decide +kernel
theorem d_w_broken_185 : decode prog_1_method_71_code 185 = .ok (.goto (-53), 3) := by decide +kernel
theorem d_w_broken_188 : decode prog_1_method_71_code 188 = .ok (.iload 7, 2) := by decide +kernel
theorem d_w_broken_19 : decode prog_1_method_71_code 19 = .ok (.aload_n 0, 1) := by decide +kernel
theorem d_w_broken_190 : decode prog_1_method_71_code 190 = .ok (.ireturn, 1) := by decide +kernel
theorem d_w_broken_2 : decode prog_1_method_71_code 2 = .ok (.invokevirtual 217, 3) := by decide +kernel
theorem d_w_broken_20 : decode prog_1_method_71_code 20 = .ok (.iload_n 2, 1) := by decide +kernel
theorem d_w_broken_21 : decode prog_1_method_71_code 21 = .ok (.invokevirtual 263, 3) := by decide +kernel
theorem d_w_broken_24 : decode prog_1_method_71_code 24 = .ok (.invokestatic 266, 3) := by decide +kernel
theorem d_w_broken_27 : decode prog_1_method_71_code 27 = .ok (.ifCond .ne 6, 3) := by decide +kernel
theorem d_w_broken_30 : decode prog_1_method_71_code 30 = .ok (.bipush (-7), 2) := by decide +kernel
theorem d_w_broken_32 : decode prog_1_method_71_code 32 = .ok (.ireturn, 1) := by decide +kernel
theorem d_w_broken_33 : decode prog_1_method_71_code 33 = .ok (.aload_n 0, 1) := by decide +kernel
theorem d_w_broken_34 : decode prog_1_method_71_code 34 = .ok (.iload_n 2, 1) := by decide +kernel
theorem d_w_broken_35 : decode prog_1_method_71_code 35 = .ok (.invokevirtual 263, 3) := by decide +kernel
theorem d_w_broken_38 : decode prog_1_method_71_code 38 = .ok (.istore 4, 2) := by decide +kernel
theorem d_w_broken_40 : decode prog_1_method_71_code 40 = .ok (.aload_n 0, 1) := by decide +kernel
theorem d_w_broken_41 : decode prog_1_method_71_code 41 = .ok (.aload_n 0, 1) := by decide +kernel
theorem d_w_broken_42 : decode prog_1_method_71_code 42 = .ok (.getfield 45, 3) := by decide +kernel
theorem d_w_broken_45 : decode prog_1_method_71_code 45 = .ok (.getfield 127, 3) := by decide +kernel
theorem d_w_broken_48 : decode prog_1_method_71_code 48 = .ok (.iconst 1, 1) := by decide +kernel
theorem d_w_broken_49 : decode prog_1_method_71_code 49 = .ok (.iaload, 1) := by decide +kernel
theorem d_w_broken_5 : decode prog_1_method_71_code 5 = .ok (.ifCond .ne 6, 3) := by decide +kernel
theorem d_w_broken_50 : decode prog_1_method_71_code 50 = .ok (.aload_n 0, 1) := by decide +kernel
theorem d_w_broken_51 : decode prog_1_method_71_code 51 = .ok (.getfield 45, 3) := by decide +kernel
theorem d_w_broken_54 : decode prog_1_method_71_code 54 = .ok (.getfield 127, 3) := by decide +kernel
theorem d_w_broken_57 : decode prog_1_method_71_code 57 = .ok (.iconst 2, 1) := by decide +kernel
theorem d_w_broken_58 : decode prog_1_method_71_code 58 = .ok (.iaload, 1) := by decide +kernel
theorem d_w_broken_59 : decode prog_1_method_71_code 59 = .ok (.invokevirtual 236, 3) := by decide +kernel
theorem d_w_broken_62 : decode prog_1_method_71_code 62 = .ok (.istore 5, 2) := by decide +kernel
theorem d_w_broken_64 : decode prog_1_method_71_code 64 = .ok (.iload 5, 2) := by decide +kernel
theorem d_w_broken_66 : decode prog_1_method_71_code 66 = .ok (.aload_n 0, 1) := by decide +kernel
theorem d_w_broken_67 : decode prog_1_method_71_code 67 = .ok (.iload_n 1, 1) := by decide +kernel
theorem d_w_broken_68 : decode prog_1_method_71_code 68 = .ok (.aload_n 0, 1) := by decide +kernel
theorem d_w_broken_69 : decode prog_1_method_71_code 69 = .ok (.getfield 45, 3) := by decide +kernel
theorem d_w_broken_72 : decode prog_1_method_71_code 72 = .ok (.getfield 127, 3) := by decide +kernel
theorem d_w_broken_75 : decode prog_1_method_71_code 75 = .ok (.iconst 0, 1) := by decide +kernel
theorem d_w_broken_76 : decode prog_1_method_71_code 76 = .ok (.iaload, 1) := by decide +kernel
theorem d_w_broken_77 : decode prog_1_method_71_code 77 = .ok (.invokevirtual 233, 3) := by decide +kernel
theorem d_w_broken_8 : decode prog_1_method_71_code 8 = .ok (.bipush (-5), 2) := by decide +kernel
theorem d_w_broken_80 : decode prog_1_method_71_code 80 = .ok (.iand, 1) := by decide +kernel
theorem d_w_broken_81 : decode prog_1_method_71_code 81 = .ok (.istore 6, 2) := by decide +kernel
theorem d_w_broken_83 : decode prog_1_method_71_code 83 = .ok (.iconst 0, 1) := by decide +kernel
theorem d_w_broken_84 : decode prog_1_method_71_code 84 = .ok (.istore 7, 2) := by decide +kernel
theorem d_w_broken_86 : decode prog_1_method_71_code 86 = .ok (.iconst 0, 1) := by decide +kernel
theorem d_w_broken_87 : decode prog_1_method_71_code 87 = .ok (.istore 8, 2) := by decide +kernel
theorem d_w_broken_89 : decode prog_1_method_71_code 89 = .ok (.iload 8, 2) := by decide +kernel
theorem d_w_broken_91 : decode prog_1_method_71_code 91 = .ok (.aload_n 0, 1) := by decide +kernel
theorem d_w_broken_92 : decode prog_1_method_71_code 92 = .ok (.getfield 133, 3) := by decide +kernel
theorem d_w_broken_95 : decode prog_1_method_71_code 95 = .ok (.if_icmp .ge 34, 3) := by decide +kernel
theorem d_w_broken_98 : decode prog_1_method_71_code 98 = .ok (.iload 6, 2) := by decide +kernel
theorem d_w_cell_0 : decode prog_1_method_88_code 0 = .ok (.iload_n 1, 1) := by decide +kernel
theorem d_w_cell_1 : decode prog_1_method_88_code 1 = .ok (.invokestatic 205, 3) := by decide +kernel
theorem d_w_cell_10 : decode prog_1_method_88_code 10 = .ok (.aload_n 0, 1) := by decide +kernel
theorem d_w_cell_11 : decode prog_1_method_88_code 11 = .ok (.getfield 38, 3) := by decide +kernel
theorem d_w_cell_14 : decode prog_1_method_88_code 14 = .ok (.iload_n 1, 1) := by decide +kernel
theorem d_w_cell_15 : decode prog_1_method_88_code 15 = .ok (.aaload, 1) := by decide +kernel
theorem d_w_cell_16 : decode prog_1_method_88_code 16 = .ok (.invokevirtual 208, 3) := by decide +kernel
theorem d_w_cell_19 : decode prog_1_method_88_code 19 = .ok (.ifCond .eq 6, 3) := by decide +kernel
theorem d_w_cell_22 : decode prog_1_method_88_code 22 = .ok (.bipush (-11), 2) := by decide +kernel
theorem d_w_cell_24 : decode prog_1_method_88_code 24 = .ok (.ireturn, 1) := by decide +kernel
theorem d_w_cell_25 : decode prog_1_method_88_code 25 = .ok (.iload_n 2, 1) := by decide +kernel
theorem d_w_cell_26 : decode prog_1_method_88_code 26 = .ok (.iconst 0, 1) := by decide +kernel
theorem d_w_cell_27 : decode prog_1_method_88_code 27 = .ok (.aload_n 0, 1) := by decide +kernel
theorem d_w_cell_28 : decode prog_1_method_88_code 28 = .ok (.getfield 38, 3) := by decide +kernel
theorem d_w_cell_31 : decode prog_1_method_88_code 31 = .ok (.iload_n 1, 1) := by decide +kernel
theorem d_w_cell_32 : decode prog_1_method_88_code 32 = .ok (.aaload, 1) := by decide +kernel
theorem d_w_cell_33 : decode prog_1_method_88_code 33 = .ok (.getfield 212, 3) := by decide +kernel
theorem d_w_cell_36 : decode prog_1_method_88_code 36 = .ok (.iconst 1, 1) := by decide +kernel
theorem d_w_cell_37 : decode prog_1_method_88_code 37 = .ok (.isub, 1) := by decide +kernel
theorem d_w_cell_38 : decode prog_1_method_88_code 38 = .ok (.invokestatic 110, 3) := by decide +kernel
theorem d_w_cell_4 : decode prog_1_method_88_code 4 = .ok (.ifCond .ne 6, 3) := by decide +kernel
theorem d_w_cell_41 : decode prog_1_method_88_code 41 = .ok (.ifCond .ne 6, 3) := by decide +kernel
theorem d_w_cell_44 : decode prog_1_method_88_code 44 = .ok (.bipush (-12), 2) := by decide +kernel
theorem d_w_cell_46 : decode prog_1_method_88_code 46 = .ok (.ireturn, 1) := by decide +kernel
theorem d_w_cell_47 : decode prog_1_method_88_code 47 = .ok (.aload_n 0, 1) := by decide +kernel
theorem d_w_cell_48 : decode prog_1_method_88_code 48 = .ok (.getfield 38, 3) := by decide +kernel
theorem d_w_cell_51 : decode prog_1_method_88_code 51 = .ok (.iload_n 1, 1) := by decide +kernel
theorem d_w_cell_52 : decode prog_1_method_88_code 52 = .ok (.aaload, 1) := by decide +kernel
theorem d_w_cell_53 : decode prog_1_method_88_code 53 = .ok (.iload_n 2, 1) := by decide +kernel
theorem d_w_cell_54 : decode prog_1_method_88_code 54 = .ok (.iload_n 3, 1) := by decide +kernel
theorem d_w_cell_55 : decode prog_1_method_88_code 55 = .ok (.invokevirtual 424, 3) := by decide +kernel
theorem d_w_cell_58 : decode prog_1_method_88_code 58 = .ok (.iconst 1, 1) := by decide +kernel
theorem d_w_cell_59 : decode prog_1_method_88_code 59 = .ok (.ireturn, 1) := by decide +kernel
theorem d_w_cell_7 : decode prog_1_method_88_code 7 = .ok (.bipush (-2), 2) := by decide +kernel
theorem d_w_cell_9 : decode prog_1_method_88_code 9 = .ok (.ireturn, 1) := by decide +kernel
theorem d_w_commonDivisor_0 : decode prog_1_method_68_code 0 = .ok (.iload_n 0, 1) := by decide +kernel
theorem d_w_commonDivisor_1 : decode prog_1_method_68_code 1 = .ok (.istore_n 2, 1) := by decide +kernel
theorem d_w_commonDivisor_11 : decode prog_1_method_68_code 11 = .ok (.if_icmp .ge 23, 3) := by decide +kernel
theorem d_w_commonDivisor_14 : decode prog_1_method_68_code 14 = .ok (.iload_n 3, 1) := by decide +kernel
theorem d_w_commonDivisor_15 : decode prog_1_method_68_code 15 = .ok (.ifCond .eq 19, 3) := by decide +kernel
theorem d_w_commonDivisor_18 : decode prog_1_method_68_code 18 = .ok (.iload_n 2, 1) := by decide +kernel
theorem d_w_commonDivisor_19 : decode prog_1_method_68_code 19 = .ok (.iload_n 3, 1) := by decide +kernel
theorem d_w_commonDivisor_2 : decode prog_1_method_68_code 2 = .ok (.iload_n 1, 1) := by decide +kernel
theorem d_w_commonDivisor_20 : decode prog_1_method_68_code 20 = .ok (.irem, 1) := by decide +kernel
theorem d_w_commonDivisor_21 : decode prog_1_method_68_code 21 = .ok (.istore 5, 2) := by decide +kernel
theorem d_w_commonDivisor_23 : decode prog_1_method_68_code 23 = .ok (.iload_n 3, 1) := by decide +kernel
theorem d_w_commonDivisor_24 : decode prog_1_method_68_code 24 = .ok (.istore_n 2, 1) := by decide +kernel
theorem d_w_commonDivisor_25 : decode prog_1_method_68_code 25 = .ok (.iload 5, 2) := by decide +kernel
theorem d_w_commonDivisor_27 : decode prog_1_method_68_code 27 = .ok (.istore_n 3, 1) := by decide +kernel
theorem d_w_commonDivisor_28 : decode prog_1_method_68_code 28 = .ok (.iinc 4 1, 3) := by decide +kernel
theorem d_w_commonDivisor_3 : decode prog_1_method_68_code 3 = .ok (.istore_n 3, 1) := by decide +kernel
theorem d_w_commonDivisor_31 : decode prog_1_method_68_code 31 = .ok (.goto (-24), 3) := by decide +kernel
theorem d_w_commonDivisor_34 : decode prog_1_method_68_code 34 = .ok (.iload_n 2, 1) := by decide +kernel
theorem d_w_commonDivisor_35 : decode prog_1_method_68_code 35 = .ok (.ireturn, 1) := by decide +kernel
theorem d_w_commonDivisor_4 : decode prog_1_method_68_code 4 = .ok (.iconst 0, 1) := by decide +kernel
theorem d_w_commonDivisor_5 : decode prog_1_method_68_code 5 = .ok (.istore 4, 2) := by decide +kernel
theorem d_w_commonDivisor_7 : decode prog_1_method_68_code 7 = .ok (.iload 4, 2) := by decide +kernel
theorem d_w_commonDivisor_9 : decode prog_1_method_68_code 9 = .ok (.bipush 100, 2) := by decide +kernel
theorem d_w_copy_0 : decode prog_1_method_89_code 0 = .ok (.iload_n 1, 1) := by decide +kernel
theorem d_w_copy_1 : decode prog_1_method_89_code 1 = .ok (.invokestatic 205, 3) := by decide +kernel
theorem d_w_copy_100 : decode prog_1_method_89_code 100 = .ok (.aload 7, 2) := by decide +kernel
theorem d_w_copy_102 : decode prog_1_method_89_code 102 = .ok (.getfield 378, 3) := by decide +kernel
theorem d_w_copy_105 : decode prog_1_method_89_code 105 = .ok (.iload 4, 2) := by decide +kernel
theorem d_w_copy_107 : decode prog_1_method_89_code 107 = .ok (.iload 5, 2) := by decide +kernel
theorem d_w_copy_109 : decode prog_1_method_89_code 109 = .ok (.invokestatic 433, 3) := by decide +kernel
theorem d_w_copy_11 : decode prog_1_method_89_code 11 = .ok (.ifCond .ne 6, 3) := by decide +kernel
theorem d_w_copy_112 : decode prog_1_method_89_code 112 = .ok (.iload 5, 2) := by decide +kernel
theorem d_w_copy_114 : decode prog_1_method_89_code 114 = .ok (.ireturn, 1) := by decide +kernel
theorem d_w_copy_14 : decode prog_1_method_89_code 14 = .ok (.bipush (-2), 2) := by decide +kernel
theorem d_w_copy_16 : decode prog_1_method_89_code 16 = .ok (.ireturn, 1) := by decide +kernel
theorem d_w_copy_17 : decode prog_1_method_89_code 17 = .ok (.aload_n 0, 1) := by decide +kernel
theorem d_w_copy_18 : decode prog_1_method_89_code 18 = .ok (.getfield 38, 3) := by decide +kernel
theorem d_w_copy_21 : decode prog_1_method_89_code 21 = .ok (.iload_n 1, 1) := by decide +kernel
theorem d_w_copy_22 : decode prog_1_method_89_code 22 = .ok (.aaload, 1) := by decide +kernel
theorem d_w_copy_23 : decode prog_1_method_89_code 23 = .ok (.astore 6, 2) := by decide +kernel
theorem d_w_copy_25 : decode prog_1_method_89_code 25 = .ok (.aload_n 0, 1) := by decide +kernel
theorem d_w_copy_26 : decode prog_1_method_89_code 26 = .ok (.getfield 38, 3) := by decide +kernel
theorem d_w_copy_29 : decode prog_1_method_89_code 29 = .ok (.iload_n 3, 1) := by decide +kernel
theorem d_w_copy_30 : decode prog_1_method_89_code 30 = .ok (.aaload, 1) := by decide +kernel
theorem d_w_copy_31 : decode prog_1_method_89_code 31 = .ok (.astore 7, 2) := by decide +kernel
theorem d_w_copy_33 : decode prog_1_method_89_code 33 = .ok (.aload 6, 2) := by decide +kernel
theorem d_w_copy_35 : decode prog_1_method_89_code 35 = .ok (.invokevirtual 208, 3) := by decide +kernel
theorem d_w_copy_38 : decode prog_1_method_89_code 38 = .ok (.ifCond .ne 11, 3) := by decide +kernel
theorem d_w_copy_4 : decode prog_1_method_89_code 4 = .ok (.ifCond .eq 10, 3) := by decide +kernel
theorem d_w_copy_41 : decode prog_1_method_89_code 41 = .ok (.aload 7, 2) := by decide +kernel
theorem d_w_copy_43 : decode prog_1_method_89_code 43 = .ok (.invokevirtual 208, 3) := by decide +kernel
theorem d_w_copy_46 : decode prog_1_method_89_code 46 = .ok (.ifCond .eq 6, 3) := by decide +kernel
theorem d_w_copy_49 : decode prog_1_method_89_code 49 = .ok (.bipush (-11), 2) := by decide +kernel
theorem d_w_copy_51 : decode prog_1_method_89_code 51 = .ok (.ireturn, 1) := by decide +kernel
theorem d_w_copy_52 : decode prog_1_method_89_code 52 = .ok (.aload 6, 2) := by decide +kernel
theorem d_w_copy_54 : decode prog_1_method_89_code 54 = .ok (.getfield 427, 3) := by decide +kernel
theorem d_w_copy_57 : decode prog_1_method_89_code 57 = .ok (.aload 7, 2) := by decide +kernel
theorem d_w_copy_59 : decode prog_1_method_89_code 59 = .ok (.getfield 427, 3) := by decide +kernel
theorem d_w_copy_62 : decode prog_1_method_89_code 62 = .ok (.if_icmp .eq 6, 3) := by decide +kernel
theorem d_w_copy_65 : decode prog_1_method_89_code 65 = .ok (.bipush (-13), 2) := by decide +kernel
theorem d_w_copy_67 : decode prog_1_method_89_code 67 = .ok (.ireturn, 1) := by decide +kernel
theorem d_w_copy_68 : decode prog_1_method_89_code 68 = .ok (.aload 6, 2) := by decide +kernel
theorem d_w_copy_7 : decode prog_1_method_89_code 7 = .ok (.iload_n 3, 1) := by decide +kernel
theorem d_w_copy_70 : decode prog_1_method_89_code 70 = .ok (.iload_n 2, 1) := by decide +kernel
theorem d_w_copy_71 : decode prog_1_method_89_code 71 = .ok (.iload 5, 2) := by decide +kernel
theorem d_w_copy_73 : decode prog_1_method_89_code 73 = .ok (.invokevirtual 430, 3) := by decide +kernel
theorem d_w_copy_76 : decode prog_1_method_89_code 76 = .ok (.ifCond .eq 15, 3) := by decide +kernel
theorem d_w_copy_79 : decode prog_1_method_89_code 79 = .ok (.aload 7, 2) := by decide +kernel
theorem d_w_copy_8 : decode prog_1_method_89_code 8 = .ok (.invokestatic 205, 3) := by decide +kernel
theorem d_w_copy_81 : decode prog_1_method_89_code 81 = .ok (.iload 4, 2) := by decide +kernel
theorem d_w_copy_83 : decode prog_1_method_89_code 83 = .ok (.iload 5, 2) := by decide +kernel
theorem d_w_copy_85 : decode prog_1_method_89_code 85 = .ok (.invokevirtual 430, 3) := by decide +kernel
theorem d_w_copy_88 : decode prog_1_method_89_code 88 = .ok (.ifCond .ne 6, 3) := by decide +kernel
theorem d_w_copy_91 : decode prog_1_method_89_code 91 = .ok (.bipush (-12), 2) := by decide +kernel
theorem d_w_copy_93 : decode prog_1_method_89_code 93 = .ok (.ireturn, 1) := by decide +kernel
theorem d_w_copy_94 : decode prog_1_method_89_code 94 = .ok (.aload 6, 2) := by decide +kernel
theorem d_w_copy_96 : decode prog_1_method_89_code 96 = .ok (.getfield 378, 3) := by decide +kernel
theorem d_w_copy_99 : decode prog_1_method_89_code 99 = .ok (.iload_n 2, 1) := by decide +kernel
theorem d_w_count_0 : decode prog_1_method_5_code 0 = .ok (.iload_n 1, 1) := by decide +kernel
theorem d_w_count_1 : decode prog_1_method_5_code 1 = .ok (.iconst 0, 1) := by decide +kernel
theorem d_w_count_10 : decode prog_1_method_5_code 10 = .ok (.getfield 45, 3) := by decide +kernel
theorem d_w_count_100 : decode prog_1_method_5_code 100 = .ok (.ireturn, 1) := by decide +kernel
theorem d_w_count_101 : decode prog_1_method_5_code 101 = .ok (.aload_n 0, 1) := by decide +kernel
theorem d_w_count_102 : decode prog_1_method_5_code 102 = .ok (.getfield 45, 3) := by decide +kernel
theorem d_w_count_105 : decode prog_1_method_5_code 105 = .ok (.getfield 145, 3) := by decide +kernel
theorem d_w_count_108 : decode prog_1_method_5_code 108 = .ok (.ireturn, 1) := by decide +kernel
theorem d_w_count_109 : decode prog_1_method_5_code 109 = .ok (.aload_n 0, 1) := by decide +kernel
theorem d_w_count_110 : decode prog_1_method_5_code 110 = .ok (.getfield 55, 3) := by decide +kernel
theorem d_w_count_113 : decode prog_1_method_5_code 113 = .ok (.getfield 148, 3) := by decide +kernel
theorem d_w_count_116 : decode prog_1_method_5_code 116 = .ok (.ireturn, 1) := by decide +kernel
theorem d_w_count_117 : decode prog_1_method_5_code 117 = .ok (.bipush (-2), 2) := by decide +kernel
theorem d_w_count_119 : decode prog_1_method_5_code 119 = .ok (.ireturn, 1) := by decide +kernel
theorem d_w_count_13 : decode prog_1_method_5_code 13 = .ok (.getfield 127, 3) := by decide +kernel
theorem d_w_count_16 : decode prog_1_method_5_code 16 = .ok (.iload_n 1, 1) := by decide +kernel
theorem d_w_count_17 : decode prog_1_method_5_code 17 = .ok (.iaload, 1) := by decide +kernel
theorem d_w_count_18 : decode prog_1_method_5_code 18 = .ok (.ireturn, 1) := by decide +kernel
theorem d_w_count_19 : decode prog_1_method_5_code 19 = .ok (.iload_n 1, 1) := by decide +kernel
theorem d_w_count_2 : decode prog_1_method_5_code 2 = .ok (.iconst 3, 1) := by decide +kernel
theorem d_w_count_20 : decode prog_1_method_5_code 20 = .ok (.tableswitch 97 4 11 #[48, 53, 58, 63, 71, 76, 81, 89], 48) := by decide +kernel
theorem d_w_count_3 : decode prog_1_method_5_code 3 = .ok (.invokestatic 110, 3) := by decide +kernel
theorem d_w_count_6 : decode prog_1_method_5_code 6 = .ok (.ifCond .eq 13, 3) := by decide +kernel
theorem d_w_count_68 : decode prog_1_method_5_code 68 = .ok (.aload_n 0, 1) := by decide +kernel
theorem d_w_count_69 : decode prog_1_method_5_code 69 = .ok (.getfield 114, 3) := by decide +kernel
theorem d_w_count_72 : decode prog_1_method_5_code 72 = .ok (.ireturn, 1) := by decide +kernel
theorem d_w_count_73 : decode prog_1_method_5_code 73 = .ok (.aload_n 0, 1) := by decide +kernel
theorem d_w_count_74 : decode prog_1_method_5_code 74 = .ok (.getfield 133, 3) := by decide +kernel
theorem d_w_count_77 : decode prog_1_method_5_code 77 = .ok (.ireturn, 1) := by decide +kernel
theorem d_w_count_78 : decode prog_1_method_5_code 78 = .ok (.aload_n 0, 1) := by decide +kernel
theorem d_w_count_79 : decode prog_1_method_5_code 79 = .ok (.getfield 136, 3) := by decide +kernel
theorem d_w_count_82 : decode prog_1_method_5_code 82 = .ok (.ireturn, 1) := by decide +kernel
theorem d_w_count_83 : decode prog_1_method_5_code 83 = .ok (.aload_n 0, 1) := by decide +kernel
theorem d_w_count_84 : decode prog_1_method_5_code 84 = .ok (.getfield 45, 3) := by decide +kernel
theorem d_w_count_87 : decode prog_1_method_5_code 87 = .ok (.getfield 139, 3) := by decide +kernel
theorem d_w_count_9 : decode prog_1_method_5_code 9 = .ok (.aload_n 0, 1) := by decide +kernel
theorem d_w_count_90 : decode prog_1_method_5_code 90 = .ok (.ireturn, 1) := by decide +kernel
theorem d_w_count_91 : decode prog_1_method_5_code 91 = .ok (.aload_n 0, 1) := by decide +kernel
theorem d_w_count_92 : decode prog_1_method_5_code 92 = .ok (.getfield 142, 3) := by decide +kernel
theorem d_w_count_95 : decode prog_1_method_5_code 95 = .ok (.ireturn, 1) := by decide +kernel
theorem d_w_count_96 : decode prog_1_method_5_code 96 = .ok (.aload_n 0, 1) := by decide +kernel
theorem d_w_count_97 : decode prog_1_method_5_code 97 = .ok (.getfield 106, 3) := by decide +kernel
theorem d_w_dead_0 : decode prog_1_method_52_code 0 = .ok (.aload_n 0, 1) := by decide +kernel
theorem d_w_dead_1 : decode prog_1_method_52_code 1 = .ok (.iload_n 1, 1) := by decide +kernel
theorem d_w_dead_10 : decode prog_1_method_52_code 10 = .ok (.ireturn, 1) := by decide +kernel
theorem d_w_dead_11 : decode prog_1_method_52_code 11 = .ok (.aload_n 0, 1) := by decide +kernel
theorem d_w_dead_12 : decode prog_1_method_52_code 12 = .ok (.invokevirtual 297, 3) := by decide +kernel
theorem d_w_dead_15 : decode prog_1_method_52_code 15 = .ok (.istore_n 2, 1) := by decide +kernel
theorem d_w_dead_16 : decode prog_1_method_52_code 16 = .ok (.aload_n 0, 1) := by decide +kernel
theorem d_w_dead_17 : decode prog_1_method_52_code 17 = .ok (.getfield 114, 3) := by decide +kernel
theorem d_w_dead_2 : decode prog_1_method_52_code 2 = .ok (.invokevirtual 162, 3) := by decide +kernel
theorem d_w_dead_20 : decode prog_1_method_52_code 20 = .ok (.invokestatic 130, 3) := by decide +kernel
theorem d_w_dead_23 : decode prog_1_method_52_code 23 = .ok (.istore_n 3, 1) := by decide +kernel
theorem d_w_dead_24 : decode prog_1_method_52_code 24 = .ok (.iload_n 3, 1) := by decide +kernel
theorem d_w_dead_25 : decode prog_1_method_52_code 25 = .ok (.istore 4, 2) := by decide +kernel
theorem d_w_dead_27 : decode prog_1_method_52_code 27 = .ok (.iconst 0, 1) := by decide +kernel
theorem d_w_dead_28 : decode prog_1_method_52_code 28 = .ok (.istore 5, 2) := by decide +kernel
theorem d_w_dead_30 : decode prog_1_method_52_code 30 = .ok (.iload 5, 2) := by decide +kernel
theorem d_w_dead_32 : decode prog_1_method_52_code 32 = .ok (.iload_n 3, 1) := by decide +kernel
theorem d_w_dead_33 : decode prog_1_method_52_code 33 = .ok (.if_icmp .gt 37, 3) := by decide +kernel
theorem d_w_dead_36 : decode prog_1_method_52_code 36 = .ok (.iload 5, 2) := by decide +kernel
theorem d_w_dead_38 : decode prog_1_method_52_code 38 = .ok (.invokestatic 316, 3) := by decide +kernel
theorem d_w_dead_41 : decode prog_1_method_52_code 41 = .ok (.iload 4, 2) := by decide +kernel
theorem d_w_dead_43 : decode prog_1_method_52_code 43 = .ok (.invokestatic 316, 3) := by decide +kernel
theorem d_w_dead_46 : decode prog_1_method_52_code 46 = .ok (.if_icmp .ge 18, 3) := by decide +kernel
theorem d_w_dead_49 : decode prog_1_method_52_code 49 = .ok (.aload_n 0, 1) := by decide +kernel
theorem d_w_dead_5 : decode prog_1_method_52_code 5 = .ok (.ifCond .ne 6, 3) := by decide +kernel
theorem d_w_dead_50 : decode prog_1_method_52_code 50 = .ok (.iload_n 1, 1) := by decide +kernel
theorem d_w_dead_51 : decode prog_1_method_52_code 51 = .ok (.iload 5, 2) := by decide +kernel
theorem d_w_dead_53 : decode prog_1_method_52_code 53 = .ok (.iload_n 2, 1) := by decide +kernel
theorem d_w_dead_54 : decode prog_1_method_52_code 54 = .ok (.invokevirtual 334, 3) := by decide +kernel
theorem d_w_dead_57 : decode prog_1_method_52_code 57 = .ok (.ifCond .ne 7, 3) := by decide +kernel
theorem d_w_dead_60 : decode prog_1_method_52_code 60 = .ok (.iload 5, 2) := by decide +kernel
theorem d_w_dead_62 : decode prog_1_method_52_code 62 = .ok (.istore 4, 2) := by decide +kernel
theorem d_w_dead_64 : decode prog_1_method_52_code 64 = .ok (.iinc 5 1, 3) := by decide +kernel
theorem d_w_dead_67 : decode prog_1_method_52_code 67 = .ok (.goto (-37), 3) := by decide +kernel
theorem d_w_dead_70 : decode prog_1_method_52_code 70 = .ok (.iload 4, 2) := by decide +kernel
theorem d_w_dead_72 : decode prog_1_method_52_code 72 = .ok (.ireturn, 1) := by decide +kernel
theorem d_w_dead_8 : decode prog_1_method_52_code 8 = .ok (.bipush (-5), 2) := by decide +kernel
theorem d_w_drawn_0 : decode prog_1_method_78_code 0 = .ok (.iload_n 1, 1) := by decide +kernel
theorem d_w_drawn_1 : decode prog_1_method_78_code 1 = .ok (.iconst 0, 1) := by decide +kernel
theorem d_w_drawn_100 : decode prog_1_method_78_code 100 = .ok (.aload_n 0, 1) := by decide +kernel
theorem d_w_drawn_101 : decode prog_1_method_78_code 101 = .ok (.getfield 45, 3) := by decide +kernel
theorem d_w_drawn_104 : decode prog_1_method_78_code 104 = .ok (.getfield 127, 3) := by decide +kernel
theorem d_w_drawn_107 : decode prog_1_method_78_code 107 = .ok (.iconst 3, 1) := by decide +kernel
theorem d_w_drawn_108 : decode prog_1_method_78_code 108 = .ok (.iaload, 1) := by decide +kernel
theorem d_w_drawn_109 : decode prog_1_method_78_code 109 = .ok (.i2l, 1) := by decide +kernel
theorem d_w_drawn_11 : decode prog_1_method_78_code 11 = .ok (.iload_n 2, 1) := by decide +kernel
theorem d_w_drawn_110 : decode prog_1_method_78_code 110 = .ok (.lcmp, 1) := by decide +kernel
theorem d_w_drawn_111 : decode prog_1_method_78_code 111 = .ok (.ifCond .ge 12, 3) := by decide +kernel
theorem d_w_drawn_114 : decode prog_1_method_78_code 114 = .ok (.iload 7, 2) := by decide +kernel
theorem d_w_drawn_116 : decode prog_1_method_78_code 116 = .ok (.iconst 1, 1) := by decide +kernel
theorem d_w_drawn_117 : decode prog_1_method_78_code 117 = .ok (.iload 8, 2) := by decide +kernel
theorem d_w_drawn_119 : decode prog_1_method_78_code 119 = .ok (.ishl, 1) := by decide +kernel
theorem d_w_drawn_12 : decode prog_1_method_78_code 12 = .ok (.invokestatic 260, 3) := by decide +kernel
theorem d_w_drawn_120 : decode prog_1_method_78_code 120 = .ok (.ixor, 1) := by decide +kernel
theorem d_w_drawn_121 : decode prog_1_method_78_code 121 = .ok (.istore 7, 2) := by decide +kernel
theorem d_w_drawn_123 : decode prog_1_method_78_code 123 = .ok (.iinc 8 1, 3) := by decide +kernel
theorem d_w_drawn_126 : decode prog_1_method_78_code 126 = .ok (.goto (-48), 3) := by decide +kernel
theorem d_w_drawn_129 : decode prog_1_method_78_code 129 = .ok (.iload 7, 2) := by decide +kernel
theorem d_w_drawn_131 : decode prog_1_method_78_code 131 = .ok (.aload_n 0, 1) := by decide +kernel
theorem d_w_drawn_132 : decode prog_1_method_78_code 132 = .ok (.iload_n 2, 1) := by decide +kernel
theorem d_w_drawn_133 : decode prog_1_method_78_code 133 = .ok (.invokevirtual 263, 3) := by decide +kernel
theorem d_w_drawn_136 : decode prog_1_method_78_code 136 = .ok (.iand, 1) := by decide +kernel
theorem d_w_drawn_137 : decode prog_1_method_78_code 137 = .ok (.ireturn, 1) := by decide +kernel
theorem d_w_drawn_15 : decode prog_1_method_78_code 15 = .ok (.ifCond .eq 12, 3) := by decide +kernel
theorem d_w_drawn_18 : decode prog_1_method_78_code 18 = .ok (.iload_n 3, 1) := by decide +kernel
theorem d_w_drawn_19 : decode prog_1_method_78_code 19 = .ok (.iconst 0, 1) := by decide +kernel
theorem d_w_drawn_2 : decode prog_1_method_78_code 2 = .ok (.ldc_w 396, 3) := by decide +kernel
theorem d_w_drawn_20 : decode prog_1_method_78_code 20 = .ok (.iconst 1, 1) := by decide +kernel
theorem d_w_drawn_21 : decode prog_1_method_78_code 21 = .ok (.invokestatic 110, 3) := by decide +kernel
theorem d_w_drawn_24 : decode prog_1_method_78_code 24 = .ok (.ifCond .ne 6, 3) := by decide +kernel
theorem d_w_drawn_27 : decode prog_1_method_78_code 27 = .ok (.bipush (-2), 2) := by decide +kernel
theorem d_w_drawn_29 : decode prog_1_method_78_code 29 = .ok (.ireturn, 1) := by decide +kernel
theorem d_w_drawn_30 : decode prog_1_method_78_code 30 = .ok (.aload_n 0, 1) := by decide +kernel
theorem d_w_drawn_31 : decode prog_1_method_78_code 31 = .ok (.getfield 136, 3) := by decide +kernel
theorem d_w_drawn_34 : decode prog_1_method_78_code 34 = .ok (.ifCond .gt 6, 3) := by decide +kernel
theorem d_w_drawn_37 : decode prog_1_method_78_code 37 = .ok (.bipush (-3), 2) := by decide +kernel
theorem d_w_drawn_39 : decode prog_1_method_78_code 39 = .ok (.ireturn, 1) := by decide +kernel
theorem d_w_drawn_40 : decode prog_1_method_78_code 40 = .ok (.iload_n 1, 1) := by decide +kernel
theorem d_w_drawn_41 : decode prog_1_method_78_code 41 = .ok (.iconst 1, 1) := by decide +kernel
theorem d_w_drawn_42 : decode prog_1_method_78_code 42 = .ok (.iadd, 1) := by decide +kernel
theorem d_w_drawn_43 : decode prog_1_method_78_code 43 = .ok (.i2l, 1) := by decide +kernel
theorem d_w_drawn_44 : decode prog_1_method_78_code 44 = .ok (.invokestatic 402, 3) := by decide +kernel
theorem d_w_drawn_47 : decode prog_1_method_78_code 47 = .ok (.lstore 4, 2) := by decide +kernel
theorem d_w_drawn_49 : decode prog_1_method_78_code 49 = .ok (.lload 4, 2) := by decide +kernel
theorem d_w_drawn_5 : decode prog_1_method_78_code 5 = .ok (.invokestatic 110, 3) := by decide +kernel
theorem d_w_drawn_51 : decode prog_1_method_78_code 51 = .ok (.aload_n 0, 1) := by decide +kernel
theorem d_w_drawn_52 : decode prog_1_method_78_code 52 = .ok (.getfield 136, 3) := by decide +kernel
theorem d_w_drawn_55 : decode prog_1_method_78_code 55 = .ok (.i2l, 1) := by decide +kernel
theorem d_w_drawn_56 : decode prog_1_method_78_code 56 = .ok (.lrem, 1) := by decide +kernel
theorem d_w_drawn_57 : decode prog_1_method_78_code 57 = .ok (.l2i, 1) := by decide +kernel
theorem d_w_drawn_58 : decode prog_1_method_78_code 58 = .ok (.istore 6, 2) := by decide +kernel
theorem d_w_drawn_60 : decode prog_1_method_78_code 60 = .ok (.iload_n 3, 1) := by decide +kernel
theorem d_w_drawn_61 : decode prog_1_method_78_code 61 = .ok (.ifCond .ne 6, 3) := by decide +kernel
theorem d_w_drawn_64 : decode prog_1_method_78_code 64 = .ok (.iload 6, 2) := by decide +kernel
theorem d_w_drawn_66 : decode prog_1_method_78_code 66 = .ok (.ireturn, 1) := by decide +kernel
theorem d_w_drawn_67 : decode prog_1_method_78_code 67 = .ok (.aload_n 0, 1) := by decide +kernel
theorem d_w_drawn_68 : decode prog_1_method_78_code 68 = .ok (.iload 6, 2) := by decide +kernel
theorem d_w_drawn_70 : decode prog_1_method_78_code 70 = .ok (.invokevirtual 223, 3) := by decide +kernel
theorem d_w_drawn_73 : decode prog_1_method_78_code 73 = .ok (.istore 7, 2) := by decide +kernel
theorem d_w_drawn_75 : decode prog_1_method_78_code 75 = .ok (.iconst 0, 1) := by decide +kernel
theorem d_w_drawn_76 : decode prog_1_method_78_code 76 = .ok (.istore 8, 2) := by decide +kernel
theorem d_w_drawn_78 : decode prog_1_method_78_code 78 = .ok (.iload 8, 2) := by decide +kernel
theorem d_w_drawn_8 : decode prog_1_method_78_code 8 = .ok (.ifCond .eq 19, 3) := by decide +kernel
theorem d_w_drawn_80 : decode prog_1_method_78_code 80 = .ok (.aload_n 0, 1) := by decide +kernel
theorem d_w_drawn_81 : decode prog_1_method_78_code 81 = .ok (.getfield 133, 3) := by decide +kernel
theorem d_w_drawn_84 : decode prog_1_method_78_code 84 = .ok (.if_icmp .ge 45, 3) := by decide +kernel
theorem d_w_drawn_87 : decode prog_1_method_78_code 87 = .ok (.lload 4, 2) := by decide +kernel
theorem d_w_drawn_89 : decode prog_1_method_78_code 89 = .ok (.invokestatic 402, 3) := by decide +kernel
theorem d_w_drawn_92 : decode prog_1_method_78_code 92 = .ok (.lstore 4, 2) := by decide +kernel
theorem d_w_drawn_94 : decode prog_1_method_78_code 94 = .ok (.lload 4, 2) := by decide +kernel
theorem d_w_drawn_96 : decode prog_1_method_78_code 96 = .ok (.ldc2_w 406, 3) := by decide +kernel
theorem d_w_drawn_99 : decode prog_1_method_78_code 99 = .ok (.lrem, 1) := by decide +kernel
theorem d_w_fedBy_0 : decode prog_1_method_16_code 0 = .ok (.aload_n 0, 1) := by decide +kernel
theorem d_w_fedBy_1 : decode prog_1_method_16_code 1 = .ok (.iload_n 1, 1) := by decide +kernel
theorem d_w_fedBy_10 : decode prog_1_method_16_code 10 = .ok (.invokevirtual 162, 3) := by decide +kernel
theorem d_w_fedBy_13 : decode prog_1_method_16_code 13 = .ok (.ifCond .ne 6, 3) := by decide +kernel
theorem d_w_fedBy_16 : decode prog_1_method_16_code 16 = .ok (.bipush (-5), 2) := by decide +kernel
theorem d_w_fedBy_18 : decode prog_1_method_16_code 18 = .ok (.ireturn, 1) := by decide +kernel
theorem d_w_fedBy_19 : decode prog_1_method_16_code 19 = .ok (.aload_n 0, 1) := by decide +kernel
theorem d_w_fedBy_2 : decode prog_1_method_16_code 2 = .ok (.invokevirtual 217, 3) := by decide +kernel
theorem d_w_fedBy_20 : decode prog_1_method_16_code 20 = .ok (.getfield 23, 3) := by decide +kernel
theorem d_w_fedBy_23 : decode prog_1_method_16_code 23 = .ok (.iload_n 1, 1) := by decide +kernel
theorem d_w_fedBy_24 : decode prog_1_method_16_code 24 = .ok (.aaload, 1) := by decide +kernel
theorem d_w_fedBy_25 : decode prog_1_method_16_code 25 = .ok (.getfield 220, 3) := by decide +kernel
theorem d_w_fedBy_28 : decode prog_1_method_16_code 28 = .ok (.iload_n 2, 1) := by decide +kernel
theorem d_w_fedBy_29 : decode prog_1_method_16_code 29 = .ok (.iaload, 1) := by decide +kernel
theorem d_w_fedBy_30 : decode prog_1_method_16_code 30 = .ok (.ireturn, 1) := by decide +kernel
theorem d_w_fedBy_5 : decode prog_1_method_16_code 5 = .ok (.ifCond .eq 11, 3) := by decide +kernel
theorem d_w_fedBy_8 : decode prog_1_method_16_code 8 = .ok (.aload_n 0, 1) := by decide +kernel
theorem d_w_fedBy_9 : decode prog_1_method_16_code 9 = .ok (.iload_n 2, 1) := by decide +kernel
theorem d_w_fedLamps_0 : decode prog_1_method_22_code 0 = .ok (.aload_n 0, 1) := by decide +kernel
theorem d_w_fedLamps_1 : decode prog_1_method_22_code 1 = .ok (.getfield 23, 3) := by decide +kernel
theorem d_w_fedLamps_10 : decode prog_1_method_22_code 10 = .ok (.iconst 0, 1) := by decide +kernel
theorem d_w_fedLamps_11 : decode prog_1_method_22_code 11 = .ok (.istore 5, 2) := by decide +kernel
theorem d_w_fedLamps_13 : decode prog_1_method_22_code 13 = .ok (.iload 5, 2) := by decide +kernel
theorem d_w_fedLamps_15 : decode prog_1_method_22_code 15 = .ok (.aload_n 0, 1) := by decide +kernel
theorem d_w_fedLamps_16 : decode prog_1_method_22_code 16 = .ok (.getfield 114, 3) := by decide +kernel
theorem d_w_fedLamps_19 : decode prog_1_method_22_code 19 = .ok (.if_icmp .ge 41, 3) := by decide +kernel
theorem d_w_fedLamps_22 : decode prog_1_method_22_code 22 = .ok (.iload_n 2, 1) := by decide +kernel
theorem d_w_fedLamps_23 : decode prog_1_method_22_code 23 = .ok (.iload 5, 2) := by decide +kernel
theorem d_w_fedLamps_25 : decode prog_1_method_22_code 25 = .ok (.invokestatic 242, 3) := by decide +kernel
theorem d_w_fedLamps_28 : decode prog_1_method_22_code 28 = .ok (.ifCond .ne 26, 3) := by decide +kernel
theorem d_w_fedLamps_31 : decode prog_1_method_22_code 31 = .ok (.iload 4, 2) := by decide +kernel
theorem d_w_fedLamps_33 : decode prog_1_method_22_code 33 = .ok (.aload_n 3, 1) := by decide +kernel
theorem d_w_fedLamps_34 : decode prog_1_method_22_code 34 = .ok (.getfield 245, 3) := by decide +kernel
theorem d_w_fedLamps_37 : decode prog_1_method_22_code 37 = .ok (.iload 5, 2) := by decide +kernel
theorem d_w_fedLamps_39 : decode prog_1_method_22_code 39 = .ok (.iaload, 1) := by decide +kernel
theorem d_w_fedLamps_4 : decode prog_1_method_22_code 4 = .ok (.iload_n 1, 1) := by decide +kernel
theorem d_w_fedLamps_40 : decode prog_1_method_22_code 40 = .ok (.aload_n 0, 1) := by decide +kernel
theorem d_w_fedLamps_41 : decode prog_1_method_22_code 41 = .ok (.getfield 11, 3) := by decide +kernel
theorem d_w_fedLamps_44 : decode prog_1_method_22_code 44 = .ok (.iload 5, 2) := by decide +kernel
theorem d_w_fedLamps_46 : decode prog_1_method_22_code 46 = .ok (.aaload, 1) := by decide +kernel
theorem d_w_fedLamps_47 : decode prog_1_method_22_code 47 = .ok (.getfield 159, 3) := by decide +kernel
theorem d_w_fedLamps_5 : decode prog_1_method_22_code 5 = .ok (.aaload, 1) := by decide +kernel
theorem d_w_fedLamps_50 : decode prog_1_method_22_code 50 = .ok (.ior, 1) := by decide +kernel
theorem d_w_fedLamps_51 : decode prog_1_method_22_code 51 = .ok (.ior, 1) := by decide +kernel
theorem d_w_fedLamps_52 : decode prog_1_method_22_code 52 = .ok (.istore 4, 2) := by decide +kernel
theorem d_w_fedLamps_54 : decode prog_1_method_22_code 54 = .ok (.iinc 5 1, 3) := by decide +kernel
theorem d_w_fedLamps_57 : decode prog_1_method_22_code 57 = .ok (.goto (-44), 3) := by decide +kernel
theorem d_w_fedLamps_6 : decode prog_1_method_22_code 6 = .ok (.astore_n 3, 1) := by decide +kernel
theorem d_w_fedLamps_60 : decode prog_1_method_22_code 60 = .ok (.iload 4, 2) := by decide +kernel
theorem d_w_fedLamps_62 : decode prog_1_method_22_code 62 = .ok (.ireturn, 1) := by decide +kernel
theorem d_w_fedLamps_7 : decode prog_1_method_22_code 7 = .ok (.iconst 0, 1) := by decide +kernel
theorem d_w_fedLamps_8 : decode prog_1_method_22_code 8 = .ok (.istore 4, 2) := by decide +kernel
theorem d_w_feed_0 : decode prog_1_method_9_code 0 = .ok (.iload_n 3, 1) := by decide +kernel
theorem d_w_feed_1 : decode prog_1_method_9_code 1 = .ok (.iconst 1, 1) := by decide +kernel
theorem d_w_feed_10 : decode prog_1_method_9_code 10 = .ok (.bipush (-2), 2) := by decide +kernel
theorem d_w_feed_12 : decode prog_1_method_9_code 12 = .ok (.ireturn, 1) := by decide +kernel
theorem d_w_feed_13 : decode prog_1_method_9_code 13 = .ok (.aload_n 0, 1) := by decide +kernel
theorem d_w_feed_14 : decode prog_1_method_9_code 14 = .ok (.getfield 55, 3) := by decide +kernel
theorem d_w_feed_17 : decode prog_1_method_9_code 17 = .ok (.getfield 148, 3) := by decide +kernel
theorem d_w_feed_2 : decode prog_1_method_9_code 2 = .ok (.bipush 8, 2) := by decide +kernel
theorem d_w_feed_20 : decode prog_1_method_9_code 20 = .ok (.iload_n 3, 1) := by decide +kernel
theorem d_w_feed_21 : decode prog_1_method_9_code 21 = .ok (.iadd, 1) := by decide +kernel
theorem d_w_feed_22 : decode prog_1_method_9_code 22 = .ok (.sipush 160, 3) := by decide +kernel
theorem d_w_feed_25 : decode prog_1_method_9_code 25 = .ok (.if_icmp .le 6, 3) := by decide +kernel
theorem d_w_feed_28 : decode prog_1_method_9_code 28 = .ok (.bipush (-4), 2) := by decide +kernel
theorem d_w_feed_30 : decode prog_1_method_9_code 30 = .ok (.ireturn, 1) := by decide +kernel
theorem d_w_feed_31 : decode prog_1_method_9_code 31 = .ok (.iload_n 3, 1) := by decide +kernel
theorem d_w_feed_32 : decode prog_1_method_9_code 32 = .ok (.iconst 1, 1) := by decide +kernel
theorem d_w_feed_33 : decode prog_1_method_9_code 33 = .ok (.isub, 1) := by decide +kernel
theorem d_w_feed_34 : decode prog_1_method_9_code 34 = .ok (.istore 4, 2) := by decide +kernel
theorem d_w_feed_36 : decode prog_1_method_9_code 36 = .ok (.iload 4, 2) := by decide +kernel
theorem d_w_feed_38 : decode prog_1_method_9_code 38 = .ok (.ifCond .lt 28, 3) := by decide +kernel
theorem d_w_feed_4 : decode prog_1_method_9_code 4 = .ok (.invokestatic 110, 3) := by decide +kernel
theorem d_w_feed_41 : decode prog_1_method_9_code 41 = .ok (.aload_n 0, 1) := by decide +kernel
theorem d_w_feed_42 : decode prog_1_method_9_code 42 = .ok (.getfield 55, 3) := by decide +kernel
theorem d_w_feed_45 : decode prog_1_method_9_code 45 = .ok (.lload_n 1, 1) := by decide +kernel
theorem d_w_feed_46 : decode prog_1_method_9_code 46 = .ok (.bipush 8, 2) := by decide +kernel
theorem d_w_feed_48 : decode prog_1_method_9_code 48 = .ok (.iload 4, 2) := by decide +kernel
theorem d_w_feed_50 : decode prog_1_method_9_code 50 = .ok (.imul, 1) := by decide +kernel
theorem d_w_feed_51 : decode prog_1_method_9_code 51 = .ok (.lushr, 1) := by decide +kernel
theorem d_w_feed_52 : decode prog_1_method_9_code 52 = .ok (.l2i, 1) := by decide +kernel
theorem d_w_feed_53 : decode prog_1_method_9_code 53 = .ok (.sipush 255, 3) := by decide +kernel
theorem d_w_feed_56 : decode prog_1_method_9_code 56 = .ok (.iand, 1) := by decide +kernel
theorem d_w_feed_57 : decode prog_1_method_9_code 57 = .ok (.invokevirtual 183, 3) := by decide +kernel
theorem d_w_feed_60 : decode prog_1_method_9_code 60 = .ok (.iinc 4 (-1), 3) := by decide +kernel
theorem d_w_feed_63 : decode prog_1_method_9_code 63 = .ok (.goto (-27), 3) := by decide +kernel
theorem d_w_feed_66 : decode prog_1_method_9_code 66 = .ok (.aload_n 0, 1) := by decide +kernel
theorem d_w_feed_67 : decode prog_1_method_9_code 67 = .ok (.getfield 55, 3) := by decide +kernel
theorem d_w_feed_7 : decode prog_1_method_9_code 7 = .ok (.ifCond .ne 6, 3) := by decide +kernel
theorem d_w_feed_70 : decode prog_1_method_9_code 70 = .ok (.getfield 148, 3) := by decide +kernel
theorem d_w_feed_73 : decode prog_1_method_9_code 73 = .ok (.ireturn, 1) := by decide +kernel
theorem d_w_fillShows_0 : decode prog_1_method_43_code 0 = .ok (.aload_n 0, 1) := by decide +kernel
theorem d_w_fillShows_1 : decode prog_1_method_43_code 1 = .ok (.aload_n 0, 1) := by decide +kernel
theorem d_w_fillShows_10 : decode prog_1_method_43_code 10 = .ok (.aload_n 0, 1) := by decide +kernel
theorem d_w_fillShows_101 : decode prog_1_method_43_code 101 = .ok (.goto (-60), 3) := by decide +kernel
theorem d_w_fillShows_104 : decode prog_1_method_43_code 104 = .ok (.return_, 1) := by decide +kernel
theorem d_w_fillShows_11 : decode prog_1_method_43_code 11 = .ok (.getfield 45, 3) := by decide +kernel
theorem d_w_fillShows_14 : decode prog_1_method_43_code 14 = .ok (.getfield 127, 3) := by decide +kernel
theorem d_w_fillShows_17 : decode prog_1_method_43_code 17 = .ok (.iconst 2, 1) := by decide +kernel
theorem d_w_fillShows_18 : decode prog_1_method_43_code 18 = .ok (.iaload, 1) := by decide +kernel
theorem d_w_fillShows_19 : decode prog_1_method_43_code 19 = .ok (.invokevirtual 236, 3) := by decide +kernel
theorem d_w_fillShows_2 : decode prog_1_method_43_code 2 = .ok (.getfield 45, 3) := by decide +kernel
theorem d_w_fillShows_22 : decode prog_1_method_43_code 22 = .ok (.aload_n 0, 1) := by decide +kernel
theorem d_w_fillShows_23 : decode prog_1_method_43_code 23 = .ok (.iload_n 1, 1) := by decide +kernel
theorem d_w_fillShows_24 : decode prog_1_method_43_code 24 = .ok (.invokevirtual 263, 3) := by decide +kernel
theorem d_w_fillShows_27 : decode prog_1_method_43_code 27 = .ok (.iand, 1) := by decide +kernel
theorem d_w_fillShows_28 : decode prog_1_method_43_code 28 = .ok (.istore_n 3, 1) := by decide +kernel
theorem d_w_fillShows_29 : decode prog_1_method_43_code 29 = .ok (.aload_n 0, 1) := by decide +kernel
theorem d_w_fillShows_30 : decode prog_1_method_43_code 30 = .ok (.getfield 114, 3) := by decide +kernel
theorem d_w_fillShows_33 : decode prog_1_method_43_code 33 = .ok (.invokestatic 130, 3) := by decide +kernel
theorem d_w_fillShows_36 : decode prog_1_method_43_code 36 = .ok (.istore 4, 2) := by decide +kernel
theorem d_w_fillShows_38 : decode prog_1_method_43_code 38 = .ok (.iconst 0, 1) := by decide +kernel
theorem d_w_fillShows_39 : decode prog_1_method_43_code 39 = .ok (.istore 5, 2) := by decide +kernel
theorem d_w_fillShows_41 : decode prog_1_method_43_code 41 = .ok (.iload 5, 2) := by decide +kernel
theorem d_w_fillShows_43 : decode prog_1_method_43_code 43 = .ok (.iload 4, 2) := by decide +kernel
theorem d_w_fillShows_45 : decode prog_1_method_43_code 45 = .ok (.if_icmp .gt 59, 3) := by decide +kernel
theorem d_w_fillShows_48 : decode prog_1_method_43_code 48 = .ok (.iconst 0, 1) := by decide +kernel
theorem d_w_fillShows_49 : decode prog_1_method_43_code 49 = .ok (.istore 6, 2) := by decide +kernel
theorem d_w_fillShows_5 : decode prog_1_method_43_code 5 = .ok (.getfield 127, 3) := by decide +kernel
theorem d_w_fillShows_51 : decode prog_1_method_43_code 51 = .ok (.iload 6, 2) := by decide +kernel
theorem d_w_fillShows_53 : decode prog_1_method_43_code 53 = .ok (.aload_n 0, 1) := by decide +kernel
theorem d_w_fillShows_54 : decode prog_1_method_43_code 54 = .ok (.getfield 136, 3) := by decide +kernel
theorem d_w_fillShows_57 : decode prog_1_method_43_code 57 = .ok (.if_icmp .ge 41, 3) := by decide +kernel
theorem d_w_fillShows_60 : decode prog_1_method_43_code 60 = .ok (.iload_n 2, 1) := by decide +kernel
theorem d_w_fillShows_61 : decode prog_1_method_43_code 61 = .ok (.iload 6, 2) := by decide +kernel
theorem d_w_fillShows_63 : decode prog_1_method_43_code 63 = .ok (.invokestatic 242, 3) := by decide +kernel
theorem d_w_fillShows_66 : decode prog_1_method_43_code 66 = .ok (.ifCond .eq 26, 3) := by decide +kernel
theorem d_w_fillShows_69 : decode prog_1_method_43_code 69 = .ok (.aload_n 0, 1) := by decide +kernel
theorem d_w_fillShows_70 : decode prog_1_method_43_code 70 = .ok (.getfield 73, 3) := by decide +kernel
theorem d_w_fillShows_73 : decode prog_1_method_43_code 73 = .ok (.iload 5, 2) := by decide +kernel
theorem d_w_fillShows_75 : decode prog_1_method_43_code 75 = .ok (.bipush 12, 2) := by decide +kernel
theorem d_w_fillShows_77 : decode prog_1_method_43_code 77 = .ok (.imul, 1) := by decide +kernel
theorem d_w_fillShows_78 : decode prog_1_method_43_code 78 = .ok (.iload 6, 2) := by decide +kernel
theorem d_w_fillShows_8 : decode prog_1_method_43_code 8 = .ok (.iconst 1, 1) := by decide +kernel
theorem d_w_fillShows_80 : decode prog_1_method_43_code 80 = .ok (.iadd, 1) := by decide +kernel
theorem d_w_fillShows_81 : decode prog_1_method_43_code 81 = .ok (.aload_n 0, 1) := by decide +kernel
theorem d_w_fillShows_82 : decode prog_1_method_43_code 82 = .ok (.iload 6, 2) := by decide +kernel
theorem d_w_fillShows_84 : decode prog_1_method_43_code 84 = .ok (.iload 5, 2) := by decide +kernel
theorem d_w_fillShows_86 : decode prog_1_method_43_code 86 = .ok (.invokevirtual 233, 3) := by decide +kernel
theorem d_w_fillShows_89 : decode prog_1_method_43_code 89 = .ok (.iload_n 3, 1) := by decide +kernel
theorem d_w_fillShows_9 : decode prog_1_method_43_code 9 = .ok (.iaload, 1) := by decide +kernel
theorem d_w_fillShows_90 : decode prog_1_method_43_code 90 = .ok (.iand, 1) := by decide +kernel
theorem d_w_fillShows_91 : decode prog_1_method_43_code 91 = .ok (.iastore, 1) := by decide +kernel
theorem d_w_fillShows_92 : decode prog_1_method_43_code 92 = .ok (.iinc 6 1, 3) := by decide +kernel
theorem d_w_fillShows_95 : decode prog_1_method_43_code 95 = .ok (.goto (-44), 3) := by decide +kernel
theorem d_w_fillShows_98 : decode prog_1_method_43_code 98 = .ok (.iinc 5 1, 3) := by decide +kernel
theorem d_w_fillTones_0 : decode prog_1_method_69_code 0 = .ok (.iconst 0, 1) := by decide +kernel
theorem d_w_fillTones_1 : decode prog_1_method_69_code 1 = .ok (.istore_n 3, 1) := by decide +kernel
theorem d_w_fillTones_10 : decode prog_1_method_69_code 10 = .ok (.if_icmp .ge 48, 3) := by decide +kernel
theorem d_w_fillTones_13 : decode prog_1_method_69_code 13 = .ok (.aload_n 0, 1) := by decide +kernel
theorem d_w_fillTones_14 : decode prog_1_method_69_code 14 = .ok (.getfield 62, 3) := by decide +kernel
theorem d_w_fillTones_17 : decode prog_1_method_69_code 17 = .ok (.iconst 0, 1) := by decide +kernel
theorem d_w_fillTones_18 : decode prog_1_method_69_code 18 = .ok (.iconst 0, 1) := by decide +kernel
theorem d_w_fillTones_19 : decode prog_1_method_69_code 19 = .ok (.aload_n 0, 1) := by decide +kernel
theorem d_w_fillTones_2 : decode prog_1_method_69_code 2 = .ok (.iload_n 3, 1) := by decide +kernel
theorem d_w_fillTones_20 : decode prog_1_method_69_code 20 = .ok (.getfield 45, 3) := by decide +kernel
theorem d_w_fillTones_23 : decode prog_1_method_69_code 23 = .ok (.getfield 127, 3) := by decide +kernel
theorem d_w_fillTones_26 : decode prog_1_method_69_code 26 = .ok (.iconst 2, 1) := by decide +kernel
theorem d_w_fillTones_27 : decode prog_1_method_69_code 27 = .ok (.iaload, 1) := by decide +kernel
theorem d_w_fillTones_28 : decode prog_1_method_69_code 28 = .ok (.iload_n 1, 1) := by decide +kernel
theorem d_w_fillTones_29 : decode prog_1_method_69_code 29 = .ok (.iconst 0, 1) := by decide +kernel
theorem d_w_fillTones_3 : decode prog_1_method_69_code 3 = .ok (.iload_n 2, 1) := by decide +kernel
theorem d_w_fillTones_30 : decode prog_1_method_69_code 30 = .ok (.iload_n 3, 1) := by decide +kernel
theorem d_w_fillTones_31 : decode prog_1_method_69_code 31 = .ok (.invokevirtual 187, 3) := by decide +kernel
theorem d_w_fillTones_34 : decode prog_1_method_69_code 34 = .ok (.aload_n 0, 1) := by decide +kernel
theorem d_w_fillTones_35 : decode prog_1_method_69_code 35 = .ok (.getfield 77, 3) := by decide +kernel
theorem d_w_fillTones_38 : decode prog_1_method_69_code 38 = .ok (.iload_n 3, 1) := by decide +kernel
theorem d_w_fillTones_39 : decode prog_1_method_69_code 39 = .ok (.aload_n 0, 1) := by decide +kernel
theorem d_w_fillTones_4 : decode prog_1_method_69_code 4 = .ok (.if_icmp .ge 54, 3) := by decide +kernel
theorem d_w_fillTones_40 : decode prog_1_method_69_code 40 = .ok (.getfield 62, 3) := by decide +kernel
theorem d_w_fillTones_43 : decode prog_1_method_69_code 43 = .ok (.aload_n 0, 1) := by decide +kernel
theorem d_w_fillTones_44 : decode prog_1_method_69_code 44 = .ok (.invokevirtual 191, 3) := by decide +kernel
theorem d_w_fillTones_47 : decode prog_1_method_69_code 47 = .ok (.iconst 1, 1) := by decide +kernel
theorem d_w_fillTones_48 : decode prog_1_method_69_code 48 = .ok (.invokevirtual 195, 3) := by decide +kernel
theorem d_w_fillTones_51 : decode prog_1_method_69_code 51 = .ok (.iastore, 1) := by decide +kernel
theorem d_w_fillTones_52 : decode prog_1_method_69_code 52 = .ok (.iinc 3 1, 3) := by decide +kernel
theorem d_w_fillTones_55 : decode prog_1_method_69_code 55 = .ok (.goto (-53), 3) := by decide +kernel
theorem d_w_fillTones_58 : decode prog_1_method_69_code 58 = .ok (.return_, 1) := by decide +kernel
theorem d_w_fillTones_7 : decode prog_1_method_69_code 7 = .ok (.iload_n 3, 1) := by decide +kernel
theorem d_w_fillTones_8 : decode prog_1_method_69_code 8 = .ok (.bipush 30, 2) := by decide +kernel
theorem d_w_force_0 : decode prog_1_method_11_code 0 = .ok (.iload_n 1, 1) := by decide +kernel
theorem d_w_force_1 : decode prog_1_method_11_code 1 = .ok (.iconst 0, 1) := by decide +kernel
theorem d_w_force_11 : decode prog_1_method_11_code 11 = .ok (.ifCond .ne 6, 3) := by decide +kernel
theorem d_w_force_14 : decode prog_1_method_11_code 14 = .ok (.bipush (-2), 2) := by decide +kernel
theorem d_w_force_16 : decode prog_1_method_11_code 16 = .ok (.ireturn, 1) := by decide +kernel
theorem d_w_force_17 : decode prog_1_method_11_code 17 = .ok (.aload_n 0, 1) := by decide +kernel
theorem d_w_force_18 : decode prog_1_method_11_code 18 = .ok (.getfield 45, 3) := by decide +kernel
theorem d_w_force_2 : decode prog_1_method_11_code 2 = .ok (.aload_n 0, 1) := by decide +kernel
theorem d_w_force_21 : decode prog_1_method_11_code 21 = .ok (.getfield 145, 3) := by decide +kernel
theorem d_w_force_24 : decode prog_1_method_11_code 24 = .ok (.istore_n 2, 1) := by decide +kernel
theorem d_w_force_25 : decode prog_1_method_11_code 25 = .ok (.aload_n 0, 1) := by decide +kernel
theorem d_w_force_26 : decode prog_1_method_11_code 26 = .ok (.getfield 45, 3) := by decide +kernel
theorem d_w_force_29 : decode prog_1_method_11_code 29 = .ok (.iload_n 1, 1) := by decide +kernel
theorem d_w_force_3 : decode prog_1_method_11_code 3 = .ok (.getfield 106, 3) := by decide +kernel
theorem d_w_force_30 : decode prog_1_method_11_code 30 = .ok (.putfield 145, 3) := by decide +kernel
theorem d_w_force_33 : decode prog_1_method_11_code 33 = .ok (.iload_n 2, 1) := by decide +kernel
theorem d_w_force_34 : decode prog_1_method_11_code 34 = .ok (.ireturn, 1) := by decide +kernel
theorem d_w_force_6 : decode prog_1_method_11_code 6 = .ok (.iconst 1, 1) := by decide +kernel
theorem d_w_force_7 : decode prog_1_method_11_code 7 = .ok (.isub, 1) := by decide +kernel
theorem d_w_force_8 : decode prog_1_method_11_code 8 = .ok (.invokestatic 110, 3) := by decide +kernel
theorem d_w_forgetSaid_0 : decode prog_1_method_81_code 0 = .ok (.iconst 0, 1) := by decide +kernel
theorem d_w_forgetSaid_1 : decode prog_1_method_81_code 1 = .ok (.istore_n 1, 1) := by decide +kernel
theorem d_w_forgetSaid_11 : decode prog_1_method_81_code 11 = .ok (.aload_n 0, 1) := by decide +kernel
theorem d_w_forgetSaid_12 : decode prog_1_method_81_code 12 = .ok (.getfield 77, 3) := by decide +kernel
theorem d_w_forgetSaid_15 : decode prog_1_method_81_code 15 = .ok (.iload_n 1, 1) := by decide +kernel
theorem d_w_forgetSaid_16 : decode prog_1_method_81_code 16 = .ok (.iconst (-1), 1) := by decide +kernel
theorem d_w_forgetSaid_17 : decode prog_1_method_81_code 17 = .ok (.iastore, 1) := by decide +kernel
theorem d_w_forgetSaid_18 : decode prog_1_method_81_code 18 = .ok (.iinc 1 1, 3) := by decide +kernel
theorem d_w_forgetSaid_2 : decode prog_1_method_81_code 2 = .ok (.iload_n 1, 1) := by decide +kernel
theorem d_w_forgetSaid_21 : decode prog_1_method_81_code 21 = .ok (.goto (-19), 3) := by decide +kernel
theorem d_w_forgetSaid_24 : decode prog_1_method_81_code 24 = .ok (.return_, 1) := by decide +kernel
theorem d_w_forgetSaid_3 : decode prog_1_method_81_code 3 = .ok (.aload_n 0, 1) := by decide +kernel
theorem d_w_forgetSaid_4 : decode prog_1_method_81_code 4 = .ok (.getfield 77, 3) := by decide +kernel
theorem d_w_forgetSaid_7 : decode prog_1_method_81_code 7 = .ok (.arraylength, 1) := by decide +kernel
theorem d_w_forgetSaid_8 : decode prog_1_method_81_code 8 = .ok (.if_icmp .ge 16, 3) := by decide +kernel
theorem d_w_forget_0 : decode prog_1_method_28_code 0 = .ok (.aload_n 0, 1) := by decide +kernel
theorem d_w_forget_1 : decode prog_1_method_28_code 1 = .ok (.getfield 45, 3) := by decide +kernel
theorem d_w_forget_10 : decode prog_1_method_28_code 10 = .ok (.bipush (-3), 2) := by decide +kernel
theorem d_w_forget_12 : decode prog_1_method_28_code 12 = .ok (.ireturn, 1) := by decide +kernel
theorem d_w_forget_13 : decode prog_1_method_28_code 13 = .ok (.aload_n 0, 1) := by decide +kernel
theorem d_w_forget_14 : decode prog_1_method_28_code 14 = .ok (.getfield 45, 3) := by decide +kernel
theorem d_w_forget_17 : decode prog_1_method_28_code 17 = .ok (.dup, 1) := by decide +kernel
theorem d_w_forget_18 : decode prog_1_method_28_code 18 = .ok (.getfield 139, 3) := by decide +kernel
theorem d_w_forget_21 : decode prog_1_method_28_code 21 = .ok (.iconst 1, 1) := by decide +kernel
theorem d_w_forget_22 : decode prog_1_method_28_code 22 = .ok (.isub, 1) := by decide +kernel
theorem d_w_forget_23 : decode prog_1_method_28_code 23 = .ok (.putfield 139, 3) := by decide +kernel
theorem d_w_forget_26 : decode prog_1_method_28_code 26 = .ok (.aload_n 0, 1) := by decide +kernel
theorem d_w_forget_27 : decode prog_1_method_28_code 27 = .ok (.getfield 45, 3) := by decide +kernel
theorem d_w_forget_30 : decode prog_1_method_28_code 30 = .ok (.getfield 139, 3) := by decide +kernel
theorem d_w_forget_33 : decode prog_1_method_28_code 33 = .ok (.ireturn, 1) := by decide +kernel
theorem d_w_forget_4 : decode prog_1_method_28_code 4 = .ok (.getfield 139, 3) := by decide +kernel
theorem d_w_forget_7 : decode prog_1_method_28_code 7 = .ok (.ifCond .gt 6, 3) := by decide +kernel
theorem d_w_fuse_0 : decode prog_1_method_2_code 0 = .ok (.iload_n 1, 1) := by decide +kernel
theorem d_w_fuse_1 : decode prog_1_method_2_code 1 = .ok (.iconst 0, 1) := by decide +kernel
theorem d_w_fuse_11 : decode prog_1_method_2_code 11 = .ok (.iload_n 2, 1) := by decide +kernel
theorem d_w_fuse_12 : decode prog_1_method_2_code 12 = .ok (.iconst 1, 1) := by decide +kernel
theorem d_w_fuse_13 : decode prog_1_method_2_code 13 = .ok (.bipush 99, 2) := by decide +kernel
theorem d_w_fuse_15 : decode prog_1_method_2_code 15 = .ok (.invokestatic 110, 3) := by decide +kernel
theorem d_w_fuse_18 : decode prog_1_method_2_code 18 = .ok (.ifCond .ne 6, 3) := by decide +kernel
theorem d_w_fuse_2 : decode prog_1_method_2_code 2 = .ok (.sipush 999, 3) := by decide +kernel
theorem d_w_fuse_21 : decode prog_1_method_2_code 21 = .ok (.bipush (-2), 2) := by decide +kernel
theorem d_w_fuse_23 : decode prog_1_method_2_code 23 = .ok (.ireturn, 1) := by decide +kernel
theorem d_w_fuse_24 : decode prog_1_method_2_code 24 = .ok (.aload_n 0, 1) := by decide +kernel
theorem d_w_fuse_25 : decode prog_1_method_2_code 25 = .ok (.getfield 114, 3) := by decide +kernel
theorem d_w_fuse_28 : decode prog_1_method_2_code 28 = .ok (.bipush 6, 2) := by decide +kernel
theorem d_w_fuse_30 : decode prog_1_method_2_code 30 = .ok (.if_icmp .lt 6, 3) := by decide +kernel
theorem d_w_fuse_33 : decode prog_1_method_2_code 33 = .ok (.bipush (-4), 2) := by decide +kernel
theorem d_w_fuse_35 : decode prog_1_method_2_code 35 = .ok (.ireturn, 1) := by decide +kernel
theorem d_w_fuse_36 : decode prog_1_method_2_code 36 = .ok (.aload_n 0, 1) := by decide +kernel
theorem d_w_fuse_37 : decode prog_1_method_2_code 37 = .ok (.getfield 11, 3) := by decide +kernel
theorem d_w_fuse_40 : decode prog_1_method_2_code 40 = .ok (.aload_n 0, 1) := by decide +kernel
theorem d_w_fuse_41 : decode prog_1_method_2_code 41 = .ok (.getfield 114, 3) := by decide +kernel
theorem d_w_fuse_44 : decode prog_1_method_2_code 44 = .ok (.aaload, 1) := by decide +kernel
theorem d_w_fuse_45 : decode prog_1_method_2_code 45 = .ok (.iload_n 1, 1) := by decide +kernel
theorem d_w_fuse_46 : decode prog_1_method_2_code 46 = .ok (.putfield 117, 3) := by decide +kernel
theorem d_w_fuse_49 : decode prog_1_method_2_code 49 = .ok (.aload_n 0, 1) := by decide +kernel
theorem d_w_fuse_5 : decode prog_1_method_2_code 5 = .ok (.invokestatic 110, 3) := by decide +kernel
theorem d_w_fuse_50 : decode prog_1_method_2_code 50 = .ok (.getfield 11, 3) := by decide +kernel
theorem d_w_fuse_53 : decode prog_1_method_2_code 53 = .ok (.aload_n 0, 1) := by decide +kernel
theorem d_w_fuse_54 : decode prog_1_method_2_code 54 = .ok (.getfield 114, 3) := by decide +kernel
theorem d_w_fuse_57 : decode prog_1_method_2_code 57 = .ok (.aaload, 1) := by decide +kernel
theorem d_w_fuse_58 : decode prog_1_method_2_code 58 = .ok (.iload_n 2, 1) := by decide +kernel
theorem d_w_fuse_59 : decode prog_1_method_2_code 59 = .ok (.putfield 120, 3) := by decide +kernel
theorem d_w_fuse_62 : decode prog_1_method_2_code 62 = .ok (.aload_n 0, 1) := by decide +kernel
theorem d_w_fuse_63 : decode prog_1_method_2_code 63 = .ok (.dup, 1) := by decide +kernel
theorem d_w_fuse_64 : decode prog_1_method_2_code 64 = .ok (.getfield 114, 3) := by decide +kernel
theorem d_w_fuse_67 : decode prog_1_method_2_code 67 = .ok (.iconst 1, 1) := by decide +kernel
theorem d_w_fuse_68 : decode prog_1_method_2_code 68 = .ok (.iadd, 1) := by decide +kernel
theorem d_w_fuse_69 : decode prog_1_method_2_code 69 = .ok (.putfield 114, 3) := by decide +kernel
theorem d_w_fuse_72 : decode prog_1_method_2_code 72 = .ok (.aload_n 0, 1) := by decide +kernel
theorem d_w_fuse_73 : decode prog_1_method_2_code 73 = .ok (.getfield 114, 3) := by decide +kernel
theorem d_w_fuse_76 : decode prog_1_method_2_code 76 = .ok (.iconst 1, 1) := by decide +kernel
theorem d_w_fuse_77 : decode prog_1_method_2_code 77 = .ok (.isub, 1) := by decide +kernel
theorem d_w_fuse_78 : decode prog_1_method_2_code 78 = .ok (.ireturn, 1) := by decide +kernel
theorem d_w_fuse_8 : decode prog_1_method_2_code 8 = .ok (.ifCond .eq 13, 3) := by decide +kernel
theorem d_w_gatherOthers_0 : decode prog_1_method_59_code 0 = .ok (.aload_n 0, 1) := by decide +kernel
theorem d_w_gatherOthers_1 : decode prog_1_method_59_code 1 = .ok (.getfield 69, 3) := by decide +kernel
theorem d_w_gatherOthers_10 : decode prog_1_method_59_code 10 = .ok (.aload_n 0, 1) := by decide +kernel
theorem d_w_gatherOthers_11 : decode prog_1_method_59_code 11 = .ok (.getfield 133, 3) := by decide +kernel
theorem d_w_gatherOthers_14 : decode prog_1_method_59_code 14 = .ok (.if_icmp .ge 64, 3) := by decide +kernel
theorem d_w_gatherOthers_17 : decode prog_1_method_59_code 17 = .ok (.iload_n 3, 1) := by decide +kernel
theorem d_w_gatherOthers_18 : decode prog_1_method_59_code 18 = .ok (.iload_n 2, 1) := by decide +kernel
theorem d_w_gatherOthers_19 : decode prog_1_method_59_code 19 = .ok (.if_icmp .eq 53, 3) := by decide +kernel
theorem d_w_gatherOthers_22 : decode prog_1_method_59_code 22 = .ok (.aload_n 0, 1) := by decide +kernel
theorem d_w_gatherOthers_23 : decode prog_1_method_59_code 23 = .ok (.getfield 17, 3) := by decide +kernel
theorem d_w_gatherOthers_26 : decode prog_1_method_59_code 26 = .ok (.iload_n 3, 1) := by decide +kernel
theorem d_w_gatherOthers_27 : decode prog_1_method_59_code 27 = .ok (.aaload, 1) := by decide +kernel
theorem d_w_gatherOthers_28 : decode prog_1_method_59_code 28 = .ok (.getfield 171, 3) := by decide +kernel
theorem d_w_gatherOthers_31 : decode prog_1_method_59_code 31 = .ok (.iload_n 1, 1) := by decide +kernel
theorem d_w_gatherOthers_32 : decode prog_1_method_59_code 32 = .ok (.if_icmp .ne 40, 3) := by decide +kernel
theorem d_w_gatherOthers_35 : decode prog_1_method_59_code 35 = .ok (.aload_n 0, 1) := by decide +kernel
theorem d_w_gatherOthers_36 : decode prog_1_method_59_code 36 = .ok (.getfield 69, 3) := by decide +kernel
theorem d_w_gatherOthers_39 : decode prog_1_method_59_code 39 = .ok (.aload_n 0, 1) := by decide +kernel
theorem d_w_gatherOthers_4 : decode prog_1_method_59_code 4 = .ok (.invokevirtual 337, 3) := by decide +kernel
theorem d_w_gatherOthers_40 : decode prog_1_method_59_code 40 = .ok (.getfield 17, 3) := by decide +kernel
theorem d_w_gatherOthers_43 : decode prog_1_method_59_code 43 = .ok (.iload_n 3, 1) := by decide +kernel
theorem d_w_gatherOthers_44 : decode prog_1_method_59_code 44 = .ok (.aaload, 1) := by decide +kernel
theorem d_w_gatherOthers_45 : decode prog_1_method_59_code 45 = .ok (.getfield 168, 3) := by decide +kernel
theorem d_w_gatherOthers_48 : decode prog_1_method_59_code 48 = .ok (.invokevirtual 351, 3) := by decide +kernel
theorem d_w_gatherOthers_51 : decode prog_1_method_59_code 51 = .ok (.ifCond .eq 5, 3) := by decide +kernel
theorem d_w_gatherOthers_54 : decode prog_1_method_59_code 54 = .ok (.iconst 0, 1) := by decide +kernel
theorem d_w_gatherOthers_55 : decode prog_1_method_59_code 55 = .ok (.ireturn, 1) := by decide +kernel
theorem d_w_gatherOthers_56 : decode prog_1_method_59_code 56 = .ok (.aload_n 0, 1) := by decide +kernel
theorem d_w_gatherOthers_57 : decode prog_1_method_59_code 57 = .ok (.getfield 69, 3) := by decide +kernel
theorem d_w_gatherOthers_60 : decode prog_1_method_59_code 60 = .ok (.aload_n 0, 1) := by decide +kernel
theorem d_w_gatherOthers_61 : decode prog_1_method_59_code 61 = .ok (.getfield 17, 3) := by decide +kernel
theorem d_w_gatherOthers_64 : decode prog_1_method_59_code 64 = .ok (.iload_n 3, 1) := by decide +kernel
theorem d_w_gatherOthers_65 : decode prog_1_method_59_code 65 = .ok (.aaload, 1) := by decide +kernel
theorem d_w_gatherOthers_66 : decode prog_1_method_59_code 66 = .ok (.getfield 168, 3) := by decide +kernel
theorem d_w_gatherOthers_69 : decode prog_1_method_59_code 69 = .ok (.invokevirtual 340, 3) := by decide +kernel
theorem d_w_gatherOthers_7 : decode prog_1_method_59_code 7 = .ok (.iconst 0, 1) := by decide +kernel
theorem d_w_gatherOthers_72 : decode prog_1_method_59_code 72 = .ok (.iinc 3 1, 3) := by decide +kernel
theorem d_w_gatherOthers_75 : decode prog_1_method_59_code 75 = .ok (.goto (-66), 3) := by decide +kernel
theorem d_w_gatherOthers_78 : decode prog_1_method_59_code 78 = .ok (.iconst 1, 1) := by decide +kernel
theorem d_w_gatherOthers_79 : decode prog_1_method_59_code 79 = .ok (.ireturn, 1) := by decide +kernel
theorem d_w_gatherOthers_8 : decode prog_1_method_59_code 8 = .ok (.istore_n 3, 1) := by decide +kernel
theorem d_w_gatherOthers_9 : decode prog_1_method_59_code 9 = .ok (.iload_n 3, 1) := by decide +kernel
theorem d_w_greatestKind_0 : decode prog_1_method_46_code 0 = .ok (.iconst 0, 1) := by decide +kernel
theorem d_w_greatestKind_1 : decode prog_1_method_46_code 1 = .ok (.istore_n 3, 1) := by decide +kernel
theorem d_w_greatestKind_10 : decode prog_1_method_46_code 10 = .ok (.aload_n 0, 1) := by decide +kernel
theorem d_w_greatestKind_11 : decode prog_1_method_46_code 11 = .ok (.getfield 136, 3) := by decide +kernel
theorem d_w_greatestKind_14 : decode prog_1_method_46_code 14 = .ok (.if_icmp .ge 49, 3) := by decide +kernel
theorem d_w_greatestKind_17 : decode prog_1_method_46_code 17 = .ok (.iload 4, 2) := by decide +kernel
theorem d_w_greatestKind_19 : decode prog_1_method_46_code 19 = .ok (.iload 5, 2) := by decide +kernel
theorem d_w_greatestKind_2 : decode prog_1_method_46_code 2 = .ok (.iload_n 2, 1) := by decide +kernel
theorem d_w_greatestKind_21 : decode prog_1_method_46_code 21 = .ok (.invokestatic 242, 3) := by decide +kernel
theorem d_w_greatestKind_24 : decode prog_1_method_46_code 24 = .ok (.ifCond .eq 33, 3) := by decide +kernel
theorem d_w_greatestKind_27 : decode prog_1_method_46_code 27 = .ok (.aload_n 0, 1) := by decide +kernel
theorem d_w_greatestKind_28 : decode prog_1_method_46_code 28 = .ok (.iload_n 1, 1) := by decide +kernel
theorem d_w_greatestKind_29 : decode prog_1_method_46_code 29 = .ok (.iload 5, 2) := by decide +kernel
theorem d_w_greatestKind_3 : decode prog_1_method_46_code 3 = .ok (.istore 4, 2) := by decide +kernel
theorem d_w_greatestKind_31 : decode prog_1_method_46_code 31 = .ok (.iload 4, 2) := by decide +kernel
theorem d_w_greatestKind_33 : decode prog_1_method_46_code 33 = .ok (.invokevirtual 324, 3) := by decide +kernel
theorem d_w_greatestKind_36 : decode prog_1_method_46_code 36 = .ok (.istore 6, 2) := by decide +kernel
theorem d_w_greatestKind_38 : decode prog_1_method_46_code 38 = .ok (.iload 4, 2) := by decide +kernel
theorem d_w_greatestKind_40 : decode prog_1_method_46_code 40 = .ok (.iload 6, 2) := by decide +kernel
theorem d_w_greatestKind_42 : decode prog_1_method_46_code 42 = .ok (.iconst (-1), 1) := by decide +kernel
theorem d_w_greatestKind_43 : decode prog_1_method_46_code 43 = .ok (.ixor, 1) := by decide +kernel
theorem d_w_greatestKind_44 : decode prog_1_method_46_code 44 = .ok (.iand, 1) := by decide +kernel
theorem d_w_greatestKind_45 : decode prog_1_method_46_code 45 = .ok (.istore 4, 2) := by decide +kernel
theorem d_w_greatestKind_47 : decode prog_1_method_46_code 47 = .ok (.iload_n 3, 1) := by decide +kernel
theorem d_w_greatestKind_48 : decode prog_1_method_46_code 48 = .ok (.iload 6, 2) := by decide +kernel
theorem d_w_greatestKind_5 : decode prog_1_method_46_code 5 = .ok (.iconst 0, 1) := by decide +kernel
theorem d_w_greatestKind_50 : decode prog_1_method_46_code 50 = .ok (.invokestatic 316, 3) := by decide +kernel
theorem d_w_greatestKind_53 : decode prog_1_method_46_code 53 = .ok (.invokestatic 248, 3) := by decide +kernel
theorem d_w_greatestKind_56 : decode prog_1_method_46_code 56 = .ok (.istore_n 3, 1) := by decide +kernel
theorem d_w_greatestKind_57 : decode prog_1_method_46_code 57 = .ok (.iinc 5 1, 3) := by decide +kernel
theorem d_w_greatestKind_6 : decode prog_1_method_46_code 6 = .ok (.istore 5, 2) := by decide +kernel
theorem d_w_greatestKind_60 : decode prog_1_method_46_code 60 = .ok (.goto (-52), 3) := by decide +kernel
theorem d_w_greatestKind_63 : decode prog_1_method_46_code 63 = .ok (.iload_n 3, 1) := by decide +kernel
theorem d_w_greatestKind_64 : decode prog_1_method_46_code 64 = .ok (.ireturn, 1) := by decide +kernel
theorem d_w_greatestKind_8 : decode prog_1_method_46_code 8 = .ok (.iload 5, 2) := by decide +kernel
theorem d_w_grey_0 : decode prog_1_method_50_code 0 = .ok (.aload_n 0, 1) := by decide +kernel
theorem d_w_grey_1 : decode prog_1_method_50_code 1 = .ok (.invokevirtual 297, 3) := by decide +kernel
theorem d_w_grey_10 : decode prog_1_method_50_code 10 = .ok (.aload_n 0, 1) := by decide +kernel
theorem d_w_grey_11 : decode prog_1_method_50_code 11 = .ok (.getfield 133, 3) := by decide +kernel
theorem d_w_grey_14 : decode prog_1_method_50_code 14 = .ok (.if_icmp .ge 25, 3) := by decide +kernel
theorem d_w_grey_17 : decode prog_1_method_50_code 17 = .ok (.aload_n 0, 1) := by decide +kernel
theorem d_w_grey_18 : decode prog_1_method_50_code 18 = .ok (.iload_n 3, 1) := by decide +kernel
theorem d_w_grey_19 : decode prog_1_method_50_code 19 = .ok (.iload_n 1, 1) := by decide +kernel
theorem d_w_grey_20 : decode prog_1_method_50_code 20 = .ok (.invokevirtual 331, 3) := by decide +kernel
theorem d_w_grey_23 : decode prog_1_method_50_code 23 = .ok (.iconst (-1), 1) := by decide +kernel
theorem d_w_grey_24 : decode prog_1_method_50_code 24 = .ok (.if_icmp .ne 9, 3) := by decide +kernel
theorem d_w_grey_27 : decode prog_1_method_50_code 27 = .ok (.iload_n 2, 1) := by decide +kernel
theorem d_w_grey_28 : decode prog_1_method_50_code 28 = .ok (.iconst 1, 1) := by decide +kernel
theorem d_w_grey_29 : decode prog_1_method_50_code 29 = .ok (.iload_n 3, 1) := by decide +kernel
theorem d_w_grey_30 : decode prog_1_method_50_code 30 = .ok (.ishl, 1) := by decide +kernel
theorem d_w_grey_31 : decode prog_1_method_50_code 31 = .ok (.ior, 1) := by decide +kernel
theorem d_w_grey_32 : decode prog_1_method_50_code 32 = .ok (.istore_n 2, 1) := by decide +kernel
theorem d_w_grey_33 : decode prog_1_method_50_code 33 = .ok (.iinc 3 1, 3) := by decide +kernel
theorem d_w_grey_36 : decode prog_1_method_50_code 36 = .ok (.goto (-27), 3) := by decide +kernel
theorem d_w_grey_39 : decode prog_1_method_50_code 39 = .ok (.iload_n 2, 1) := by decide +kernel
theorem d_w_grey_4 : decode prog_1_method_50_code 4 = .ok (.istore_n 1, 1) := by decide +kernel
theorem d_w_grey_40 : decode prog_1_method_50_code 40 = .ok (.ireturn, 1) := by decide +kernel
theorem d_w_grey_5 : decode prog_1_method_50_code 5 = .ok (.iconst 0, 1) := by decide +kernel
theorem d_w_grey_6 : decode prog_1_method_50_code 6 = .ok (.istore_n 2, 1) := by decide +kernel
theorem d_w_grey_7 : decode prog_1_method_50_code 7 = .ok (.iconst 0, 1) := by decide +kernel
theorem d_w_grey_8 : decode prog_1_method_50_code 8 = .ok (.istore_n 3, 1) := by decide +kernel
theorem d_w_grey_9 : decode prog_1_method_50_code 9 = .ok (.iload_n 3, 1) := by decide +kernel
theorem d_w_has_0 : decode prog_1_method_95_code 0 = .ok (.iload_n 0, 1) := by decide +kernel
theorem d_w_has_1 : decode prog_1_method_95_code 1 = .ok (.iload_n 1, 1) := by decide +kernel
theorem d_w_has_12 : decode prog_1_method_95_code 12 = .ok (.iconst 0, 1) := by decide +kernel
theorem d_w_has_13 : decode prog_1_method_95_code 13 = .ok (.ireturn, 1) := by decide +kernel
theorem d_w_has_2 : decode prog_1_method_95_code 2 = .ok (.iushr, 1) := by decide +kernel
theorem d_w_has_3 : decode prog_1_method_95_code 3 = .ok (.iconst 1, 1) := by decide +kernel
theorem d_w_has_4 : decode prog_1_method_95_code 4 = .ok (.iand, 1) := by decide +kernel
theorem d_w_has_5 : decode prog_1_method_95_code 5 = .ok (.ifCond .eq 7, 3) := by decide +kernel
theorem d_w_has_8 : decode prog_1_method_95_code 8 = .ok (.iconst 1, 1) := by decide +kernel
theorem d_w_has_9 : decode prog_1_method_95_code 9 = .ok (.goto 4, 3) := by decide +kernel
theorem d_w_house_0 : decode prog_1_method_14_code 0 = .ok (.aload_n 0, 1) := by decide +kernel
theorem d_w_house_1 : decode prog_1_method_14_code 1 = .ok (.iload_n 1, 1) := by decide +kernel
theorem d_w_house_10 : decode prog_1_method_14_code 10 = .ok (.iload_n 2, 1) := by decide +kernel
theorem d_w_house_11 : decode prog_1_method_14_code 11 = .ok (.ireturn, 1) := by decide +kernel
theorem d_w_house_12 : decode prog_1_method_14_code 12 = .ok (.aload_n 0, 1) := by decide +kernel
theorem d_w_house_13 : decode prog_1_method_14_code 13 = .ok (.getfield 136, 3) := by decide +kernel
theorem d_w_house_16 : decode prog_1_method_14_code 16 = .ok (.bipush 12, 2) := by decide +kernel
theorem d_w_house_18 : decode prog_1_method_14_code 18 = .ok (.if_icmp .lt 6, 3) := by decide +kernel
theorem d_w_house_2 : decode prog_1_method_14_code 2 = .ok (.invokevirtual 199, 3) := by decide +kernel
theorem d_w_house_21 : decode prog_1_method_14_code 21 = .ok (.bipush (-4), 2) := by decide +kernel
theorem d_w_house_23 : decode prog_1_method_14_code 23 = .ok (.ireturn, 1) := by decide +kernel
theorem d_w_house_24 : decode prog_1_method_14_code 24 = .ok (.aload_n 0, 1) := by decide +kernel
theorem d_w_house_25 : decode prog_1_method_14_code 25 = .ok (.getfield 23, 3) := by decide +kernel
theorem d_w_house_28 : decode prog_1_method_14_code 28 = .ok (.aload_n 0, 1) := by decide +kernel
theorem d_w_house_29 : decode prog_1_method_14_code 29 = .ok (.getfield 136, 3) := by decide +kernel
theorem d_w_house_32 : decode prog_1_method_14_code 32 = .ok (.aaload, 1) := by decide +kernel
theorem d_w_house_33 : decode prog_1_method_14_code 33 = .ok (.aload_n 0, 1) := by decide +kernel
theorem d_w_house_34 : decode prog_1_method_14_code 34 = .ok (.getfield 38, 3) := by decide +kernel
theorem d_w_house_37 : decode prog_1_method_14_code 37 = .ok (.iload_n 1, 1) := by decide +kernel
theorem d_w_house_38 : decode prog_1_method_14_code 38 = .ok (.aaload, 1) := by decide +kernel
theorem d_w_house_39 : decode prog_1_method_14_code 39 = .ok (.aload_n 0, 1) := by decide +kernel
theorem d_w_house_40 : decode prog_1_method_14_code 40 = .ok (.getfield 133, 3) := by decide +kernel
theorem d_w_house_43 : decode prog_1_method_14_code 43 = .ok (.invokevirtual 202, 3) := by decide +kernel
theorem d_w_house_46 : decode prog_1_method_14_code 46 = .ok (.aload_n 0, 1) := by decide +kernel
theorem d_w_house_47 : decode prog_1_method_14_code 47 = .ok (.dup, 1) := by decide +kernel
theorem d_w_house_48 : decode prog_1_method_14_code 48 = .ok (.getfield 136, 3) := by decide +kernel
theorem d_w_house_5 : decode prog_1_method_14_code 5 = .ok (.istore_n 2, 1) := by decide +kernel
theorem d_w_house_51 : decode prog_1_method_14_code 51 = .ok (.iconst 1, 1) := by decide +kernel
theorem d_w_house_52 : decode prog_1_method_14_code 52 = .ok (.iadd, 1) := by decide +kernel
theorem d_w_house_53 : decode prog_1_method_14_code 53 = .ok (.putfield 136, 3) := by decide +kernel
theorem d_w_house_56 : decode prog_1_method_14_code 56 = .ok (.aload_n 0, 1) := by decide +kernel
theorem d_w_house_57 : decode prog_1_method_14_code 57 = .ok (.getfield 136, 3) := by decide +kernel
theorem d_w_house_6 : decode prog_1_method_14_code 6 = .ok (.iload_n 2, 1) := by decide +kernel
theorem d_w_house_60 : decode prog_1_method_14_code 60 = .ok (.iconst 1, 1) := by decide +kernel
theorem d_w_house_61 : decode prog_1_method_14_code 61 = .ok (.isub, 1) := by decide +kernel
theorem d_w_house_62 : decode prog_1_method_14_code 62 = .ok (.ireturn, 1) := by decide +kernel
theorem d_w_house_7 : decode prog_1_method_14_code 7 = .ok (.ifCond .eq 5, 3) := by decide +kernel
theorem d_w_housesFeeding_0 : decode prog_1_method_55_code 0 = .ok (.iconst 0, 1) := by decide +kernel
theorem d_w_housesFeeding_1 : decode prog_1_method_55_code 1 = .ok (.istore 4, 2) := by decide +kernel
theorem d_w_housesFeeding_12 : decode prog_1_method_55_code 12 = .ok (.if_icmp .ge 41, 3) := by decide +kernel
theorem d_w_housesFeeding_15 : decode prog_1_method_55_code 15 = .ok (.iload_n 3, 1) := by decide +kernel
theorem d_w_housesFeeding_16 : decode prog_1_method_55_code 16 = .ok (.iload 5, 2) := by decide +kernel
theorem d_w_housesFeeding_18 : decode prog_1_method_55_code 18 = .ok (.invokestatic 242, 3) := by decide +kernel
theorem d_w_housesFeeding_21 : decode prog_1_method_55_code 21 = .ok (.ifCond .eq 26, 3) := by decide +kernel
theorem d_w_housesFeeding_24 : decode prog_1_method_55_code 24 = .ok (.aload_n 0, 1) := by decide +kernel
theorem d_w_housesFeeding_25 : decode prog_1_method_55_code 25 = .ok (.iload 5, 2) := by decide +kernel
theorem d_w_housesFeeding_27 : decode prog_1_method_55_code 27 = .ok (.iload_n 2, 1) := by decide +kernel
theorem d_w_housesFeeding_28 : decode prog_1_method_55_code 28 = .ok (.invokevirtual 233, 3) := by decide +kernel
theorem d_w_housesFeeding_3 : decode prog_1_method_55_code 3 = .ok (.iconst 0, 1) := by decide +kernel
theorem d_w_housesFeeding_31 : decode prog_1_method_55_code 31 = .ok (.iload_n 1, 1) := by decide +kernel
theorem d_w_housesFeeding_32 : decode prog_1_method_55_code 32 = .ok (.invokestatic 242, 3) := by decide +kernel
theorem d_w_housesFeeding_35 : decode prog_1_method_55_code 35 = .ok (.ifCond .eq 12, 3) := by decide +kernel
theorem d_w_housesFeeding_38 : decode prog_1_method_55_code 38 = .ok (.iload 4, 2) := by decide +kernel
theorem d_w_housesFeeding_4 : decode prog_1_method_55_code 4 = .ok (.istore 5, 2) := by decide +kernel
theorem d_w_housesFeeding_40 : decode prog_1_method_55_code 40 = .ok (.iconst 1, 1) := by decide +kernel
theorem d_w_housesFeeding_41 : decode prog_1_method_55_code 41 = .ok (.iload 5, 2) := by decide +kernel
theorem d_w_housesFeeding_43 : decode prog_1_method_55_code 43 = .ok (.ishl, 1) := by decide +kernel
theorem d_w_housesFeeding_44 : decode prog_1_method_55_code 44 = .ok (.ior, 1) := by decide +kernel
theorem d_w_housesFeeding_45 : decode prog_1_method_55_code 45 = .ok (.istore 4, 2) := by decide +kernel
theorem d_w_housesFeeding_47 : decode prog_1_method_55_code 47 = .ok (.iinc 5 1, 3) := by decide +kernel
theorem d_w_housesFeeding_50 : decode prog_1_method_55_code 50 = .ok (.goto (-44), 3) := by decide +kernel
theorem d_w_housesFeeding_53 : decode prog_1_method_55_code 53 = .ok (.iload 4, 2) := by decide +kernel
theorem d_w_housesFeeding_55 : decode prog_1_method_55_code 55 = .ok (.ireturn, 1) := by decide +kernel
theorem d_w_housesFeeding_6 : decode prog_1_method_55_code 6 = .ok (.iload 5, 2) := by decide +kernel
theorem d_w_housesFeeding_8 : decode prog_1_method_55_code 8 = .ok (.aload_n 0, 1) := by decide +kernel
theorem d_w_housesFeeding_9 : decode prog_1_method_55_code 9 = .ok (.getfield 136, 3) := by decide +kernel
theorem d_w_housesShowing_0 : decode prog_1_method_42_code 0 = .ok (.aload_n 0, 1) := by decide +kernel
theorem d_w_housesShowing_1 : decode prog_1_method_42_code 1 = .ok (.aload_n 1, 1) := by decide +kernel
theorem d_w_housesShowing_12 : decode prog_1_method_42_code 12 = .ok (.istore_n 2, 1) := by decide +kernel
theorem d_w_housesShowing_13 : decode prog_1_method_42_code 13 = .ok (.aload_n 0, 1) := by decide +kernel
theorem d_w_housesShowing_14 : decode prog_1_method_42_code 14 = .ok (.aload_n 1, 1) := by decide +kernel
theorem d_w_housesShowing_15 : decode prog_1_method_42_code 15 = .ok (.getfield 284, 3) := by decide +kernel
theorem d_w_housesShowing_18 : decode prog_1_method_42_code 18 = .ok (.invokevirtual 263, 3) := by decide +kernel
theorem d_w_housesShowing_2 : decode prog_1_method_42_code 2 = .ok (.getfield 278, 3) := by decide +kernel
theorem d_w_housesShowing_21 : decode prog_1_method_42_code 21 = .ok (.istore_n 3, 1) := by decide +kernel
theorem d_w_housesShowing_22 : decode prog_1_method_42_code 22 = .ok (.iconst 0, 1) := by decide +kernel
theorem d_w_housesShowing_23 : decode prog_1_method_42_code 23 = .ok (.istore 4, 2) := by decide +kernel
theorem d_w_housesShowing_25 : decode prog_1_method_42_code 25 = .ok (.iconst 0, 1) := by decide +kernel
theorem d_w_housesShowing_26 : decode prog_1_method_42_code 26 = .ok (.istore 5, 2) := by decide +kernel
theorem d_w_housesShowing_28 : decode prog_1_method_42_code 28 = .ok (.iload 5, 2) := by decide +kernel
theorem d_w_housesShowing_30 : decode prog_1_method_42_code 30 = .ok (.aload_n 0, 1) := by decide +kernel
theorem d_w_housesShowing_31 : decode prog_1_method_42_code 31 = .ok (.getfield 136, 3) := by decide +kernel
theorem d_w_housesShowing_34 : decode prog_1_method_42_code 34 = .ok (.if_icmp .ge 40, 3) := by decide +kernel
theorem d_w_housesShowing_37 : decode prog_1_method_42_code 37 = .ok (.aload_n 0, 1) := by decide +kernel
theorem d_w_housesShowing_38 : decode prog_1_method_42_code 38 = .ok (.iload 5, 2) := by decide +kernel
theorem d_w_housesShowing_40 : decode prog_1_method_42_code 40 = .ok (.aload_n 1, 1) := by decide +kernel
theorem d_w_housesShowing_41 : decode prog_1_method_42_code 41 = .ok (.getfield 273, 3) := by decide +kernel
theorem d_w_housesShowing_44 : decode prog_1_method_42_code 44 = .ok (.invokevirtual 233, 3) := by decide +kernel
theorem d_w_housesShowing_47 : decode prog_1_method_42_code 47 = .ok (.iload_n 2, 1) := by decide +kernel
theorem d_w_housesShowing_48 : decode prog_1_method_42_code 48 = .ok (.iand, 1) := by decide +kernel
theorem d_w_housesShowing_49 : decode prog_1_method_42_code 49 = .ok (.aload_n 1, 1) := by decide +kernel
theorem d_w_housesShowing_5 : decode prog_1_method_42_code 5 = .ok (.aload_n 1, 1) := by decide +kernel
theorem d_w_housesShowing_50 : decode prog_1_method_42_code 50 = .ok (.getfield 287, 3) := by decide +kernel
theorem d_w_housesShowing_53 : decode prog_1_method_42_code 53 = .ok (.ixor, 1) := by decide +kernel
theorem d_w_housesShowing_54 : decode prog_1_method_42_code 54 = .ok (.iload_n 3, 1) := by decide +kernel
theorem d_w_housesShowing_55 : decode prog_1_method_42_code 55 = .ok (.iand, 1) := by decide +kernel
theorem d_w_housesShowing_56 : decode prog_1_method_42_code 56 = .ok (.ifCond .ne 12, 3) := by decide +kernel
theorem d_w_housesShowing_59 : decode prog_1_method_42_code 59 = .ok (.iload 4, 2) := by decide +kernel
theorem d_w_housesShowing_6 : decode prog_1_method_42_code 6 = .ok (.getfield 281, 3) := by decide +kernel
theorem d_w_housesShowing_61 : decode prog_1_method_42_code 61 = .ok (.iconst 1, 1) := by decide +kernel
theorem d_w_housesShowing_62 : decode prog_1_method_42_code 62 = .ok (.iload 5, 2) := by decide +kernel
theorem d_w_housesShowing_64 : decode prog_1_method_42_code 64 = .ok (.ishl, 1) := by decide +kernel
theorem d_w_housesShowing_65 : decode prog_1_method_42_code 65 = .ok (.ior, 1) := by decide +kernel
theorem d_w_housesShowing_66 : decode prog_1_method_42_code 66 = .ok (.istore 4, 2) := by decide +kernel
theorem d_w_housesShowing_68 : decode prog_1_method_42_code 68 = .ok (.iinc 5 1, 3) := by decide +kernel
theorem d_w_housesShowing_71 : decode prog_1_method_42_code 71 = .ok (.goto (-43), 3) := by decide +kernel
theorem d_w_housesShowing_74 : decode prog_1_method_42_code 74 = .ok (.iload 4, 2) := by decide +kernel
theorem d_w_housesShowing_76 : decode prog_1_method_42_code 76 = .ok (.ireturn, 1) := by decide +kernel
theorem d_w_housesShowing_9 : decode prog_1_method_42_code 9 = .ok (.invokevirtual 236, 3) := by decide +kernel
theorem d_w_image_0 : decode prog_1_method_79_code 0 = .ok (.aload_n 0, 1) := by decide +kernel
theorem d_w_image_1 : decode prog_1_method_79_code 1 = .ok (.getfield 49, 3) := by decide +kernel
theorem d_w_image_11 : decode prog_1_method_79_code 11 = .ok (.aload_n 0, 1) := by decide +kernel
theorem d_w_image_12 : decode prog_1_method_79_code 12 = .ok (.iconst 1, 1) := by decide +kernel
theorem d_w_image_13 : decode prog_1_method_79_code 13 = .ok (.putfield 411, 3) := by decide +kernel
theorem d_w_image_16 : decode prog_1_method_79_code 16 = .ok (.aload_n 0, 1) := by decide +kernel
theorem d_w_image_17 : decode prog_1_method_79_code 17 = .ok (.getfield 45, 3) := by decide +kernel
theorem d_w_image_20 : decode prog_1_method_79_code 20 = .ok (.getfield 139, 3) := by decide +kernel
theorem d_w_image_23 : decode prog_1_method_79_code 23 = .ok (.ireturn, 1) := by decide +kernel
theorem d_w_image_4 : decode prog_1_method_79_code 4 = .ok (.aload_n 0, 1) := by decide +kernel
theorem d_w_image_5 : decode prog_1_method_79_code 5 = .ok (.getfield 45, 3) := by decide +kernel
theorem d_w_image_8 : decode prog_1_method_79_code 8 = .ok (.invokevirtual 408, 3) := by decide +kernel
theorem d_w_init_0 : decode prog_1_method_1_code 0 = .ok (.aload_n 0, 1) := by decide +kernel
theorem d_w_init_1 : decode prog_1_method_1_code 1 = .ok (.invokespecial 3, 3) := by decide +kernel
theorem d_w_init_10 : decode prog_1_method_1_code 10 = .ok (.putfield 11, 3) := by decide +kernel
theorem d_w_init_100 : decode prog_1_method_1_code 100 = .ok (.aload_n 0, 1) := by decide +kernel
theorem d_w_init_101 : decode prog_1_method_1_code 101 = .ok (.new 66, 3) := by decide +kernel
theorem d_w_init_104 : decode prog_1_method_1_code 104 = .ok (.dup, 1) := by decide +kernel
theorem d_w_init_105 : decode prog_1_method_1_code 105 = .ok (.invokespecial 68, 3) := by decide +kernel
theorem d_w_init_108 : decode prog_1_method_1_code 108 = .ok (.putfield 69, 3) := by decide +kernel
theorem d_w_init_111 : decode prog_1_method_1_code 111 = .ok (.aload_n 0, 1) := by decide +kernel
theorem d_w_init_112 : decode prog_1_method_1_code 112 = .ok (.sipush 768, 3) := by decide +kernel
theorem d_w_init_115 : decode prog_1_method_1_code 115 = .ok (.newarray .int, 2) := by decide +kernel
theorem d_w_init_117 : decode prog_1_method_1_code 117 = .ok (.putfield 73, 3) := by decide +kernel
theorem d_w_init_120 : decode prog_1_method_1_code 120 = .ok (.aload_n 0, 1) := by decide +kernel
theorem d_w_init_121 : decode prog_1_method_1_code 121 = .ok (.bipush 110, 2) := by decide +kernel
theorem d_w_init_123 : decode prog_1_method_1_code 123 = .ok (.newarray .int, 2) := by decide +kernel
theorem d_w_init_125 : decode prog_1_method_1_code 125 = .ok (.putfield 77, 3) := by decide +kernel
theorem d_w_init_128 : decode prog_1_method_1_code 128 = .ok (.iconst 0, 1) := by decide +kernel
theorem d_w_init_129 : decode prog_1_method_1_code 129 = .ok (.istore_n 1, 1) := by decide +kernel
theorem d_w_init_13 : decode prog_1_method_1_code 13 = .ok (.aload_n 0, 1) := by decide +kernel
theorem d_w_init_130 : decode prog_1_method_1_code 130 = .ok (.iload_n 1, 1) := by decide +kernel
theorem d_w_init_131 : decode prog_1_method_1_code 131 = .ok (.bipush 6, 2) := by decide +kernel
theorem d_w_init_133 : decode prog_1_method_1_code 133 = .ok (.if_icmp .ge 22, 3) := by decide +kernel
theorem d_w_init_136 : decode prog_1_method_1_code 136 = .ok (.aload_n 0, 1) := by decide +kernel
theorem d_w_init_137 : decode prog_1_method_1_code 137 = .ok (.getfield 11, 3) := by decide +kernel
theorem d_w_init_14 : decode prog_1_method_1_code 14 = .ok (.bipush 10, 2) := by decide +kernel
theorem d_w_init_140 : decode prog_1_method_1_code 140 = .ok (.iload_n 1, 1) := by decide +kernel
theorem d_w_init_141 : decode prog_1_method_1_code 141 = .ok (.new 9, 3) := by decide +kernel
theorem d_w_init_144 : decode prog_1_method_1_code 144 = .ok (.dup, 1) := by decide +kernel
theorem d_w_init_145 : decode prog_1_method_1_code 145 = .ok (.invokespecial 80, 3) := by decide +kernel
theorem d_w_init_148 : decode prog_1_method_1_code 148 = .ok (.aastore, 1) := by decide +kernel
theorem d_w_init_149 : decode prog_1_method_1_code 149 = .ok (.iinc 1 1, 3) := by decide +kernel
theorem d_w_init_152 : decode prog_1_method_1_code 152 = .ok (.goto (-22), 3) := by decide +kernel
theorem d_w_init_155 : decode prog_1_method_1_code 155 = .ok (.iconst 0, 1) := by decide +kernel
theorem d_w_init_156 : decode prog_1_method_1_code 156 = .ok (.istore_n 1, 1) := by decide +kernel
theorem d_w_init_157 : decode prog_1_method_1_code 157 = .ok (.iload_n 1, 1) := by decide +kernel
theorem d_w_init_158 : decode prog_1_method_1_code 158 = .ok (.bipush 10, 2) := by decide +kernel
theorem d_w_init_16 : decode prog_1_method_1_code 16 = .ok (.anewarray 15, 3) := by decide +kernel
theorem d_w_init_160 : decode prog_1_method_1_code 160 = .ok (.if_icmp .ge 22, 3) := by decide +kernel
theorem d_w_init_163 : decode prog_1_method_1_code 163 = .ok (.aload_n 0, 1) := by decide +kernel
theorem d_w_init_164 : decode prog_1_method_1_code 164 = .ok (.getfield 17, 3) := by decide +kernel
theorem d_w_init_167 : decode prog_1_method_1_code 167 = .ok (.iload_n 1, 1) := by decide +kernel
theorem d_w_init_168 : decode prog_1_method_1_code 168 = .ok (.new 15, 3) := by decide +kernel
theorem d_w_init_171 : decode prog_1_method_1_code 171 = .ok (.dup, 1) := by decide +kernel
theorem d_w_init_172 : decode prog_1_method_1_code 172 = .ok (.invokespecial 81, 3) := by decide +kernel
theorem d_w_init_175 : decode prog_1_method_1_code 175 = .ok (.aastore, 1) := by decide +kernel
theorem d_w_init_176 : decode prog_1_method_1_code 176 = .ok (.iinc 1 1, 3) := by decide +kernel
theorem d_w_init_179 : decode prog_1_method_1_code 179 = .ok (.goto (-22), 3) := by decide +kernel
theorem d_w_init_182 : decode prog_1_method_1_code 182 = .ok (.iconst 0, 1) := by decide +kernel
theorem d_w_init_183 : decode prog_1_method_1_code 183 = .ok (.istore_n 1, 1) := by decide +kernel
theorem d_w_init_184 : decode prog_1_method_1_code 184 = .ok (.iload_n 1, 1) := by decide +kernel
theorem d_w_init_185 : decode prog_1_method_1_code 185 = .ok (.bipush 12, 2) := by decide +kernel
theorem d_w_init_187 : decode prog_1_method_1_code 187 = .ok (.if_icmp .ge 22, 3) := by decide +kernel
theorem d_w_init_19 : decode prog_1_method_1_code 19 = .ok (.putfield 17, 3) := by decide +kernel
theorem d_w_init_190 : decode prog_1_method_1_code 190 = .ok (.aload_n 0, 1) := by decide +kernel
theorem d_w_init_191 : decode prog_1_method_1_code 191 = .ok (.getfield 23, 3) := by decide +kernel
theorem d_w_init_194 : decode prog_1_method_1_code 194 = .ok (.iload_n 1, 1) := by decide +kernel
theorem d_w_init_195 : decode prog_1_method_1_code 195 = .ok (.new 21, 3) := by decide +kernel
theorem d_w_init_198 : decode prog_1_method_1_code 198 = .ok (.dup, 1) := by decide +kernel
theorem d_w_init_199 : decode prog_1_method_1_code 199 = .ok (.invokespecial 82, 3) := by decide +kernel
theorem d_w_init_202 : decode prog_1_method_1_code 202 = .ok (.aastore, 1) := by decide +kernel
theorem d_w_init_203 : decode prog_1_method_1_code 203 = .ok (.iinc 1 1, 3) := by decide +kernel
theorem d_w_init_206 : decode prog_1_method_1_code 206 = .ok (.goto (-22), 3) := by decide +kernel
theorem d_w_init_209 : decode prog_1_method_1_code 209 = .ok (.iconst 0, 1) := by decide +kernel
theorem d_w_init_210 : decode prog_1_method_1_code 210 = .ok (.istore_n 1, 1) := by decide +kernel
theorem d_w_init_211 : decode prog_1_method_1_code 211 = .ok (.iload_n 1, 1) := by decide +kernel
theorem d_w_init_212 : decode prog_1_method_1_code 212 = .ok (.iconst 4, 1) := by decide +kernel
theorem d_w_init_213 : decode prog_1_method_1_code 213 = .ok (.if_icmp .ge 22, 3) := by decide +kernel
theorem d_w_init_216 : decode prog_1_method_1_code 216 = .ok (.aload_n 0, 1) := by decide +kernel
theorem d_w_init_217 : decode prog_1_method_1_code 217 = .ok (.getfield 27, 3) := by decide +kernel
theorem d_w_init_22 : decode prog_1_method_1_code 22 = .ok (.aload_n 0, 1) := by decide +kernel
theorem d_w_init_220 : decode prog_1_method_1_code 220 = .ok (.iload_n 1, 1) := by decide +kernel
theorem d_w_init_221 : decode prog_1_method_1_code 221 = .ok (.new 21, 3) := by decide +kernel
theorem d_w_init_224 : decode prog_1_method_1_code 224 = .ok (.dup, 1) := by decide +kernel
theorem d_w_init_225 : decode prog_1_method_1_code 225 = .ok (.invokespecial 82, 3) := by decide +kernel
theorem d_w_init_228 : decode prog_1_method_1_code 228 = .ok (.aastore, 1) := by decide +kernel
theorem d_w_init_229 : decode prog_1_method_1_code 229 = .ok (.iinc 1 1, 3) := by decide +kernel
theorem d_w_init_23 : decode prog_1_method_1_code 23 = .ok (.bipush 12, 2) := by decide +kernel
theorem d_w_init_232 : decode prog_1_method_1_code 232 = .ok (.goto (-21), 3) := by decide +kernel
theorem d_w_init_235 : decode prog_1_method_1_code 235 = .ok (.iconst 0, 1) := by decide +kernel
theorem d_w_init_236 : decode prog_1_method_1_code 236 = .ok (.istore_n 1, 1) := by decide +kernel
theorem d_w_init_237 : decode prog_1_method_1_code 237 = .ok (.iload_n 1, 1) := by decide +kernel
theorem d_w_init_238 : decode prog_1_method_1_code 238 = .ok (.bipush 6, 2) := by decide +kernel
theorem d_w_init_240 : decode prog_1_method_1_code 240 = .ok (.if_icmp .ge 22, 3) := by decide +kernel
theorem d_w_init_243 : decode prog_1_method_1_code 243 = .ok (.aload_n 0, 1) := by decide +kernel
theorem d_w_init_244 : decode prog_1_method_1_code 244 = .ok (.getfield 32, 3) := by decide +kernel
theorem d_w_init_247 : decode prog_1_method_1_code 247 = .ok (.iload_n 1, 1) := by decide +kernel
theorem d_w_init_248 : decode prog_1_method_1_code 248 = .ok (.new 30, 3) := by decide +kernel
theorem d_w_init_25 : decode prog_1_method_1_code 25 = .ok (.anewarray 21, 3) := by decide +kernel
theorem d_w_init_251 : decode prog_1_method_1_code 251 = .ok (.dup, 1) := by decide +kernel
theorem d_w_init_252 : decode prog_1_method_1_code 252 = .ok (.invokespecial 83, 3) := by decide +kernel
theorem d_w_init_255 : decode prog_1_method_1_code 255 = .ok (.aastore, 1) := by decide +kernel
theorem d_w_init_256 : decode prog_1_method_1_code 256 = .ok (.iinc 1 1, 3) := by decide +kernel
theorem d_w_init_259 : decode prog_1_method_1_code 259 = .ok (.goto (-22), 3) := by decide +kernel
theorem d_w_init_262 : decode prog_1_method_1_code 262 = .ok (.iconst 0, 1) := by decide +kernel
theorem d_w_init_263 : decode prog_1_method_1_code 263 = .ok (.istore_n 1, 1) := by decide +kernel
theorem d_w_init_264 : decode prog_1_method_1_code 264 = .ok (.iload_n 1, 1) := by decide +kernel
theorem d_w_init_265 : decode prog_1_method_1_code 265 = .ok (.iconst 4, 1) := by decide +kernel
theorem d_w_init_266 : decode prog_1_method_1_code 266 = .ok (.if_icmp .ge 22, 3) := by decide +kernel
theorem d_w_init_269 : decode prog_1_method_1_code 269 = .ok (.aload_n 0, 1) := by decide +kernel
theorem d_w_init_270 : decode prog_1_method_1_code 270 = .ok (.getfield 38, 3) := by decide +kernel
theorem d_w_init_273 : decode prog_1_method_1_code 273 = .ok (.iload_n 1, 1) := by decide +kernel
theorem d_w_init_274 : decode prog_1_method_1_code 274 = .ok (.new 36, 3) := by decide +kernel
theorem d_w_init_277 : decode prog_1_method_1_code 277 = .ok (.dup, 1) := by decide +kernel
theorem d_w_init_278 : decode prog_1_method_1_code 278 = .ok (.invokespecial 84, 3) := by decide +kernel
theorem d_w_init_28 : decode prog_1_method_1_code 28 = .ok (.putfield 23, 3) := by decide +kernel
theorem d_w_init_281 : decode prog_1_method_1_code 281 = .ok (.aastore, 1) := by decide +kernel
theorem d_w_init_282 : decode prog_1_method_1_code 282 = .ok (.iinc 1 1, 3) := by decide +kernel
theorem d_w_init_285 : decode prog_1_method_1_code 285 = .ok (.goto (-21), 3) := by decide +kernel
theorem d_w_init_288 : decode prog_1_method_1_code 288 = .ok (.aload_n 0, 1) := by decide +kernel
theorem d_w_init_289 : decode prog_1_method_1_code 289 = .ok (.getfield 55, 3) := by decide +kernel
theorem d_w_init_292 : decode prog_1_method_1_code 292 = .ok (.ldc 85, 2) := by decide +kernel
theorem d_w_init_294 : decode prog_1_method_1_code 294 = .ok (.invokevirtual 87, 3) := by decide +kernel
theorem d_w_init_297 : decode prog_1_method_1_code 297 = .ok (.aload_n 0, 1) := by decide +kernel
theorem d_w_init_298 : decode prog_1_method_1_code 298 = .ok (.getfield 55, 3) := by decide +kernel
theorem d_w_init_301 : decode prog_1_method_1_code 301 = .ok (.invokevirtual 91, 3) := by decide +kernel
theorem d_w_init_304 : decode prog_1_method_1_code 304 = .ok (.pop, 1) := by decide +kernel
theorem d_w_init_305 : decode prog_1_method_1_code 305 = .ok (.aload_n 0, 1) := by decide +kernel
theorem d_w_init_306 : decode prog_1_method_1_code 306 = .ok (.getfield 55, 3) := by decide +kernel
theorem d_w_init_309 : decode prog_1_method_1_code 309 = .ok (.invokevirtual 95, 3) := by decide +kernel
theorem d_w_init_31 : decode prog_1_method_1_code 31 = .ok (.aload_n 0, 1) := by decide +kernel
theorem d_w_init_312 : decode prog_1_method_1_code 312 = .ok (.aload_n 0, 1) := by decide +kernel
theorem d_w_init_313 : decode prog_1_method_1_code 313 = .ok (.getfield 32, 3) := by decide +kernel
theorem d_w_init_316 : decode prog_1_method_1_code 316 = .ok (.iconst 0, 1) := by decide +kernel
theorem d_w_init_317 : decode prog_1_method_1_code 317 = .ok (.aaload, 1) := by decide +kernel
theorem d_w_init_318 : decode prog_1_method_1_code 318 = .ok (.aload_n 0, 1) := by decide +kernel
theorem d_w_init_319 : decode prog_1_method_1_code 319 = .ok (.getfield 55, 3) := by decide +kernel
theorem d_w_init_32 : decode prog_1_method_1_code 32 = .ok (.iconst 4, 1) := by decide +kernel
theorem d_w_init_322 : decode prog_1_method_1_code 322 = .ok (.getfield 98, 3) := by decide +kernel
theorem d_w_init_325 : decode prog_1_method_1_code 325 = .ok (.invokevirtual 102, 3) := by decide +kernel
theorem d_w_init_328 : decode prog_1_method_1_code 328 = .ok (.aload_n 0, 1) := by decide +kernel
theorem d_w_init_329 : decode prog_1_method_1_code 329 = .ok (.iconst 1, 1) := by decide +kernel
theorem d_w_init_33 : decode prog_1_method_1_code 33 = .ok (.anewarray 21, 3) := by decide +kernel
theorem d_w_init_330 : decode prog_1_method_1_code 330 = .ok (.putfield 106, 3) := by decide +kernel
theorem d_w_init_333 : decode prog_1_method_1_code 333 = .ok (.return_, 1) := by decide +kernel
theorem d_w_init_36 : decode prog_1_method_1_code 36 = .ok (.putfield 27, 3) := by decide +kernel
theorem d_w_init_39 : decode prog_1_method_1_code 39 = .ok (.aload_n 0, 1) := by decide +kernel
theorem d_w_init_4 : decode prog_1_method_1_code 4 = .ok (.aload_n 0, 1) := by decide +kernel
theorem d_w_init_40 : decode prog_1_method_1_code 40 = .ok (.bipush 6, 2) := by decide +kernel
theorem d_w_init_42 : decode prog_1_method_1_code 42 = .ok (.anewarray 30, 3) := by decide +kernel
theorem d_w_init_45 : decode prog_1_method_1_code 45 = .ok (.putfield 32, 3) := by decide +kernel
theorem d_w_init_48 : decode prog_1_method_1_code 48 = .ok (.aload_n 0, 1) := by decide +kernel
theorem d_w_init_49 : decode prog_1_method_1_code 49 = .ok (.iconst 4, 1) := by decide +kernel
theorem d_w_init_5 : decode prog_1_method_1_code 5 = .ok (.bipush 6, 2) := by decide +kernel
theorem d_w_init_50 : decode prog_1_method_1_code 50 = .ok (.anewarray 36, 3) := by decide +kernel
theorem d_w_init_53 : decode prog_1_method_1_code 53 = .ok (.putfield 38, 3) := by decide +kernel
theorem d_w_init_56 : decode prog_1_method_1_code 56 = .ok (.aload_n 0, 1) := by decide +kernel
theorem d_w_init_57 : decode prog_1_method_1_code 57 = .ok (.new 42, 3) := by decide +kernel
theorem d_w_init_60 : decode prog_1_method_1_code 60 = .ok (.dup, 1) := by decide +kernel
theorem d_w_init_61 : decode prog_1_method_1_code 61 = .ok (.invokespecial 44, 3) := by decide +kernel
theorem d_w_init_64 : decode prog_1_method_1_code 64 = .ok (.putfield 45, 3) := by decide +kernel
theorem d_w_init_67 : decode prog_1_method_1_code 67 = .ok (.aload_n 0, 1) := by decide +kernel
theorem d_w_init_68 : decode prog_1_method_1_code 68 = .ok (.new 42, 3) := by decide +kernel
theorem d_w_init_7 : decode prog_1_method_1_code 7 = .ok (.anewarray 9, 3) := by decide +kernel
theorem d_w_init_71 : decode prog_1_method_1_code 71 = .ok (.dup, 1) := by decide +kernel
theorem d_w_init_72 : decode prog_1_method_1_code 72 = .ok (.invokespecial 44, 3) := by decide +kernel
theorem d_w_init_75 : decode prog_1_method_1_code 75 = .ok (.putfield 49, 3) := by decide +kernel
theorem d_w_init_78 : decode prog_1_method_1_code 78 = .ok (.aload_n 0, 1) := by decide +kernel
theorem d_w_init_79 : decode prog_1_method_1_code 79 = .ok (.new 52, 3) := by decide +kernel
theorem d_w_init_82 : decode prog_1_method_1_code 82 = .ok (.dup, 1) := by decide +kernel
theorem d_w_init_83 : decode prog_1_method_1_code 83 = .ok (.invokespecial 54, 3) := by decide +kernel
theorem d_w_init_86 : decode prog_1_method_1_code 86 = .ok (.putfield 55, 3) := by decide +kernel
theorem d_w_init_89 : decode prog_1_method_1_code 89 = .ok (.aload_n 0, 1) := by decide +kernel
theorem d_w_init_90 : decode prog_1_method_1_code 90 = .ok (.new 59, 3) := by decide +kernel
theorem d_w_init_93 : decode prog_1_method_1_code 93 = .ok (.dup, 1) := by decide +kernel
theorem d_w_init_94 : decode prog_1_method_1_code 94 = .ok (.invokespecial 61, 3) := by decide +kernel
theorem d_w_init_97 : decode prog_1_method_1_code 97 = .ok (.putfield 62, 3) := by decide +kernel
theorem d_w_isFuse_0 : decode prog_1_method_97_code 0 = .ok (.iload_n 1, 1) := by decide +kernel
theorem d_w_isFuse_1 : decode prog_1_method_97_code 1 = .ok (.iconst 0, 1) := by decide +kernel
theorem d_w_isFuse_11 : decode prog_1_method_97_code 11 = .ok (.ireturn, 1) := by decide +kernel
theorem d_w_isFuse_2 : decode prog_1_method_97_code 2 = .ok (.aload_n 0, 1) := by decide +kernel
theorem d_w_isFuse_3 : decode prog_1_method_97_code 3 = .ok (.getfield 114, 3) := by decide +kernel
theorem d_w_isFuse_6 : decode prog_1_method_97_code 6 = .ok (.iconst 1, 1) := by decide +kernel
theorem d_w_isFuse_7 : decode prog_1_method_97_code 7 = .ok (.isub, 1) := by decide +kernel
theorem d_w_isFuse_8 : decode prog_1_method_97_code 8 = .ok (.invokestatic 110, 3) := by decide +kernel
theorem d_w_isFuses_0 : decode prog_1_method_98_code 0 = .ok (.iload_n 1, 1) := by decide +kernel
theorem d_w_isFuses_1 : decode prog_1_method_98_code 1 = .ok (.aload_n 0, 1) := by decide +kernel
theorem d_w_isFuses_11 : decode prog_1_method_98_code 11 = .ok (.ireturn, 1) := by decide +kernel
theorem d_w_isFuses_2 : decode prog_1_method_98_code 2 = .ok (.getfield 114, 3) := by decide +kernel
theorem d_w_isFuses_5 : decode prog_1_method_98_code 5 = .ok (.invokestatic 130, 3) := by decide +kernel
theorem d_w_isFuses_8 : decode prog_1_method_98_code 8 = .ok (.invokestatic 266, 3) := by decide +kernel
theorem d_w_isHouse_0 : decode prog_1_method_100_code 0 = .ok (.iload_n 1, 1) := by decide +kernel
theorem d_w_isHouse_1 : decode prog_1_method_100_code 1 = .ok (.iconst 0, 1) := by decide +kernel
theorem d_w_isHouse_11 : decode prog_1_method_100_code 11 = .ok (.ireturn, 1) := by decide +kernel
theorem d_w_isHouse_2 : decode prog_1_method_100_code 2 = .ok (.aload_n 0, 1) := by decide +kernel
theorem d_w_isHouse_3 : decode prog_1_method_100_code 3 = .ok (.getfield 136, 3) := by decide +kernel
theorem d_w_isHouse_6 : decode prog_1_method_100_code 6 = .ok (.iconst 1, 1) := by decide +kernel
theorem d_w_isHouse_7 : decode prog_1_method_100_code 7 = .ok (.isub, 1) := by decide +kernel
theorem d_w_isHouse_8 : decode prog_1_method_100_code 8 = .ok (.invokestatic 110, 3) := by decide +kernel
theorem d_w_isLabel_0 : decode prog_1_method_101_code 0 = .ok (.iload_n 1, 1) := by decide +kernel
theorem d_w_isLabel_1 : decode prog_1_method_101_code 1 = .ok (.iconst 0, 1) := by decide +kernel
theorem d_w_isLabel_11 : decode prog_1_method_101_code 11 = .ok (.ireturn, 1) := by decide +kernel
theorem d_w_isLabel_2 : decode prog_1_method_101_code 2 = .ok (.aload_n 0, 1) := by decide +kernel
theorem d_w_isLabel_3 : decode prog_1_method_101_code 3 = .ok (.getfield 142, 3) := by decide +kernel
theorem d_w_isLabel_6 : decode prog_1_method_101_code 6 = .ok (.iconst 1, 1) := by decide +kernel
theorem d_w_isLabel_7 : decode prog_1_method_101_code 7 = .ok (.isub, 1) := by decide +kernel
theorem d_w_isLabel_8 : decode prog_1_method_101_code 8 = .ok (.invokestatic 110, 3) := by decide +kernel
theorem d_w_isLamp_0 : decode prog_1_method_99_code 0 = .ok (.iload_n 1, 1) := by decide +kernel
theorem d_w_isLamp_1 : decode prog_1_method_99_code 1 = .ok (.iconst 0, 1) := by decide +kernel
theorem d_w_isLamp_11 : decode prog_1_method_99_code 11 = .ok (.ireturn, 1) := by decide +kernel
theorem d_w_isLamp_2 : decode prog_1_method_99_code 2 = .ok (.aload_n 0, 1) := by decide +kernel
theorem d_w_isLamp_3 : decode prog_1_method_99_code 3 = .ok (.getfield 133, 3) := by decide +kernel
theorem d_w_isLamp_6 : decode prog_1_method_99_code 6 = .ok (.iconst 1, 1) := by decide +kernel
theorem d_w_isLamp_7 : decode prog_1_method_99_code 7 = .ok (.isub, 1) := by decide +kernel
theorem d_w_isLamp_8 : decode prog_1_method_99_code 8 = .ok (.invokestatic 110, 3) := by decide +kernel
theorem d_w_isRoom_0 : decode prog_1_method_102_code 0 = .ok (.iload_n 0, 1) := by decide +kernel
theorem d_w_isRoom_1 : decode prog_1_method_102_code 1 = .ok (.iconst 0, 1) := by decide +kernel
theorem d_w_isRoom_2 : decode prog_1_method_102_code 2 = .ok (.iconst 5, 1) := by decide +kernel
theorem d_w_isRoom_3 : decode prog_1_method_102_code 3 = .ok (.invokestatic 110, 3) := by decide +kernel
theorem d_w_isRoom_6 : decode prog_1_method_102_code 6 = .ok (.ireturn, 1) := by decide +kernel
theorem d_w_isRooms_0 : decode prog_1_method_103_code 0 = .ok (.iload_n 0, 1) := by decide +kernel
theorem d_w_isRooms_1 : decode prog_1_method_103_code 1 = .ok (.bipush 6, 2) := by decide +kernel
theorem d_w_isRooms_3 : decode prog_1_method_103_code 3 = .ok (.invokestatic 130, 3) := by decide +kernel
theorem d_w_isRooms_6 : decode prog_1_method_103_code 6 = .ok (.invokestatic 266, 3) := by decide +kernel
theorem d_w_isRooms_9 : decode prog_1_method_103_code 9 = .ok (.ireturn, 1) := by decide +kernel
theorem d_w_isSheet_0 : decode prog_1_method_104_code 0 = .ok (.iload_n 0, 1) := by decide +kernel
theorem d_w_isSheet_1 : decode prog_1_method_104_code 1 = .ok (.iconst 0, 1) := by decide +kernel
theorem d_w_isSheet_2 : decode prog_1_method_104_code 2 = .ok (.iconst 3, 1) := by decide +kernel
theorem d_w_isSheet_3 : decode prog_1_method_104_code 3 = .ok (.invokestatic 110, 3) := by decide +kernel
theorem d_w_isSheet_6 : decode prog_1_method_104_code 6 = .ok (.ireturn, 1) := by decide +kernel
theorem d_w_isSubset_0 : decode prog_1_method_96_code 0 = .ok (.iload_n 0, 1) := by decide +kernel
theorem d_w_isSubset_1 : decode prog_1_method_96_code 1 = .ok (.iload_n 1, 1) := by decide +kernel
theorem d_w_isSubset_12 : decode prog_1_method_96_code 12 = .ok (.iconst 0, 1) := by decide +kernel
theorem d_w_isSubset_13 : decode prog_1_method_96_code 13 = .ok (.ireturn, 1) := by decide +kernel
theorem d_w_isSubset_2 : decode prog_1_method_96_code 2 = .ok (.iconst (-1), 1) := by decide +kernel
theorem d_w_isSubset_3 : decode prog_1_method_96_code 3 = .ok (.ixor, 1) := by decide +kernel
theorem d_w_isSubset_4 : decode prog_1_method_96_code 4 = .ok (.iand, 1) := by decide +kernel
theorem d_w_isSubset_5 : decode prog_1_method_96_code 5 = .ok (.ifCond .ne 7, 3) := by decide +kernel
theorem d_w_isSubset_8 : decode prog_1_method_96_code 8 = .ok (.iconst 1, 1) := by decide +kernel
theorem d_w_isSubset_9 : decode prog_1_method_96_code 9 = .ok (.goto 4, 3) := by decide +kernel
theorem d_w_isWhere_0 : decode prog_1_method_7_code 0 = .ok (.iload_n 0, 1) := by decide +kernel
theorem d_w_isWhere_1 : decode prog_1_method_7_code 1 = .ok (.iconst 0, 1) := by decide +kernel
theorem d_w_isWhere_11 : decode prog_1_method_7_code 11 = .ok (.iload_n 0, 1) := by decide +kernel
theorem d_w_isWhere_12 : decode prog_1_method_7_code 12 = .ok (.bipush 10, 2) := by decide +kernel
theorem d_w_isWhere_14 : decode prog_1_method_7_code 14 = .ok (.idiv, 1) := by decide +kernel
theorem d_w_isWhere_15 : decode prog_1_method_7_code 15 = .ok (.bipush 10, 2) := by decide +kernel
theorem d_w_isWhere_17 : decode prog_1_method_7_code 17 = .ok (.irem, 1) := by decide +kernel
theorem d_w_isWhere_18 : decode prog_1_method_7_code 18 = .ok (.bipush 8, 2) := by decide +kernel
theorem d_w_isWhere_2 : decode prog_1_method_7_code 2 = .ok (.sipush 599, 3) := by decide +kernel
theorem d_w_isWhere_20 : decode prog_1_method_7_code 20 = .ok (.if_icmp .ge 16, 3) := by decide +kernel
theorem d_w_isWhere_23 : decode prog_1_method_7_code 23 = .ok (.iload_n 0, 1) := by decide +kernel
theorem d_w_isWhere_24 : decode prog_1_method_7_code 24 = .ok (.bipush 10, 2) := by decide +kernel
theorem d_w_isWhere_26 : decode prog_1_method_7_code 26 = .ok (.irem, 1) := by decide +kernel
theorem d_w_isWhere_27 : decode prog_1_method_7_code 27 = .ok (.bipush 8, 2) := by decide +kernel
theorem d_w_isWhere_29 : decode prog_1_method_7_code 29 = .ok (.if_icmp .ge 7, 3) := by decide +kernel
theorem d_w_isWhere_32 : decode prog_1_method_7_code 32 = .ok (.iconst 1, 1) := by decide +kernel
theorem d_w_isWhere_33 : decode prog_1_method_7_code 33 = .ok (.goto 4, 3) := by decide +kernel
theorem d_w_isWhere_36 : decode prog_1_method_7_code 36 = .ok (.iconst 0, 1) := by decide +kernel
theorem d_w_isWhere_37 : decode prog_1_method_7_code 37 = .ok (.ireturn, 1) := by decide +kernel
theorem d_w_isWhere_5 : decode prog_1_method_7_code 5 = .ok (.invokestatic 110, 3) := by decide +kernel
theorem d_w_isWhere_8 : decode prog_1_method_7_code 8 = .ok (.ifCond .eq 28, 3) := by decide +kernel
theorem d_w_kindCount_0 : decode prog_1_method_45_code 0 = .ok (.iconst 0, 1) := by decide +kernel
theorem d_w_kindCount_1 : decode prog_1_method_45_code 1 = .ok (.istore_n 3, 1) := by decide +kernel
theorem d_w_kindCount_10 : decode prog_1_method_45_code 10 = .ok (.aload_n 0, 1) := by decide +kernel
theorem d_w_kindCount_11 : decode prog_1_method_45_code 11 = .ok (.getfield 136, 3) := by decide +kernel
theorem d_w_kindCount_14 : decode prog_1_method_45_code 14 = .ok (.if_icmp .ge 38, 3) := by decide +kernel
theorem d_w_kindCount_17 : decode prog_1_method_45_code 17 = .ok (.iload 4, 2) := by decide +kernel
theorem d_w_kindCount_19 : decode prog_1_method_45_code 19 = .ok (.iload 5, 2) := by decide +kernel
theorem d_w_kindCount_2 : decode prog_1_method_45_code 2 = .ok (.iload_n 2, 1) := by decide +kernel
theorem d_w_kindCount_21 : decode prog_1_method_45_code 21 = .ok (.invokestatic 242, 3) := by decide +kernel
theorem d_w_kindCount_24 : decode prog_1_method_45_code 24 = .ok (.ifCond .eq 22, 3) := by decide +kernel
theorem d_w_kindCount_27 : decode prog_1_method_45_code 27 = .ok (.iload 4, 2) := by decide +kernel
theorem d_w_kindCount_29 : decode prog_1_method_45_code 29 = .ok (.aload_n 0, 1) := by decide +kernel
theorem d_w_kindCount_3 : decode prog_1_method_45_code 3 = .ok (.istore 4, 2) := by decide +kernel
theorem d_w_kindCount_30 : decode prog_1_method_45_code 30 = .ok (.iload_n 1, 1) := by decide +kernel
theorem d_w_kindCount_31 : decode prog_1_method_45_code 31 = .ok (.iload 5, 2) := by decide +kernel
theorem d_w_kindCount_33 : decode prog_1_method_45_code 33 = .ok (.iload 4, 2) := by decide +kernel
theorem d_w_kindCount_35 : decode prog_1_method_45_code 35 = .ok (.invokevirtual 324, 3) := by decide +kernel
theorem d_w_kindCount_38 : decode prog_1_method_45_code 38 = .ok (.iconst (-1), 1) := by decide +kernel
theorem d_w_kindCount_39 : decode prog_1_method_45_code 39 = .ok (.ixor, 1) := by decide +kernel
theorem d_w_kindCount_40 : decode prog_1_method_45_code 40 = .ok (.iand, 1) := by decide +kernel
theorem d_w_kindCount_41 : decode prog_1_method_45_code 41 = .ok (.istore 4, 2) := by decide +kernel
theorem d_w_kindCount_43 : decode prog_1_method_45_code 43 = .ok (.iinc 3 1, 3) := by decide +kernel
theorem d_w_kindCount_46 : decode prog_1_method_45_code 46 = .ok (.iinc 5 1, 3) := by decide +kernel
theorem d_w_kindCount_49 : decode prog_1_method_45_code 49 = .ok (.goto (-41), 3) := by decide +kernel
theorem d_w_kindCount_5 : decode prog_1_method_45_code 5 = .ok (.iconst 0, 1) := by decide +kernel
theorem d_w_kindCount_52 : decode prog_1_method_45_code 52 = .ok (.iload_n 3, 1) := by decide +kernel
theorem d_w_kindCount_53 : decode prog_1_method_45_code 53 = .ok (.ireturn, 1) := by decide +kernel
theorem d_w_kindCount_6 : decode prog_1_method_45_code 6 = .ok (.istore 5, 2) := by decide +kernel
theorem d_w_kindCount_8 : decode prog_1_method_45_code 8 = .ok (.iload 5, 2) := by decide +kernel
theorem d_w_kindOf_0 : decode prog_1_method_44_code 0 = .ok (.aload_n 0, 1) := by decide +kernel
theorem d_w_kindOf_1 : decode prog_1_method_44_code 1 = .ok (.getfield 73, 3) := by decide +kernel
theorem d_w_kindOf_10 : decode prog_1_method_44_code 10 = .ok (.iaload, 1) := by decide +kernel
theorem d_w_kindOf_11 : decode prog_1_method_44_code 11 = .ok (.istore 4, 2) := by decide +kernel
theorem d_w_kindOf_13 : decode prog_1_method_44_code 13 = .ok (.iconst 0, 1) := by decide +kernel
theorem d_w_kindOf_14 : decode prog_1_method_44_code 14 = .ok (.istore 5, 2) := by decide +kernel
theorem d_w_kindOf_16 : decode prog_1_method_44_code 16 = .ok (.iconst 0, 1) := by decide +kernel
theorem d_w_kindOf_17 : decode prog_1_method_44_code 17 = .ok (.istore 6, 2) := by decide +kernel
theorem d_w_kindOf_19 : decode prog_1_method_44_code 19 = .ok (.iload 6, 2) := by decide +kernel
theorem d_w_kindOf_21 : decode prog_1_method_44_code 21 = .ok (.aload_n 0, 1) := by decide +kernel
theorem d_w_kindOf_22 : decode prog_1_method_44_code 22 = .ok (.getfield 136, 3) := by decide +kernel
theorem d_w_kindOf_25 : decode prog_1_method_44_code 25 = .ok (.if_icmp .ge 44, 3) := by decide +kernel
theorem d_w_kindOf_28 : decode prog_1_method_44_code 28 = .ok (.iload_n 3, 1) := by decide +kernel
theorem d_w_kindOf_29 : decode prog_1_method_44_code 29 = .ok (.iload 6, 2) := by decide +kernel
theorem d_w_kindOf_31 : decode prog_1_method_44_code 31 = .ok (.invokestatic 242, 3) := by decide +kernel
theorem d_w_kindOf_34 : decode prog_1_method_44_code 34 = .ok (.ifCond .eq 29, 3) := by decide +kernel
theorem d_w_kindOf_37 : decode prog_1_method_44_code 37 = .ok (.aload_n 0, 1) := by decide +kernel
theorem d_w_kindOf_38 : decode prog_1_method_44_code 38 = .ok (.getfield 73, 3) := by decide +kernel
theorem d_w_kindOf_4 : decode prog_1_method_44_code 4 = .ok (.iload_n 1, 1) := by decide +kernel
theorem d_w_kindOf_41 : decode prog_1_method_44_code 41 = .ok (.iload_n 1, 1) := by decide +kernel
theorem d_w_kindOf_42 : decode prog_1_method_44_code 42 = .ok (.bipush 12, 2) := by decide +kernel
theorem d_w_kindOf_44 : decode prog_1_method_44_code 44 = .ok (.imul, 1) := by decide +kernel
theorem d_w_kindOf_45 : decode prog_1_method_44_code 45 = .ok (.iload 6, 2) := by decide +kernel
theorem d_w_kindOf_47 : decode prog_1_method_44_code 47 = .ok (.iadd, 1) := by decide +kernel
theorem d_w_kindOf_48 : decode prog_1_method_44_code 48 = .ok (.iaload, 1) := by decide +kernel
theorem d_w_kindOf_49 : decode prog_1_method_44_code 49 = .ok (.iload 4, 2) := by decide +kernel
theorem d_w_kindOf_5 : decode prog_1_method_44_code 5 = .ok (.bipush 12, 2) := by decide +kernel
theorem d_w_kindOf_51 : decode prog_1_method_44_code 51 = .ok (.if_icmp .ne 12, 3) := by decide +kernel
theorem d_w_kindOf_54 : decode prog_1_method_44_code 54 = .ok (.iload 5, 2) := by decide +kernel
theorem d_w_kindOf_56 : decode prog_1_method_44_code 56 = .ok (.iconst 1, 1) := by decide +kernel
theorem d_w_kindOf_57 : decode prog_1_method_44_code 57 = .ok (.iload 6, 2) := by decide +kernel
theorem d_w_kindOf_59 : decode prog_1_method_44_code 59 = .ok (.ishl, 1) := by decide +kernel
theorem d_w_kindOf_60 : decode prog_1_method_44_code 60 = .ok (.ior, 1) := by decide +kernel
theorem d_w_kindOf_61 : decode prog_1_method_44_code 61 = .ok (.istore 5, 2) := by decide +kernel
theorem d_w_kindOf_63 : decode prog_1_method_44_code 63 = .ok (.iinc 6 1, 3) := by decide +kernel
theorem d_w_kindOf_66 : decode prog_1_method_44_code 66 = .ok (.goto (-47), 3) := by decide +kernel
theorem d_w_kindOf_69 : decode prog_1_method_44_code 69 = .ok (.iload 5, 2) := by decide +kernel
theorem d_w_kindOf_7 : decode prog_1_method_44_code 7 = .ok (.imul, 1) := by decide +kernel
theorem d_w_kindOf_71 : decode prog_1_method_44_code 71 = .ok (.ireturn, 1) := by decide +kernel
theorem d_w_kindOf_8 : decode prog_1_method_44_code 8 = .ok (.iload_n 2, 1) := by decide +kernel
theorem d_w_kindOf_9 : decode prog_1_method_44_code 9 = .ok (.iadd, 1) := by decide +kernel
theorem d_w_label_0 : decode prog_1_method_61_code 0 = .ok (.iload_n 1, 1) := by decide +kernel
theorem d_w_label_1 : decode prog_1_method_61_code 1 = .ok (.iconst 1, 1) := by decide +kernel
theorem d_w_label_11 : decode prog_1_method_61_code 11 = .ok (.bipush (-2), 2) := by decide +kernel
theorem d_w_label_13 : decode prog_1_method_61_code 13 = .ok (.ireturn, 1) := by decide +kernel
theorem d_w_label_14 : decode prog_1_method_61_code 14 = .ok (.aload_n 0, 1) := by decide +kernel
theorem d_w_label_15 : decode prog_1_method_61_code 15 = .ok (.iload_n 2, 1) := by decide +kernel
theorem d_w_label_16 : decode prog_1_method_61_code 16 = .ok (.invokevirtual 199, 3) := by decide +kernel
theorem d_w_label_19 : decode prog_1_method_61_code 19 = .ok (.istore_n 3, 1) := by decide +kernel
theorem d_w_label_2 : decode prog_1_method_61_code 2 = .ok (.sipush 9999, 3) := by decide +kernel
theorem d_w_label_20 : decode prog_1_method_61_code 20 = .ok (.iload_n 3, 1) := by decide +kernel
theorem d_w_label_21 : decode prog_1_method_61_code 21 = .ok (.ifCond .eq 5, 3) := by decide +kernel
theorem d_w_label_24 : decode prog_1_method_61_code 24 = .ok (.iload_n 3, 1) := by decide +kernel
theorem d_w_label_25 : decode prog_1_method_61_code 25 = .ok (.ireturn, 1) := by decide +kernel
theorem d_w_label_26 : decode prog_1_method_61_code 26 = .ok (.aload_n 0, 1) := by decide +kernel
theorem d_w_label_27 : decode prog_1_method_61_code 27 = .ok (.getfield 142, 3) := by decide +kernel
theorem d_w_label_30 : decode prog_1_method_61_code 30 = .ok (.iconst 4, 1) := by decide +kernel
theorem d_w_label_31 : decode prog_1_method_61_code 31 = .ok (.if_icmp .lt 6, 3) := by decide +kernel
theorem d_w_label_34 : decode prog_1_method_61_code 34 = .ok (.bipush (-4), 2) := by decide +kernel
theorem d_w_label_36 : decode prog_1_method_61_code 36 = .ok (.ireturn, 1) := by decide +kernel
theorem d_w_label_37 : decode prog_1_method_61_code 37 = .ok (.aload_n 0, 1) := by decide +kernel
theorem d_w_label_38 : decode prog_1_method_61_code 38 = .ok (.getfield 27, 3) := by decide +kernel
theorem d_w_label_41 : decode prog_1_method_61_code 41 = .ok (.aload_n 0, 1) := by decide +kernel
theorem d_w_label_42 : decode prog_1_method_61_code 42 = .ok (.getfield 142, 3) := by decide +kernel
theorem d_w_label_45 : decode prog_1_method_61_code 45 = .ok (.aaload, 1) := by decide +kernel
theorem d_w_label_46 : decode prog_1_method_61_code 46 = .ok (.aload_n 0, 1) := by decide +kernel
theorem d_w_label_47 : decode prog_1_method_61_code 47 = .ok (.getfield 38, 3) := by decide +kernel
theorem d_w_label_5 : decode prog_1_method_61_code 5 = .ok (.invokestatic 110, 3) := by decide +kernel
theorem d_w_label_50 : decode prog_1_method_61_code 50 = .ok (.iload_n 2, 1) := by decide +kernel
theorem d_w_label_51 : decode prog_1_method_61_code 51 = .ok (.aaload, 1) := by decide +kernel
theorem d_w_label_52 : decode prog_1_method_61_code 52 = .ok (.aload_n 0, 1) := by decide +kernel
theorem d_w_label_53 : decode prog_1_method_61_code 53 = .ok (.getfield 133, 3) := by decide +kernel
theorem d_w_label_56 : decode prog_1_method_61_code 56 = .ok (.invokevirtual 202, 3) := by decide +kernel
theorem d_w_label_59 : decode prog_1_method_61_code 59 = .ok (.aload_n 0, 1) := by decide +kernel
theorem d_w_label_60 : decode prog_1_method_61_code 60 = .ok (.getfield 27, 3) := by decide +kernel
theorem d_w_label_63 : decode prog_1_method_61_code 63 = .ok (.aload_n 0, 1) := by decide +kernel
theorem d_w_label_64 : decode prog_1_method_61_code 64 = .ok (.getfield 142, 3) := by decide +kernel
theorem d_w_label_67 : decode prog_1_method_61_code 67 = .ok (.aaload, 1) := by decide +kernel
theorem d_w_label_68 : decode prog_1_method_61_code 68 = .ok (.iload_n 1, 1) := by decide +kernel
theorem d_w_label_69 : decode prog_1_method_61_code 69 = .ok (.putfield 354, 3) := by decide +kernel
theorem d_w_label_72 : decode prog_1_method_61_code 72 = .ok (.aload_n 0, 1) := by decide +kernel
theorem d_w_label_73 : decode prog_1_method_61_code 73 = .ok (.dup, 1) := by decide +kernel
theorem d_w_label_74 : decode prog_1_method_61_code 74 = .ok (.getfield 142, 3) := by decide +kernel
theorem d_w_label_77 : decode prog_1_method_61_code 77 = .ok (.iconst 1, 1) := by decide +kernel
theorem d_w_label_78 : decode prog_1_method_61_code 78 = .ok (.iadd, 1) := by decide +kernel
theorem d_w_label_79 : decode prog_1_method_61_code 79 = .ok (.putfield 142, 3) := by decide +kernel
theorem d_w_label_8 : decode prog_1_method_61_code 8 = .ok (.ifCond .ne 6, 3) := by decide +kernel
theorem d_w_label_82 : decode prog_1_method_61_code 82 = .ok (.aload_n 0, 1) := by decide +kernel
theorem d_w_label_83 : decode prog_1_method_61_code 83 = .ok (.getfield 142, 3) := by decide +kernel
theorem d_w_label_86 : decode prog_1_method_61_code 86 = .ok (.iconst 1, 1) := by decide +kernel
theorem d_w_label_87 : decode prog_1_method_61_code 87 = .ok (.isub, 1) := by decide +kernel
theorem d_w_label_88 : decode prog_1_method_61_code 88 = .ok (.ireturn, 1) := by decide +kernel
theorem d_w_lampLoad_0 : decode prog_1_method_83_code 0 = .ok (.iload_n 1, 1) := by decide +kernel
theorem d_w_lampLoad_1 : decode prog_1_method_83_code 1 = .ok (.bipush 11, 2) := by decide +kernel
theorem d_w_lampLoad_10 : decode prog_1_method_83_code 10 = .ok (.getfield 77, 3) := by decide +kernel
theorem d_w_lampLoad_13 : decode prog_1_method_83_code 13 = .ok (.arraylength, 1) := by decide +kernel
theorem d_w_lampLoad_14 : decode prog_1_method_83_code 14 = .ok (.iconst 1, 1) := by decide +kernel
theorem d_w_lampLoad_15 : decode prog_1_method_83_code 15 = .ok (.isub, 1) := by decide +kernel
theorem d_w_lampLoad_16 : decode prog_1_method_83_code 16 = .ok (.invokestatic 110, 3) := by decide +kernel
theorem d_w_lampLoad_19 : decode prog_1_method_83_code 19 = .ok (.ifCond .ne 5, 3) := by decide +kernel
theorem d_w_lampLoad_22 : decode prog_1_method_83_code 22 = .ok (.iconst 0, 1) := by decide +kernel
theorem d_w_lampLoad_23 : decode prog_1_method_83_code 23 = .ok (.ireturn, 1) := by decide +kernel
theorem d_w_lampLoad_24 : decode prog_1_method_83_code 24 = .ok (.aload_n 0, 1) := by decide +kernel
theorem d_w_lampLoad_25 : decode prog_1_method_83_code 25 = .ok (.getfield 77, 3) := by decide +kernel
theorem d_w_lampLoad_28 : decode prog_1_method_83_code 28 = .ok (.iload_n 3, 1) := by decide +kernel
theorem d_w_lampLoad_29 : decode prog_1_method_83_code 29 = .ok (.iaload, 1) := by decide +kernel
theorem d_w_lampLoad_3 : decode prog_1_method_83_code 3 = .ok (.imul, 1) := by decide +kernel
theorem d_w_lampLoad_30 : decode prog_1_method_83_code 30 = .ok (.iconst (-1), 1) := by decide +kernel
theorem d_w_lampLoad_31 : decode prog_1_method_83_code 31 = .ok (.if_icmp .ne 16, 3) := by decide +kernel
theorem d_w_lampLoad_34 : decode prog_1_method_83_code 34 = .ok (.aload_n 0, 1) := by decide +kernel
theorem d_w_lampLoad_35 : decode prog_1_method_83_code 35 = .ok (.getfield 77, 3) := by decide +kernel
theorem d_w_lampLoad_38 : decode prog_1_method_83_code 38 = .ok (.iload_n 3, 1) := by decide +kernel
theorem d_w_lampLoad_39 : decode prog_1_method_83_code 39 = .ok (.aload_n 0, 1) := by decide +kernel
theorem d_w_lampLoad_4 : decode prog_1_method_83_code 4 = .ok (.iload_n 2, 1) := by decide +kernel
theorem d_w_lampLoad_40 : decode prog_1_method_83_code 40 = .ok (.iconst 2, 1) := by decide +kernel
theorem d_w_lampLoad_41 : decode prog_1_method_83_code 41 = .ok (.iload_n 1, 1) := by decide +kernel
theorem d_w_lampLoad_42 : decode prog_1_method_83_code 42 = .ok (.iload_n 2, 1) := by decide +kernel
theorem d_w_lampLoad_43 : decode prog_1_method_83_code 43 = .ok (.invokevirtual 256, 3) := by decide +kernel
theorem d_w_lampLoad_46 : decode prog_1_method_83_code 46 = .ok (.iastore, 1) := by decide +kernel
theorem d_w_lampLoad_47 : decode prog_1_method_83_code 47 = .ok (.aload_n 0, 1) := by decide +kernel
theorem d_w_lampLoad_48 : decode prog_1_method_83_code 48 = .ok (.getfield 77, 3) := by decide +kernel
theorem d_w_lampLoad_5 : decode prog_1_method_83_code 5 = .ok (.iadd, 1) := by decide +kernel
theorem d_w_lampLoad_51 : decode prog_1_method_83_code 51 = .ok (.iload_n 3, 1) := by decide +kernel
theorem d_w_lampLoad_52 : decode prog_1_method_83_code 52 = .ok (.iaload, 1) := by decide +kernel
theorem d_w_lampLoad_53 : decode prog_1_method_83_code 53 = .ok (.ireturn, 1) := by decide +kernel
theorem d_w_lampLoad_6 : decode prog_1_method_83_code 6 = .ok (.istore_n 3, 1) := by decide +kernel
theorem d_w_lampLoad_7 : decode prog_1_method_83_code 7 = .ok (.iload_n 3, 1) := by decide +kernel
theorem d_w_lampLoad_8 : decode prog_1_method_83_code 8 = .ok (.iconst 0, 1) := by decide +kernel
theorem d_w_lampLoad_9 : decode prog_1_method_83_code 9 = .ok (.aload_n 0, 1) := by decide +kernel
theorem d_w_lampTold_0 : decode prog_1_method_8_code 0 = .ok (.aload_n 0, 1) := by decide +kernel
theorem d_w_lampTold_1 : decode prog_1_method_8_code 1 = .ok (.iload_n 1, 1) := by decide +kernel
theorem d_w_lampTold_10 : decode prog_1_method_8_code 10 = .ok (.ireturn, 1) := by decide +kernel
theorem d_w_lampTold_11 : decode prog_1_method_8_code 11 = .ok (.aload_n 0, 1) := by decide +kernel
theorem d_w_lampTold_12 : decode prog_1_method_8_code 12 = .ok (.getfield 17, 3) := by decide +kernel
theorem d_w_lampTold_15 : decode prog_1_method_8_code 15 = .ok (.iload_n 1, 1) := by decide +kernel
theorem d_w_lampTold_16 : decode prog_1_method_8_code 16 = .ok (.aaload, 1) := by decide +kernel
theorem d_w_lampTold_17 : decode prog_1_method_8_code 17 = .ok (.astore_n 3, 1) := by decide +kernel
theorem d_w_lampTold_18 : decode prog_1_method_8_code 18 = .ok (.iload_n 2, 1) := by decide +kernel
theorem d_w_lampTold_19 : decode prog_1_method_8_code 19 = .ok (.tableswitch 67 0 5 #[37, 42, 47, 52, 57, 62], 37) := by decide +kernel
theorem d_w_lampTold_2 : decode prog_1_method_8_code 2 = .ok (.invokevirtual 162, 3) := by decide +kernel
theorem d_w_lampTold_5 : decode prog_1_method_8_code 5 = .ok (.ifCond .ne 6, 3) := by decide +kernel
theorem d_w_lampTold_56 : decode prog_1_method_8_code 56 = .ok (.aload_n 3, 1) := by decide +kernel
theorem d_w_lampTold_57 : decode prog_1_method_8_code 57 = .ok (.getfield 165, 3) := by decide +kernel
theorem d_w_lampTold_60 : decode prog_1_method_8_code 60 = .ok (.ireturn, 1) := by decide +kernel
theorem d_w_lampTold_61 : decode prog_1_method_8_code 61 = .ok (.aload_n 3, 1) := by decide +kernel
theorem d_w_lampTold_62 : decode prog_1_method_8_code 62 = .ok (.getfield 168, 3) := by decide +kernel
theorem d_w_lampTold_65 : decode prog_1_method_8_code 65 = .ok (.ireturn, 1) := by decide +kernel
theorem d_w_lampTold_66 : decode prog_1_method_8_code 66 = .ok (.aload_n 3, 1) := by decide +kernel
theorem d_w_lampTold_67 : decode prog_1_method_8_code 67 = .ok (.getfield 171, 3) := by decide +kernel
theorem d_w_lampTold_70 : decode prog_1_method_8_code 70 = .ok (.ireturn, 1) := by decide +kernel
theorem d_w_lampTold_71 : decode prog_1_method_8_code 71 = .ok (.aload_n 3, 1) := by decide +kernel
theorem d_w_lampTold_72 : decode prog_1_method_8_code 72 = .ok (.getfield 174, 3) := by decide +kernel
theorem d_w_lampTold_75 : decode prog_1_method_8_code 75 = .ok (.ireturn, 1) := by decide +kernel
theorem d_w_lampTold_76 : decode prog_1_method_8_code 76 = .ok (.aload_n 3, 1) := by decide +kernel
theorem d_w_lampTold_77 : decode prog_1_method_8_code 77 = .ok (.getfield 177, 3) := by decide +kernel
theorem d_w_lampTold_8 : decode prog_1_method_8_code 8 = .ok (.bipush (-5), 2) := by decide +kernel
theorem d_w_lampTold_80 : decode prog_1_method_8_code 80 = .ok (.ireturn, 1) := by decide +kernel
theorem d_w_lampTold_81 : decode prog_1_method_8_code 81 = .ok (.aload_n 3, 1) := by decide +kernel
theorem d_w_lampTold_82 : decode prog_1_method_8_code 82 = .ok (.getfield 180, 3) := by decide +kernel
theorem d_w_lampTold_85 : decode prog_1_method_8_code 85 = .ok (.ireturn, 1) := by decide +kernel
theorem d_w_lampTold_86 : decode prog_1_method_8_code 86 = .ok (.bipush (-7), 2) := by decide +kernel
theorem d_w_lampTold_88 : decode prog_1_method_8_code 88 = .ok (.ireturn, 1) := by decide +kernel
theorem d_w_lamp_0 : decode prog_1_method_6_code 0 = .ok (.iload_n 1, 1) := by decide +kernel
theorem d_w_lamp_1 : decode prog_1_method_6_code 1 = .ok (.iconst 0, 1) := by decide +kernel
theorem d_w_lamp_10 : decode prog_1_method_6_code 10 = .ok (.iconst 1, 1) := by decide +kernel
theorem d_w_lamp_101 : decode prog_1_method_6_code 101 = .ok (.iload 4, 2) := by decide +kernel
theorem d_w_lamp_103 : decode prog_1_method_6_code 103 = .ok (.bipush 6, 2) := by decide +kernel
theorem d_w_lamp_105 : decode prog_1_method_6_code 105 = .ok (.if_icmp .ge 24, 3) := by decide +kernel
theorem d_w_lamp_108 : decode prog_1_method_6_code 108 = .ok (.aload_n 0, 1) := by decide +kernel
theorem d_w_lamp_109 : decode prog_1_method_6_code 109 = .ok (.getfield 11, 3) := by decide +kernel
theorem d_w_lamp_11 : decode prog_1_method_6_code 11 = .ok (.bipush 99, 2) := by decide +kernel
theorem d_w_lamp_112 : decode prog_1_method_6_code 112 = .ok (.iload 4, 2) := by decide +kernel
theorem d_w_lamp_114 : decode prog_1_method_6_code 114 = .ok (.aaload, 1) := by decide +kernel
theorem d_w_lamp_115 : decode prog_1_method_6_code 115 = .ok (.dup, 1) := by decide +kernel
theorem d_w_lamp_116 : decode prog_1_method_6_code 116 = .ok (.getfield 159, 3) := by decide +kernel
theorem d_w_lamp_119 : decode prog_1_method_6_code 119 = .ok (.iconst 1, 1) := by decide +kernel
theorem d_w_lamp_120 : decode prog_1_method_6_code 120 = .ok (.aload_n 0, 1) := by decide +kernel
theorem d_w_lamp_121 : decode prog_1_method_6_code 121 = .ok (.getfield 133, 3) := by decide +kernel
theorem d_w_lamp_124 : decode prog_1_method_6_code 124 = .ok (.ishl, 1) := by decide +kernel
theorem d_w_lamp_125 : decode prog_1_method_6_code 125 = .ok (.ior, 1) := by decide +kernel
theorem d_w_lamp_126 : decode prog_1_method_6_code 126 = .ok (.putfield 159, 3) := by decide +kernel
theorem d_w_lamp_129 : decode prog_1_method_6_code 129 = .ok (.aload_n 0, 1) := by decide +kernel
theorem d_w_lamp_13 : decode prog_1_method_6_code 13 = .ok (.invokestatic 110, 3) := by decide +kernel
theorem d_w_lamp_130 : decode prog_1_method_6_code 130 = .ok (.dup, 1) := by decide +kernel
theorem d_w_lamp_131 : decode prog_1_method_6_code 131 = .ok (.getfield 133, 3) := by decide +kernel
theorem d_w_lamp_134 : decode prog_1_method_6_code 134 = .ok (.iconst 1, 1) := by decide +kernel
theorem d_w_lamp_135 : decode prog_1_method_6_code 135 = .ok (.iadd, 1) := by decide +kernel
theorem d_w_lamp_136 : decode prog_1_method_6_code 136 = .ok (.putfield 133, 3) := by decide +kernel
theorem d_w_lamp_139 : decode prog_1_method_6_code 139 = .ok (.aload_n 0, 1) := by decide +kernel
theorem d_w_lamp_140 : decode prog_1_method_6_code 140 = .ok (.getfield 133, 3) := by decide +kernel
theorem d_w_lamp_143 : decode prog_1_method_6_code 143 = .ok (.iconst 1, 1) := by decide +kernel
theorem d_w_lamp_144 : decode prog_1_method_6_code 144 = .ok (.isub, 1) := by decide +kernel
theorem d_w_lamp_145 : decode prog_1_method_6_code 145 = .ok (.ireturn, 1) := by decide +kernel
theorem d_w_lamp_16 : decode prog_1_method_6_code 16 = .ok (.ifCond .eq 21, 3) := by decide +kernel
theorem d_w_lamp_19 : decode prog_1_method_6_code 19 = .ok (.iload_n 3, 1) := by decide +kernel
theorem d_w_lamp_2 : decode prog_1_method_6_code 2 = .ok (.iconst 5, 1) := by decide +kernel
theorem d_w_lamp_20 : decode prog_1_method_6_code 20 = .ok (.invokestatic 151, 3) := by decide +kernel
theorem d_w_lamp_23 : decode prog_1_method_6_code 23 = .ok (.ifCond .eq 14, 3) := by decide +kernel
theorem d_w_lamp_26 : decode prog_1_method_6_code 26 = .ok (.iload 4, 2) := by decide +kernel
theorem d_w_lamp_28 : decode prog_1_method_6_code 28 = .ok (.iconst 0, 1) := by decide +kernel
theorem d_w_lamp_29 : decode prog_1_method_6_code 29 = .ok (.bipush 9, 2) := by decide +kernel
theorem d_w_lamp_3 : decode prog_1_method_6_code 3 = .ok (.invokestatic 110, 3) := by decide +kernel
theorem d_w_lamp_31 : decode prog_1_method_6_code 31 = .ok (.invokestatic 110, 3) := by decide +kernel
theorem d_w_lamp_34 : decode prog_1_method_6_code 34 = .ok (.ifCond .ne 6, 3) := by decide +kernel
theorem d_w_lamp_37 : decode prog_1_method_6_code 37 = .ok (.bipush (-2), 2) := by decide +kernel
theorem d_w_lamp_39 : decode prog_1_method_6_code 39 = .ok (.ireturn, 1) := by decide +kernel
theorem d_w_lamp_40 : decode prog_1_method_6_code 40 = .ok (.aload_n 0, 1) := by decide +kernel
theorem d_w_lamp_41 : decode prog_1_method_6_code 41 = .ok (.getfield 133, 3) := by decide +kernel
theorem d_w_lamp_44 : decode prog_1_method_6_code 44 = .ok (.bipush 10, 2) := by decide +kernel
theorem d_w_lamp_46 : decode prog_1_method_6_code 46 = .ok (.if_icmp .lt 6, 3) := by decide +kernel
theorem d_w_lamp_49 : decode prog_1_method_6_code 49 = .ok (.bipush (-4), 2) := by decide +kernel
theorem d_w_lamp_51 : decode prog_1_method_6_code 51 = .ok (.ireturn, 1) := by decide +kernel
theorem d_w_lamp_52 : decode prog_1_method_6_code 52 = .ok (.aload_n 0, 1) := by decide +kernel
theorem d_w_lamp_53 : decode prog_1_method_6_code 53 = .ok (.getfield 136, 3) := by decide +kernel
theorem d_w_lamp_56 : decode prog_1_method_6_code 56 = .ok (.ifCond .gt 20, 3) := by decide +kernel
theorem d_w_lamp_59 : decode prog_1_method_6_code 59 = .ok (.aload_n 0, 1) := by decide +kernel
theorem d_w_lamp_6 : decode prog_1_method_6_code 6 = .ok (.ifCond .eq 31, 3) := by decide +kernel
theorem d_w_lamp_60 : decode prog_1_method_6_code 60 = .ok (.getfield 142, 3) := by decide +kernel
theorem d_w_lamp_63 : decode prog_1_method_6_code 63 = .ok (.ifCond .gt 13, 3) := by decide +kernel
theorem d_w_lamp_66 : decode prog_1_method_6_code 66 = .ok (.aload_n 0, 1) := by decide +kernel
theorem d_w_lamp_67 : decode prog_1_method_6_code 67 = .ok (.getfield 45, 3) := by decide +kernel
theorem d_w_lamp_70 : decode prog_1_method_6_code 70 = .ok (.getfield 139, 3) := by decide +kernel
theorem d_w_lamp_73 : decode prog_1_method_6_code 73 = .ok (.ifCond .le 6, 3) := by decide +kernel
theorem d_w_lamp_76 : decode prog_1_method_6_code 76 = .ok (.bipush (-3), 2) := by decide +kernel
theorem d_w_lamp_78 : decode prog_1_method_6_code 78 = .ok (.ireturn, 1) := by decide +kernel
theorem d_w_lamp_79 : decode prog_1_method_6_code 79 = .ok (.aload_n 0, 1) := by decide +kernel
theorem d_w_lamp_80 : decode prog_1_method_6_code 80 = .ok (.getfield 17, 3) := by decide +kernel
theorem d_w_lamp_83 : decode prog_1_method_6_code 83 = .ok (.aload_n 0, 1) := by decide +kernel
theorem d_w_lamp_84 : decode prog_1_method_6_code 84 = .ok (.getfield 133, 3) := by decide +kernel
theorem d_w_lamp_87 : decode prog_1_method_6_code 87 = .ok (.aaload, 1) := by decide +kernel
theorem d_w_lamp_88 : decode prog_1_method_6_code 88 = .ok (.iload_n 1, 1) := by decide +kernel
theorem d_w_lamp_89 : decode prog_1_method_6_code 89 = .ok (.iload_n 2, 1) := by decide +kernel
theorem d_w_lamp_9 : decode prog_1_method_6_code 9 = .ok (.iload_n 2, 1) := by decide +kernel
theorem d_w_lamp_90 : decode prog_1_method_6_code 90 = .ok (.iload_n 3, 1) := by decide +kernel
theorem d_w_lamp_91 : decode prog_1_method_6_code 91 = .ok (.iload 4, 2) := by decide +kernel
theorem d_w_lamp_93 : decode prog_1_method_6_code 93 = .ok (.invokevirtual 155, 3) := by decide +kernel
theorem d_w_lamp_96 : decode prog_1_method_6_code 96 = .ok (.iload_n 1, 1) := by decide +kernel
theorem d_w_lamp_97 : decode prog_1_method_6_code 97 = .ok (.iconst 3, 1) := by decide +kernel
theorem d_w_lamp_98 : decode prog_1_method_6_code 98 = .ok (.if_icmp .ne 31, 3) := by decide +kernel
theorem d_w_lampsBy_0 : decode prog_1_method_90_code 0 = .ok (.iload_n 1, 1) := by decide +kernel
theorem d_w_lampsBy_1 : decode prog_1_method_90_code 1 = .ok (.invokestatic 205, 3) := by decide +kernel
theorem d_w_lampsBy_10 : decode prog_1_method_90_code 10 = .ok (.invokestatic 110, 3) := by decide +kernel
theorem d_w_lampsBy_102 : decode prog_1_method_90_code 102 = .ok (.iload 8, 2) := by decide +kernel
theorem d_w_lampsBy_104 : decode prog_1_method_90_code 104 = .ok (.iaload, 1) := by decide +kernel
theorem d_w_lampsBy_105 : decode prog_1_method_90_code 105 = .ok (.aload 5, 2) := by decide +kernel
theorem d_w_lampsBy_107 : decode prog_1_method_90_code 107 = .ok (.getfield 378, 3) := by decide +kernel
theorem d_w_lampsBy_110 : decode prog_1_method_90_code 110 = .ok (.iload 8, 2) := by decide +kernel
theorem d_w_lampsBy_112 : decode prog_1_method_90_code 112 = .ok (.iconst 1, 1) := by decide +kernel
theorem d_w_lampsBy_113 : decode prog_1_method_90_code 113 = .ok (.iadd, 1) := by decide +kernel
theorem d_w_lampsBy_114 : decode prog_1_method_90_code 114 = .ok (.iaload, 1) := by decide +kernel
theorem d_w_lampsBy_115 : decode prog_1_method_90_code 115 = .ok (.aload 5, 2) := by decide +kernel
theorem d_w_lampsBy_117 : decode prog_1_method_90_code 117 = .ok (.getfield 378, 3) := by decide +kernel
theorem d_w_lampsBy_120 : decode prog_1_method_90_code 120 = .ok (.iload 8, 2) := by decide +kernel
theorem d_w_lampsBy_122 : decode prog_1_method_90_code 122 = .ok (.iconst 2, 1) := by decide +kernel
theorem d_w_lampsBy_123 : decode prog_1_method_90_code 123 = .ok (.iadd, 1) := by decide +kernel
theorem d_w_lampsBy_124 : decode prog_1_method_90_code 124 = .ok (.iaload, 1) := by decide +kernel
theorem d_w_lampsBy_125 : decode prog_1_method_90_code 125 = .ok (.aload 5, 2) := by decide +kernel
theorem d_w_lampsBy_127 : decode prog_1_method_90_code 127 = .ok (.getfield 378, 3) := by decide +kernel
theorem d_w_lampsBy_13 : decode prog_1_method_90_code 13 = .ok (.ifCond .eq 14, 3) := by decide +kernel
theorem d_w_lampsBy_130 : decode prog_1_method_90_code 130 = .ok (.iload 8, 2) := by decide +kernel
theorem d_w_lampsBy_132 : decode prog_1_method_90_code 132 = .ok (.iconst 3, 1) := by decide +kernel
theorem d_w_lampsBy_133 : decode prog_1_method_90_code 133 = .ok (.iadd, 1) := by decide +kernel
theorem d_w_lampsBy_134 : decode prog_1_method_90_code 134 = .ok (.iaload, 1) := by decide +kernel
theorem d_w_lampsBy_135 : decode prog_1_method_90_code 135 = .ok (.invokevirtual 439, 3) := by decide +kernel
theorem d_w_lampsBy_138 : decode prog_1_method_90_code 138 = .ok (.ifCond .lt 6, 3) := by decide +kernel
theorem d_w_lampsBy_141 : decode prog_1_method_90_code 141 = .ok (.iinc 6 1, 3) := by decide +kernel
theorem d_w_lampsBy_144 : decode prog_1_method_90_code 144 = .ok (.iinc 7 1, 3) := by decide +kernel
theorem d_w_lampsBy_147 : decode prog_1_method_90_code 147 = .ok (.goto (-80), 3) := by decide +kernel
theorem d_w_lampsBy_150 : decode prog_1_method_90_code 150 = .ok (.iload 6, 2) := by decide +kernel
theorem d_w_lampsBy_152 : decode prog_1_method_90_code 152 = .ok (.ireturn, 1) := by decide +kernel
theorem d_w_lampsBy_16 : decode prog_1_method_90_code 16 = .ok (.iload 4, 2) := by decide +kernel
theorem d_w_lampsBy_18 : decode prog_1_method_90_code 18 = .ok (.iconst 0, 1) := by decide +kernel
theorem d_w_lampsBy_19 : decode prog_1_method_90_code 19 = .ok (.bipush 10, 2) := by decide +kernel
theorem d_w_lampsBy_21 : decode prog_1_method_90_code 21 = .ok (.invokestatic 110, 3) := by decide +kernel
theorem d_w_lampsBy_24 : decode prog_1_method_90_code 24 = .ok (.ifCond .ne 6, 3) := by decide +kernel
theorem d_w_lampsBy_27 : decode prog_1_method_90_code 27 = .ok (.bipush (-2), 2) := by decide +kernel
theorem d_w_lampsBy_29 : decode prog_1_method_90_code 29 = .ok (.ireturn, 1) := by decide +kernel
theorem d_w_lampsBy_30 : decode prog_1_method_90_code 30 = .ok (.aload_n 0, 1) := by decide +kernel
theorem d_w_lampsBy_31 : decode prog_1_method_90_code 31 = .ok (.getfield 38, 3) := by decide +kernel
theorem d_w_lampsBy_34 : decode prog_1_method_90_code 34 = .ok (.iload_n 1, 1) := by decide +kernel
theorem d_w_lampsBy_35 : decode prog_1_method_90_code 35 = .ok (.aaload, 1) := by decide +kernel
theorem d_w_lampsBy_36 : decode prog_1_method_90_code 36 = .ok (.astore 5, 2) := by decide +kernel
theorem d_w_lampsBy_38 : decode prog_1_method_90_code 38 = .ok (.aload 5, 2) := by decide +kernel
theorem d_w_lampsBy_4 : decode prog_1_method_90_code 4 = .ok (.ifCond .eq 23, 3) := by decide +kernel
theorem d_w_lampsBy_40 : decode prog_1_method_90_code 40 = .ok (.invokevirtual 208, 3) := by decide +kernel
theorem d_w_lampsBy_43 : decode prog_1_method_90_code 43 = .ok (.ifCond .eq 6, 3) := by decide +kernel
theorem d_w_lampsBy_46 : decode prog_1_method_90_code 46 = .ok (.bipush (-11), 2) := by decide +kernel
theorem d_w_lampsBy_48 : decode prog_1_method_90_code 48 = .ok (.ireturn, 1) := by decide +kernel
theorem d_w_lampsBy_49 : decode prog_1_method_90_code 49 = .ok (.aload 5, 2) := by decide +kernel
theorem d_w_lampsBy_51 : decode prog_1_method_90_code 51 = .ok (.getfield 427, 3) := by decide +kernel
theorem d_w_lampsBy_54 : decode prog_1_method_90_code 54 = .ok (.iload_n 2, 1) := by decide +kernel
theorem d_w_lampsBy_55 : decode prog_1_method_90_code 55 = .ok (.if_icmp .eq 6, 3) := by decide +kernel
theorem d_w_lampsBy_58 : decode prog_1_method_90_code 58 = .ok (.bipush (-13), 2) := by decide +kernel
theorem d_w_lampsBy_60 : decode prog_1_method_90_code 60 = .ok (.ireturn, 1) := by decide +kernel
theorem d_w_lampsBy_61 : decode prog_1_method_90_code 61 = .ok (.iconst 0, 1) := by decide +kernel
theorem d_w_lampsBy_62 : decode prog_1_method_90_code 62 = .ok (.istore 6, 2) := by decide +kernel
theorem d_w_lampsBy_64 : decode prog_1_method_90_code 64 = .ok (.iconst 0, 1) := by decide +kernel
theorem d_w_lampsBy_65 : decode prog_1_method_90_code 65 = .ok (.istore 7, 2) := by decide +kernel
theorem d_w_lampsBy_67 : decode prog_1_method_90_code 67 = .ok (.iload 7, 2) := by decide +kernel
theorem d_w_lampsBy_69 : decode prog_1_method_90_code 69 = .ok (.iload 4, 2) := by decide +kernel
theorem d_w_lampsBy_7 : decode prog_1_method_90_code 7 = .ok (.iload_n 2, 1) := by decide +kernel
theorem d_w_lampsBy_71 : decode prog_1_method_90_code 71 = .ok (.if_icmp .ge 79, 3) := by decide +kernel
theorem d_w_lampsBy_74 : decode prog_1_method_90_code 74 = .ok (.iload_n 3, 1) := by decide +kernel
theorem d_w_lampsBy_75 : decode prog_1_method_90_code 75 = .ok (.iconst 4, 1) := by decide +kernel
theorem d_w_lampsBy_76 : decode prog_1_method_90_code 76 = .ok (.iload 7, 2) := by decide +kernel
theorem d_w_lampsBy_78 : decode prog_1_method_90_code 78 = .ok (.imul, 1) := by decide +kernel
theorem d_w_lampsBy_79 : decode prog_1_method_90_code 79 = .ok (.iadd, 1) := by decide +kernel
theorem d_w_lampsBy_8 : decode prog_1_method_90_code 8 = .ok (.iconst 0, 1) := by decide +kernel
theorem d_w_lampsBy_80 : decode prog_1_method_90_code 80 = .ok (.istore 8, 2) := by decide +kernel
theorem d_w_lampsBy_82 : decode prog_1_method_90_code 82 = .ok (.aload 5, 2) := by decide +kernel
theorem d_w_lampsBy_84 : decode prog_1_method_90_code 84 = .ok (.iload 8, 2) := by decide +kernel
theorem d_w_lampsBy_86 : decode prog_1_method_90_code 86 = .ok (.iconst 4, 1) := by decide +kernel
theorem d_w_lampsBy_87 : decode prog_1_method_90_code 87 = .ok (.invokevirtual 430, 3) := by decide +kernel
theorem d_w_lampsBy_9 : decode prog_1_method_90_code 9 = .ok (.iconst 2, 1) := by decide +kernel
theorem d_w_lampsBy_90 : decode prog_1_method_90_code 90 = .ok (.ifCond .ne 6, 3) := by decide +kernel
theorem d_w_lampsBy_93 : decode prog_1_method_90_code 93 = .ok (.bipush (-12), 2) := by decide +kernel
theorem d_w_lampsBy_95 : decode prog_1_method_90_code 95 = .ok (.ireturn, 1) := by decide +kernel
theorem d_w_lampsBy_96 : decode prog_1_method_90_code 96 = .ok (.aload_n 0, 1) := by decide +kernel
theorem d_w_lampsBy_97 : decode prog_1_method_90_code 97 = .ok (.aload 5, 2) := by decide +kernel
theorem d_w_lampsBy_99 : decode prog_1_method_90_code 99 = .ok (.getfield 378, 3) := by decide +kernel
theorem d_w_lampsIn_0 : decode prog_1_method_24_code 0 = .ok (.iconst 0, 1) := by decide +kernel
theorem d_w_lampsIn_1 : decode prog_1_method_24_code 1 = .ok (.istore_n 2, 1) := by decide +kernel
theorem d_w_lampsIn_12 : decode prog_1_method_24_code 12 = .ok (.iload_n 1, 1) := by decide +kernel
theorem d_w_lampsIn_13 : decode prog_1_method_24_code 13 = .ok (.aload_n 0, 1) := by decide +kernel
theorem d_w_lampsIn_14 : decode prog_1_method_24_code 14 = .ok (.getfield 17, 3) := by decide +kernel
theorem d_w_lampsIn_17 : decode prog_1_method_24_code 17 = .ok (.iload_n 3, 1) := by decide +kernel
theorem d_w_lampsIn_18 : decode prog_1_method_24_code 18 = .ok (.aaload, 1) := by decide +kernel
theorem d_w_lampsIn_19 : decode prog_1_method_24_code 19 = .ok (.getfield 171, 3) := by decide +kernel
theorem d_w_lampsIn_2 : decode prog_1_method_24_code 2 = .ok (.iconst 0, 1) := by decide +kernel
theorem d_w_lampsIn_22 : decode prog_1_method_24_code 22 = .ok (.invokestatic 242, 3) := by decide +kernel
theorem d_w_lampsIn_25 : decode prog_1_method_24_code 25 = .ok (.ifCond .eq 9, 3) := by decide +kernel
theorem d_w_lampsIn_28 : decode prog_1_method_24_code 28 = .ok (.iload_n 2, 1) := by decide +kernel
theorem d_w_lampsIn_29 : decode prog_1_method_24_code 29 = .ok (.iconst 1, 1) := by decide +kernel
theorem d_w_lampsIn_3 : decode prog_1_method_24_code 3 = .ok (.istore_n 3, 1) := by decide +kernel
theorem d_w_lampsIn_30 : decode prog_1_method_24_code 30 = .ok (.iload_n 3, 1) := by decide +kernel
theorem d_w_lampsIn_31 : decode prog_1_method_24_code 31 = .ok (.ishl, 1) := by decide +kernel
theorem d_w_lampsIn_32 : decode prog_1_method_24_code 32 = .ok (.ior, 1) := by decide +kernel
theorem d_w_lampsIn_33 : decode prog_1_method_24_code 33 = .ok (.istore_n 2, 1) := by decide +kernel
theorem d_w_lampsIn_34 : decode prog_1_method_24_code 34 = .ok (.iinc 3 1, 3) := by decide +kernel
theorem d_w_lampsIn_37 : decode prog_1_method_24_code 37 = .ok (.goto (-33), 3) := by decide +kernel
theorem d_w_lampsIn_4 : decode prog_1_method_24_code 4 = .ok (.iload_n 3, 1) := by decide +kernel
theorem d_w_lampsIn_40 : decode prog_1_method_24_code 40 = .ok (.iload_n 2, 1) := by decide +kernel
theorem d_w_lampsIn_41 : decode prog_1_method_24_code 41 = .ok (.ireturn, 1) := by decide +kernel
theorem d_w_lampsIn_5 : decode prog_1_method_24_code 5 = .ok (.aload_n 0, 1) := by decide +kernel
theorem d_w_lampsIn_6 : decode prog_1_method_24_code 6 = .ok (.getfield 133, 3) := by decide +kernel
theorem d_w_lampsIn_9 : decode prog_1_method_24_code 9 = .ok (.if_icmp .ge 31, 3) := by decide +kernel
theorem d_w_lampsOn_0 : decode prog_1_method_21_code 0 = .ok (.iconst 0, 1) := by decide +kernel
theorem d_w_lampsOn_1 : decode prog_1_method_21_code 1 = .ok (.istore_n 3, 1) := by decide +kernel
theorem d_w_lampsOn_11 : decode prog_1_method_21_code 11 = .ok (.if_icmp .ge 31, 3) := by decide +kernel
theorem d_w_lampsOn_14 : decode prog_1_method_21_code 14 = .ok (.aload_n 0, 1) := by decide +kernel
theorem d_w_lampsOn_15 : decode prog_1_method_21_code 15 = .ok (.getfield 17, 3) := by decide +kernel
theorem d_w_lampsOn_18 : decode prog_1_method_21_code 18 = .ok (.iload 4, 2) := by decide +kernel
theorem d_w_lampsOn_2 : decode prog_1_method_21_code 2 = .ok (.iconst 0, 1) := by decide +kernel
theorem d_w_lampsOn_20 : decode prog_1_method_21_code 20 = .ok (.aaload, 1) := by decide +kernel
theorem d_w_lampsOn_21 : decode prog_1_method_21_code 21 = .ok (.iload_n 1, 1) := by decide +kernel
theorem d_w_lampsOn_22 : decode prog_1_method_21_code 22 = .ok (.iload_n 2, 1) := by decide +kernel
theorem d_w_lampsOn_23 : decode prog_1_method_21_code 23 = .ok (.invokevirtual 239, 3) := by decide +kernel
theorem d_w_lampsOn_26 : decode prog_1_method_21_code 26 = .ok (.ifCond .eq 10, 3) := by decide +kernel
theorem d_w_lampsOn_29 : decode prog_1_method_21_code 29 = .ok (.iload_n 3, 1) := by decide +kernel
theorem d_w_lampsOn_3 : decode prog_1_method_21_code 3 = .ok (.istore 4, 2) := by decide +kernel
theorem d_w_lampsOn_30 : decode prog_1_method_21_code 30 = .ok (.iconst 1, 1) := by decide +kernel
theorem d_w_lampsOn_31 : decode prog_1_method_21_code 31 = .ok (.iload 4, 2) := by decide +kernel
theorem d_w_lampsOn_33 : decode prog_1_method_21_code 33 = .ok (.ishl, 1) := by decide +kernel
theorem d_w_lampsOn_34 : decode prog_1_method_21_code 34 = .ok (.ior, 1) := by decide +kernel
theorem d_w_lampsOn_35 : decode prog_1_method_21_code 35 = .ok (.istore_n 3, 1) := by decide +kernel
theorem d_w_lampsOn_36 : decode prog_1_method_21_code 36 = .ok (.iinc 4 1, 3) := by decide +kernel
theorem d_w_lampsOn_39 : decode prog_1_method_21_code 39 = .ok (.goto (-34), 3) := by decide +kernel
theorem d_w_lampsOn_42 : decode prog_1_method_21_code 42 = .ok (.iload_n 3, 1) := by decide +kernel
theorem d_w_lampsOn_43 : decode prog_1_method_21_code 43 = .ok (.ireturn, 1) := by decide +kernel
theorem d_w_lampsOn_5 : decode prog_1_method_21_code 5 = .ok (.iload 4, 2) := by decide +kernel
theorem d_w_lampsOn_7 : decode prog_1_method_21_code 7 = .ok (.aload_n 0, 1) := by decide +kernel
theorem d_w_lampsOn_8 : decode prog_1_method_21_code 8 = .ok (.getfield 133, 3) := by decide +kernel
theorem d_w_lawSaysOfLamp_0 : decode prog_1_method_13_code 0 = .ok (.aload_n 0, 1) := by decide +kernel
theorem d_w_lawSaysOfLamp_1 : decode prog_1_method_13_code 1 = .ok (.getfield 17, 3) := by decide +kernel
theorem d_w_lawSaysOfLamp_12 : decode prog_1_method_13_code 12 = .ok (.aload 4, 2) := by decide +kernel
theorem d_w_lawSaysOfLamp_14 : decode prog_1_method_13_code 14 = .ok (.getfield 168, 3) := by decide +kernel
theorem d_w_lawSaysOfLamp_17 : decode prog_1_method_13_code 17 = .ok (.iload_n 3, 1) := by decide +kernel
theorem d_w_lawSaysOfLamp_18 : decode prog_1_method_13_code 18 = .ok (.aload_n 0, 1) := by decide +kernel
theorem d_w_lawSaysOfLamp_19 : decode prog_1_method_13_code 19 = .ok (.getfield 45, 3) := by decide +kernel
theorem d_w_lawSaysOfLamp_22 : decode prog_1_method_13_code 22 = .ok (.getfield 127, 3) := by decide +kernel
theorem d_w_lawSaysOfLamp_25 : decode prog_1_method_13_code 25 = .ok (.iconst 2, 1) := by decide +kernel
theorem d_w_lawSaysOfLamp_26 : decode prog_1_method_13_code 26 = .ok (.iaload, 1) := by decide +kernel
theorem d_w_lawSaysOfLamp_27 : decode prog_1_method_13_code 27 = .ok (.aload 4, 2) := by decide +kernel
theorem d_w_lawSaysOfLamp_29 : decode prog_1_method_13_code 29 = .ok (.getfield 171, 3) := by decide +kernel
theorem d_w_lawSaysOfLamp_32 : decode prog_1_method_13_code 32 = .ok (.aload 4, 2) := by decide +kernel
theorem d_w_lawSaysOfLamp_34 : decode prog_1_method_13_code 34 = .ok (.getfield 180, 3) := by decide +kernel
theorem d_w_lawSaysOfLamp_37 : decode prog_1_method_13_code 37 = .ok (.iconst 0, 1) := by decide +kernel
theorem d_w_lawSaysOfLamp_38 : decode prog_1_method_13_code 38 = .ok (.invokevirtual 187, 3) := by decide +kernel
theorem d_w_lawSaysOfLamp_4 : decode prog_1_method_13_code 4 = .ok (.iload_n 2, 1) := by decide +kernel
theorem d_w_lawSaysOfLamp_41 : decode prog_1_method_13_code 41 = .ok (.aload_n 0, 1) := by decide +kernel
theorem d_w_lawSaysOfLamp_42 : decode prog_1_method_13_code 42 = .ok (.getfield 62, 3) := by decide +kernel
theorem d_w_lawSaysOfLamp_45 : decode prog_1_method_13_code 45 = .ok (.aload_n 0, 1) := by decide +kernel
theorem d_w_lawSaysOfLamp_46 : decode prog_1_method_13_code 46 = .ok (.invokevirtual 191, 3) := by decide +kernel
theorem d_w_lawSaysOfLamp_49 : decode prog_1_method_13_code 49 = .ok (.iload_n 1, 1) := by decide +kernel
theorem d_w_lawSaysOfLamp_5 : decode prog_1_method_13_code 5 = .ok (.aaload, 1) := by decide +kernel
theorem d_w_lawSaysOfLamp_50 : decode prog_1_method_13_code 50 = .ok (.invokevirtual 195, 3) := by decide +kernel
theorem d_w_lawSaysOfLamp_53 : decode prog_1_method_13_code 53 = .ok (.ireturn, 1) := by decide +kernel
theorem d_w_lawSaysOfLamp_6 : decode prog_1_method_13_code 6 = .ok (.astore 4, 2) := by decide +kernel
theorem d_w_lawSaysOfLamp_8 : decode prog_1_method_13_code 8 = .ok (.aload_n 0, 1) := by decide +kernel
theorem d_w_lawSaysOfLamp_9 : decode prog_1_method_13_code 9 = .ok (.getfield 62, 3) := by decide +kernel
theorem d_w_leftBehind_0 : decode prog_1_method_48_code 0 = .ok (.iconst 0, 1) := by decide +kernel
theorem d_w_leftBehind_1 : decode prog_1_method_48_code 1 = .ok (.istore_n 3, 1) := by decide +kernel
theorem d_w_leftBehind_10 : decode prog_1_method_48_code 10 = .ok (.aload_n 0, 1) := by decide +kernel
theorem d_w_leftBehind_11 : decode prog_1_method_48_code 11 = .ok (.getfield 136, 3) := by decide +kernel
theorem d_w_leftBehind_14 : decode prog_1_method_48_code 14 = .ok (.if_icmp .ge 57, 3) := by decide +kernel
theorem d_w_leftBehind_17 : decode prog_1_method_48_code 17 = .ok (.iload 4, 2) := by decide +kernel
theorem d_w_leftBehind_19 : decode prog_1_method_48_code 19 = .ok (.iload 5, 2) := by decide +kernel
theorem d_w_leftBehind_2 : decode prog_1_method_48_code 2 = .ok (.iload_n 2, 1) := by decide +kernel
theorem d_w_leftBehind_21 : decode prog_1_method_48_code 21 = .ok (.invokestatic 242, 3) := by decide +kernel
theorem d_w_leftBehind_24 : decode prog_1_method_48_code 24 = .ok (.ifCond .eq 41, 3) := by decide +kernel
theorem d_w_leftBehind_27 : decode prog_1_method_48_code 27 = .ok (.aload_n 0, 1) := by decide +kernel
theorem d_w_leftBehind_28 : decode prog_1_method_48_code 28 = .ok (.iload_n 1, 1) := by decide +kernel
theorem d_w_leftBehind_29 : decode prog_1_method_48_code 29 = .ok (.iload 5, 2) := by decide +kernel
theorem d_w_leftBehind_3 : decode prog_1_method_48_code 3 = .ok (.istore 4, 2) := by decide +kernel
theorem d_w_leftBehind_31 : decode prog_1_method_48_code 31 = .ok (.iload 4, 2) := by decide +kernel
theorem d_w_leftBehind_33 : decode prog_1_method_48_code 33 = .ok (.invokevirtual 324, 3) := by decide +kernel
theorem d_w_leftBehind_36 : decode prog_1_method_48_code 36 = .ok (.istore 6, 2) := by decide +kernel
theorem d_w_leftBehind_38 : decode prog_1_method_48_code 38 = .ok (.iload 4, 2) := by decide +kernel
theorem d_w_leftBehind_40 : decode prog_1_method_48_code 40 = .ok (.iload 6, 2) := by decide +kernel
theorem d_w_leftBehind_42 : decode prog_1_method_48_code 42 = .ok (.iconst (-1), 1) := by decide +kernel
theorem d_w_leftBehind_43 : decode prog_1_method_48_code 43 = .ok (.ixor, 1) := by decide +kernel
theorem d_w_leftBehind_44 : decode prog_1_method_48_code 44 = .ok (.iand, 1) := by decide +kernel
theorem d_w_leftBehind_45 : decode prog_1_method_48_code 45 = .ok (.istore 4, 2) := by decide +kernel
theorem d_w_leftBehind_47 : decode prog_1_method_48_code 47 = .ok (.iload_n 3, 1) := by decide +kernel
theorem d_w_leftBehind_48 : decode prog_1_method_48_code 48 = .ok (.aload_n 0, 1) := by decide +kernel
theorem d_w_leftBehind_49 : decode prog_1_method_48_code 49 = .ok (.aload_n 0, 1) := by decide +kernel
theorem d_w_leftBehind_5 : decode prog_1_method_48_code 5 = .ok (.iconst 0, 1) := by decide +kernel
theorem d_w_leftBehind_50 : decode prog_1_method_48_code 50 = .ok (.iload 6, 2) := by decide +kernel
theorem d_w_leftBehind_52 : decode prog_1_method_48_code 52 = .ok (.iconst 2, 1) := by decide +kernel
theorem d_w_leftBehind_53 : decode prog_1_method_48_code 53 = .ok (.invokevirtual 313, 3) := by decide +kernel
theorem d_w_leftBehind_56 : decode prog_1_method_48_code 56 = .ok (.iload 6, 2) := by decide +kernel
theorem d_w_leftBehind_58 : decode prog_1_method_48_code 58 = .ok (.invokevirtual 310, 3) := by decide +kernel
theorem d_w_leftBehind_6 : decode prog_1_method_48_code 6 = .ok (.istore 5, 2) := by decide +kernel
theorem d_w_leftBehind_61 : decode prog_1_method_48_code 61 = .ok (.invokestatic 248, 3) := by decide +kernel
theorem d_w_leftBehind_64 : decode prog_1_method_48_code 64 = .ok (.istore_n 3, 1) := by decide +kernel
theorem d_w_leftBehind_65 : decode prog_1_method_48_code 65 = .ok (.iinc 5 1, 3) := by decide +kernel
theorem d_w_leftBehind_68 : decode prog_1_method_48_code 68 = .ok (.goto (-60), 3) := by decide +kernel
theorem d_w_leftBehind_71 : decode prog_1_method_48_code 71 = .ok (.iload_n 3, 1) := by decide +kernel
theorem d_w_leftBehind_72 : decode prog_1_method_48_code 72 = .ok (.ireturn, 1) := by decide +kernel
theorem d_w_leftBehind_8 : decode prog_1_method_48_code 8 = .ok (.iload 5, 2) := by decide +kernel
theorem d_w_letHouses_0 : decode prog_1_method_41_code 0 = .ok (.aload_n 0, 1) := by decide +kernel
theorem d_w_letHouses_1 : decode prog_1_method_41_code 1 = .ok (.getfield 136, 3) := by decide +kernel
theorem d_w_letHouses_10 : decode prog_1_method_41_code 10 = .ok (.iload_n 2, 1) := by decide +kernel
theorem d_w_letHouses_11 : decode prog_1_method_41_code 11 = .ok (.aload_n 0, 1) := by decide +kernel
theorem d_w_letHouses_12 : decode prog_1_method_41_code 12 = .ok (.getfield 45, 3) := by decide +kernel
theorem d_w_letHouses_15 : decode prog_1_method_41_code 15 = .ok (.getfield 139, 3) := by decide +kernel
theorem d_w_letHouses_18 : decode prog_1_method_41_code 18 = .ok (.if_icmp .ge 25, 3) := by decide +kernel
theorem d_w_letHouses_21 : decode prog_1_method_41_code 21 = .ok (.iload_n 1, 1) := by decide +kernel
theorem d_w_letHouses_22 : decode prog_1_method_41_code 22 = .ok (.aload_n 0, 1) := by decide +kernel
theorem d_w_letHouses_23 : decode prog_1_method_41_code 23 = .ok (.aload_n 0, 1) := by decide +kernel
theorem d_w_letHouses_24 : decode prog_1_method_41_code 24 = .ok (.getfield 45, 3) := by decide +kernel
theorem d_w_letHouses_27 : decode prog_1_method_41_code 27 = .ok (.getfield 269, 3) := by decide +kernel
theorem d_w_letHouses_30 : decode prog_1_method_41_code 30 = .ok (.iload_n 2, 1) := by decide +kernel
theorem d_w_letHouses_31 : decode prog_1_method_41_code 31 = .ok (.aaload, 1) := by decide +kernel
theorem d_w_letHouses_32 : decode prog_1_method_41_code 32 = .ok (.invokevirtual 327, 3) := by decide +kernel
theorem d_w_letHouses_35 : decode prog_1_method_41_code 35 = .ok (.iand, 1) := by decide +kernel
theorem d_w_letHouses_36 : decode prog_1_method_41_code 36 = .ok (.istore_n 1, 1) := by decide +kernel
theorem d_w_letHouses_37 : decode prog_1_method_41_code 37 = .ok (.iinc 2 1, 3) := by decide +kernel
theorem d_w_letHouses_4 : decode prog_1_method_41_code 4 = .ok (.invokestatic 130, 3) := by decide +kernel
theorem d_w_letHouses_40 : decode prog_1_method_41_code 40 = .ok (.goto (-30), 3) := by decide +kernel
theorem d_w_letHouses_43 : decode prog_1_method_41_code 43 = .ok (.iload_n 1, 1) := by decide +kernel
theorem d_w_letHouses_44 : decode prog_1_method_41_code 44 = .ok (.ireturn, 1) := by decide +kernel
theorem d_w_letHouses_7 : decode prog_1_method_41_code 7 = .ok (.istore_n 1, 1) := by decide +kernel
theorem d_w_letHouses_8 : decode prog_1_method_41_code 8 = .ok (.iconst 0, 1) := by decide +kernel
theorem d_w_letHouses_9 : decode prog_1_method_41_code 9 = .ok (.istore_n 2, 1) := by decide +kernel
theorem d_w_lets_0 : decode prog_1_method_31_code 0 = .ok (.aload_n 0, 1) := by decide +kernel
theorem d_w_lets_1 : decode prog_1_method_31_code 1 = .ok (.invokevirtual 297, 3) := by decide +kernel
theorem d_w_lets_4 : decode prog_1_method_31_code 4 = .ok (.ireturn, 1) := by decide +kernel
theorem d_w_likeliest_0 : decode prog_1_method_32_code 0 = .ok (.iconst (-1), 1) := by decide +kernel
theorem d_w_likeliest_1 : decode prog_1_method_32_code 1 = .ok (.istore_n 1, 1) := by decide +kernel
theorem d_w_likeliest_11 : decode prog_1_method_32_code 11 = .ok (.if_icmp .ge 32, 3) := by decide +kernel
theorem d_w_likeliest_14 : decode prog_1_method_32_code 14 = .ok (.aload_n 0, 1) := by decide +kernel
theorem d_w_likeliest_15 : decode prog_1_method_32_code 15 = .ok (.iload_n 3, 1) := by decide +kernel
theorem d_w_likeliest_16 : decode prog_1_method_32_code 16 = .ok (.invokevirtual 294, 3) := by decide +kernel
theorem d_w_likeliest_19 : decode prog_1_method_32_code 19 = .ok (.istore 4, 2) := by decide +kernel
theorem d_w_likeliest_2 : decode prog_1_method_32_code 2 = .ok (.iconst 0, 1) := by decide +kernel
theorem d_w_likeliest_21 : decode prog_1_method_32_code 21 = .ok (.iload_n 1, 1) := by decide +kernel
theorem d_w_likeliest_22 : decode prog_1_method_32_code 22 = .ok (.iconst (-1), 1) := by decide +kernel
theorem d_w_likeliest_23 : decode prog_1_method_32_code 23 = .ok (.if_icmp .eq 9, 3) := by decide +kernel
theorem d_w_likeliest_26 : decode prog_1_method_32_code 26 = .ok (.iload 4, 2) := by decide +kernel
theorem d_w_likeliest_28 : decode prog_1_method_32_code 28 = .ok (.iload_n 2, 1) := by decide +kernel
theorem d_w_likeliest_29 : decode prog_1_method_32_code 29 = .ok (.if_icmp .ge 8, 3) := by decide +kernel
theorem d_w_likeliest_3 : decode prog_1_method_32_code 3 = .ok (.istore_n 2, 1) := by decide +kernel
theorem d_w_likeliest_32 : decode prog_1_method_32_code 32 = .ok (.iload_n 3, 1) := by decide +kernel
theorem d_w_likeliest_33 : decode prog_1_method_32_code 33 = .ok (.istore_n 1, 1) := by decide +kernel
theorem d_w_likeliest_34 : decode prog_1_method_32_code 34 = .ok (.iload 4, 2) := by decide +kernel
theorem d_w_likeliest_36 : decode prog_1_method_32_code 36 = .ok (.istore_n 2, 1) := by decide +kernel
theorem d_w_likeliest_37 : decode prog_1_method_32_code 37 = .ok (.iinc 3 1, 3) := by decide +kernel
theorem d_w_likeliest_4 : decode prog_1_method_32_code 4 = .ok (.iconst 0, 1) := by decide +kernel
theorem d_w_likeliest_40 : decode prog_1_method_32_code 40 = .ok (.goto (-34), 3) := by decide +kernel
theorem d_w_likeliest_43 : decode prog_1_method_32_code 43 = .ok (.iload_n 1, 1) := by decide +kernel
theorem d_w_likeliest_44 : decode prog_1_method_32_code 44 = .ok (.ireturn, 1) := by decide +kernel
theorem d_w_likeliest_5 : decode prog_1_method_32_code 5 = .ok (.istore_n 3, 1) := by decide +kernel
theorem d_w_likeliest_6 : decode prog_1_method_32_code 6 = .ok (.iload_n 3, 1) := by decide +kernel
theorem d_w_likeliest_7 : decode prog_1_method_32_code 7 = .ok (.aload_n 0, 1) := by decide +kernel
theorem d_w_likeliest_8 : decode prog_1_method_32_code 8 = .ok (.getfield 136, 3) := by decide +kernel
theorem d_w_litNow_0 : decode prog_1_method_23_code 0 = .ok (.aload_n 0, 1) := by decide +kernel
theorem d_w_litNow_1 : decode prog_1_method_23_code 1 = .ok (.iload_n 1, 1) := by decide +kernel
theorem d_w_litNow_10 : decode prog_1_method_23_code 10 = .ok (.iaload, 1) := by decide +kernel
theorem d_w_litNow_11 : decode prog_1_method_23_code 11 = .ok (.invokevirtual 233, 3) := by decide +kernel
theorem d_w_litNow_14 : decode prog_1_method_23_code 14 = .ok (.aload_n 0, 1) := by decide +kernel
theorem d_w_litNow_15 : decode prog_1_method_23_code 15 = .ok (.aload_n 0, 1) := by decide +kernel
theorem d_w_litNow_16 : decode prog_1_method_23_code 16 = .ok (.getfield 45, 3) := by decide +kernel
theorem d_w_litNow_19 : decode prog_1_method_23_code 19 = .ok (.getfield 127, 3) := by decide +kernel
theorem d_w_litNow_2 : decode prog_1_method_23_code 2 = .ok (.aload_n 0, 1) := by decide +kernel
theorem d_w_litNow_22 : decode prog_1_method_23_code 22 = .ok (.iconst 1, 1) := by decide +kernel
theorem d_w_litNow_23 : decode prog_1_method_23_code 23 = .ok (.iaload, 1) := by decide +kernel
theorem d_w_litNow_24 : decode prog_1_method_23_code 24 = .ok (.aload_n 0, 1) := by decide +kernel
theorem d_w_litNow_25 : decode prog_1_method_23_code 25 = .ok (.getfield 45, 3) := by decide +kernel
theorem d_w_litNow_28 : decode prog_1_method_23_code 28 = .ok (.getfield 127, 3) := by decide +kernel
theorem d_w_litNow_3 : decode prog_1_method_23_code 3 = .ok (.getfield 45, 3) := by decide +kernel
theorem d_w_litNow_31 : decode prog_1_method_23_code 31 = .ok (.iconst 2, 1) := by decide +kernel
theorem d_w_litNow_32 : decode prog_1_method_23_code 32 = .ok (.iaload, 1) := by decide +kernel
theorem d_w_litNow_33 : decode prog_1_method_23_code 33 = .ok (.invokevirtual 236, 3) := by decide +kernel
theorem d_w_litNow_36 : decode prog_1_method_23_code 36 = .ok (.iand, 1) := by decide +kernel
theorem d_w_litNow_37 : decode prog_1_method_23_code 37 = .ok (.ireturn, 1) := by decide +kernel
theorem d_w_litNow_6 : decode prog_1_method_23_code 6 = .ok (.getfield 127, 3) := by decide +kernel
theorem d_w_litNow_9 : decode prog_1_method_23_code 9 = .ok (.iconst 0, 1) := by decide +kernel
theorem d_w_live_0 : decode prog_1_method_51_code 0 = .ok (.aload_n 0, 1) := by decide +kernel
theorem d_w_live_1 : decode prog_1_method_51_code 1 = .ok (.iload_n 1, 1) := by decide +kernel
theorem d_w_live_10 : decode prog_1_method_51_code 10 = .ok (.ireturn, 1) := by decide +kernel
theorem d_w_live_11 : decode prog_1_method_51_code 11 = .ok (.aload_n 0, 1) := by decide +kernel
theorem d_w_live_12 : decode prog_1_method_51_code 12 = .ok (.iload_n 2, 1) := by decide +kernel
theorem d_w_live_13 : decode prog_1_method_51_code 13 = .ok (.invokevirtual 300, 3) := by decide +kernel
theorem d_w_live_16 : decode prog_1_method_51_code 16 = .ok (.ifCond .ne 6, 3) := by decide +kernel
theorem d_w_live_19 : decode prog_1_method_51_code 19 = .ok (.bipush (-7), 2) := by decide +kernel
theorem d_w_live_2 : decode prog_1_method_51_code 2 = .ok (.invokevirtual 162, 3) := by decide +kernel
theorem d_w_live_21 : decode prog_1_method_51_code 21 = .ok (.ireturn, 1) := by decide +kernel
theorem d_w_live_22 : decode prog_1_method_51_code 22 = .ok (.aload_n 0, 1) := by decide +kernel
theorem d_w_live_23 : decode prog_1_method_51_code 23 = .ok (.iload_n 1, 1) := by decide +kernel
theorem d_w_live_24 : decode prog_1_method_51_code 24 = .ok (.iload_n 2, 1) := by decide +kernel
theorem d_w_live_25 : decode prog_1_method_51_code 25 = .ok (.aload_n 0, 1) := by decide +kernel
theorem d_w_live_26 : decode prog_1_method_51_code 26 = .ok (.invokevirtual 297, 3) := by decide +kernel
theorem d_w_live_29 : decode prog_1_method_51_code 29 = .ok (.invokevirtual 334, 3) := by decide +kernel
theorem d_w_live_32 : decode prog_1_method_51_code 32 = .ok (.ireturn, 1) := by decide +kernel
theorem d_w_live_5 : decode prog_1_method_51_code 5 = .ok (.ifCond .ne 6, 3) := by decide +kernel
theorem d_w_live_8 : decode prog_1_method_51_code 8 = .ok (.bipush (-5), 2) := by decide +kernel
theorem d_w_loadOf_0 : decode prog_1_method_82_code 0 = .ok (.iconst 0, 1) := by decide +kernel
theorem d_w_loadOf_1 : decode prog_1_method_82_code 1 = .ok (.istore_n 3, 1) := by decide +kernel
theorem d_w_loadOf_11 : decode prog_1_method_82_code 11 = .ok (.if_icmp .ge 36, 3) := by decide +kernel
theorem d_w_loadOf_14 : decode prog_1_method_82_code 14 = .ok (.iload_n 1, 1) := by decide +kernel
theorem d_w_loadOf_15 : decode prog_1_method_82_code 15 = .ok (.iload_n 2, 1) := by decide +kernel
theorem d_w_loadOf_16 : decode prog_1_method_82_code 16 = .ok (.iand, 1) := by decide +kernel
theorem d_w_loadOf_17 : decode prog_1_method_82_code 17 = .ok (.iload 4, 2) := by decide +kernel
theorem d_w_loadOf_19 : decode prog_1_method_82_code 19 = .ok (.invokestatic 242, 3) := by decide +kernel
theorem d_w_loadOf_2 : decode prog_1_method_82_code 2 = .ok (.iconst 0, 1) := by decide +kernel
theorem d_w_loadOf_22 : decode prog_1_method_82_code 22 = .ok (.ifCond .eq 19, 3) := by decide +kernel
theorem d_w_loadOf_25 : decode prog_1_method_82_code 25 = .ok (.iload_n 3, 1) := by decide +kernel
theorem d_w_loadOf_26 : decode prog_1_method_82_code 26 = .ok (.aload_n 0, 1) := by decide +kernel
theorem d_w_loadOf_27 : decode prog_1_method_82_code 27 = .ok (.iload 4, 2) := by decide +kernel
theorem d_w_loadOf_29 : decode prog_1_method_82_code 29 = .ok (.aload_n 0, 1) := by decide +kernel
theorem d_w_loadOf_3 : decode prog_1_method_82_code 3 = .ok (.istore 4, 2) := by decide +kernel
theorem d_w_loadOf_30 : decode prog_1_method_82_code 30 = .ok (.iload 4, 2) := by decide +kernel
theorem d_w_loadOf_32 : decode prog_1_method_82_code 32 = .ok (.iload_n 2, 1) := by decide +kernel
theorem d_w_loadOf_33 : decode prog_1_method_82_code 33 = .ok (.invokevirtual 253, 3) := by decide +kernel
theorem d_w_loadOf_36 : decode prog_1_method_82_code 36 = .ok (.invokevirtual 415, 3) := by decide +kernel
theorem d_w_loadOf_39 : decode prog_1_method_82_code 39 = .ok (.iadd, 1) := by decide +kernel
theorem d_w_loadOf_40 : decode prog_1_method_82_code 40 = .ok (.istore_n 3, 1) := by decide +kernel
theorem d_w_loadOf_41 : decode prog_1_method_82_code 41 = .ok (.iinc 4 1, 3) := by decide +kernel
theorem d_w_loadOf_44 : decode prog_1_method_82_code 44 = .ok (.goto (-39), 3) := by decide +kernel
theorem d_w_loadOf_47 : decode prog_1_method_82_code 47 = .ok (.iload_n 3, 1) := by decide +kernel
theorem d_w_loadOf_48 : decode prog_1_method_82_code 48 = .ok (.ireturn, 1) := by decide +kernel
theorem d_w_loadOf_5 : decode prog_1_method_82_code 5 = .ok (.iload 4, 2) := by decide +kernel
theorem d_w_loadOf_7 : decode prog_1_method_82_code 7 = .ok (.aload_n 0, 1) := by decide +kernel
theorem d_w_loadOf_8 : decode prog_1_method_82_code 8 = .ok (.getfield 133, 3) := by decide +kernel
theorem d_w_load_0 : decode prog_1_method_72_code 0 = .ok (.aload_n 0, 1) := by decide +kernel
theorem d_w_load_1 : decode prog_1_method_72_code 1 = .ok (.iload_n 1, 1) := by decide +kernel
theorem d_w_load_10 : decode prog_1_method_72_code 10 = .ok (.invokevirtual 384, 3) := by decide +kernel
theorem d_w_load_13 : decode prog_1_method_72_code 13 = .ok (.ifCond .ne 6, 3) := by decide +kernel
theorem d_w_load_16 : decode prog_1_method_72_code 16 = .ok (.bipush (-5), 2) := by decide +kernel
theorem d_w_load_18 : decode prog_1_method_72_code 18 = .ok (.ireturn, 1) := by decide +kernel
theorem d_w_load_19 : decode prog_1_method_72_code 19 = .ok (.aload_n 0, 1) := by decide +kernel
theorem d_w_load_2 : decode prog_1_method_72_code 2 = .ok (.invokevirtual 217, 3) := by decide +kernel
theorem d_w_load_20 : decode prog_1_method_72_code 20 = .ok (.invokevirtual 387, 3) := by decide +kernel
theorem d_w_load_23 : decode prog_1_method_72_code 23 = .ok (.aload_n 0, 1) := by decide +kernel
theorem d_w_load_24 : decode prog_1_method_72_code 24 = .ok (.aload_n 0, 1) := by decide +kernel
theorem d_w_load_25 : decode prog_1_method_72_code 25 = .ok (.getfield 23, 3) := by decide +kernel
theorem d_w_load_28 : decode prog_1_method_72_code 28 = .ok (.iload_n 1, 1) := by decide +kernel
theorem d_w_load_29 : decode prog_1_method_72_code 29 = .ok (.aaload, 1) := by decide +kernel
theorem d_w_load_30 : decode prog_1_method_72_code 30 = .ok (.getfield 245, 3) := by decide +kernel
theorem d_w_load_33 : decode prog_1_method_72_code 33 = .ok (.iload_n 2, 1) := by decide +kernel
theorem d_w_load_34 : decode prog_1_method_72_code 34 = .ok (.iaload, 1) := by decide +kernel
theorem d_w_load_35 : decode prog_1_method_72_code 35 = .ok (.aload_n 0, 1) := by decide +kernel
theorem d_w_load_36 : decode prog_1_method_72_code 36 = .ok (.iload_n 1, 1) := by decide +kernel
theorem d_w_load_37 : decode prog_1_method_72_code 37 = .ok (.invokevirtual 223, 3) := by decide +kernel
theorem d_w_load_40 : decode prog_1_method_72_code 40 = .ok (.invokevirtual 390, 3) := by decide +kernel
theorem d_w_load_43 : decode prog_1_method_72_code 43 = .ok (.ireturn, 1) := by decide +kernel
theorem d_w_load_5 : decode prog_1_method_72_code 5 = .ok (.ifCond .eq 11, 3) := by decide +kernel
theorem d_w_load_8 : decode prog_1_method_72_code 8 = .ok (.aload_n 0, 1) := by decide +kernel
theorem d_w_load_9 : decode prog_1_method_72_code 9 = .ok (.iload_n 2, 1) := by decide +kernel
theorem d_w_lotAfter_0 : decode prog_1_method_86_code 0 = .ok (.lload_n 0, 1) := by decide +kernel
theorem d_w_lotAfter_1 : decode prog_1_method_86_code 1 = .ok (.ldc2_w 418, 3) := by decide +kernel
theorem d_w_lotAfter_4 : decode prog_1_method_86_code 4 = .ok (.lmul, 1) := by decide +kernel
theorem d_w_lotAfter_5 : decode prog_1_method_86_code 5 = .ok (.ldc2_w 420, 3) := by decide +kernel
theorem d_w_lotAfter_8 : decode prog_1_method_86_code 8 = .ok (.lrem, 1) := by decide +kernel
theorem d_w_lotAfter_9 : decode prog_1_method_86_code 9 = .ok (.lreturn, 1) := by decide +kernel
theorem d_w_meter_0 : decode prog_1_method_75_code 0 = .ok (.aload_n 0, 1) := by decide +kernel
theorem d_w_meter_1 : decode prog_1_method_75_code 1 = .ok (.iload_n 1, 1) := by decide +kernel
theorem d_w_meter_10 : decode prog_1_method_75_code 10 = .ok (.ireturn, 1) := by decide +kernel
theorem d_w_meter_11 : decode prog_1_method_75_code 11 = .ok (.aload_n 0, 1) := by decide +kernel
theorem d_w_meter_12 : decode prog_1_method_75_code 12 = .ok (.invokevirtual 387, 3) := by decide +kernel
theorem d_w_meter_15 : decode prog_1_method_75_code 15 = .ok (.aload_n 0, 1) := by decide +kernel
theorem d_w_meter_16 : decode prog_1_method_75_code 16 = .ok (.aload_n 0, 1) := by decide +kernel
theorem d_w_meter_17 : decode prog_1_method_75_code 17 = .ok (.getfield 133, 3) := by decide +kernel
theorem d_w_meter_2 : decode prog_1_method_75_code 2 = .ok (.invokevirtual 217, 3) := by decide +kernel
theorem d_w_meter_20 : decode prog_1_method_75_code 20 = .ok (.invokestatic 130, 3) := by decide +kernel
theorem d_w_meter_23 : decode prog_1_method_75_code 23 = .ok (.aload_n 0, 1) := by decide +kernel
theorem d_w_meter_24 : decode prog_1_method_75_code 24 = .ok (.iload_n 1, 1) := by decide +kernel
theorem d_w_meter_25 : decode prog_1_method_75_code 25 = .ok (.invokevirtual 223, 3) := by decide +kernel
theorem d_w_meter_28 : decode prog_1_method_75_code 28 = .ok (.invokevirtual 390, 3) := by decide +kernel
theorem d_w_meter_31 : decode prog_1_method_75_code 31 = .ok (.ireturn, 1) := by decide +kernel
theorem d_w_meter_5 : decode prog_1_method_75_code 5 = .ok (.ifCond .ne 6, 3) := by decide +kernel
theorem d_w_meter_8 : decode prog_1_method_75_code 8 = .ok (.bipush (-5), 2) := by decide +kernel
theorem d_w_miss_0 : decode prog_1_method_30_code 0 = .ok (.aload_n 0, 1) := by decide +kernel
theorem d_w_miss_1 : decode prog_1_method_30_code 1 = .ok (.iload_n 1, 1) := by decide +kernel
theorem d_w_miss_10 : decode prog_1_method_30_code 10 = .ok (.invokevirtual 294, 3) := by decide +kernel
theorem d_w_miss_13 : decode prog_1_method_30_code 13 = .ok (.goto 5, 3) := by decide +kernel
theorem d_w_miss_16 : decode prog_1_method_30_code 16 = .ok (.bipush (-5), 2) := by decide +kernel
theorem d_w_miss_18 : decode prog_1_method_30_code 18 = .ok (.ireturn, 1) := by decide +kernel
theorem d_w_miss_2 : decode prog_1_method_30_code 2 = .ok (.invokevirtual 217, 3) := by decide +kernel
theorem d_w_miss_5 : decode prog_1_method_30_code 5 = .ok (.ifCond .eq 11, 3) := by decide +kernel
theorem d_w_miss_8 : decode prog_1_method_30_code 8 = .ok (.aload_n 0, 1) := by decide +kernel
theorem d_w_miss_9 : decode prog_1_method_30_code 9 = .ok (.iload_n 1, 1) := by decide +kernel
theorem d_w_missesOf_0 : decode prog_1_method_40_code 0 = .ok (.iconst 0, 1) := by decide +kernel
theorem d_w_missesOf_1 : decode prog_1_method_40_code 1 = .ok (.istore_n 2, 1) := by decide +kernel
theorem d_w_missesOf_12 : decode prog_1_method_40_code 12 = .ok (.if_icmp .ge 29, 3) := by decide +kernel
theorem d_w_missesOf_15 : decode prog_1_method_40_code 15 = .ok (.iload_n 2, 1) := by decide +kernel
theorem d_w_missesOf_16 : decode prog_1_method_40_code 16 = .ok (.aload_n 0, 1) := by decide +kernel
theorem d_w_missesOf_17 : decode prog_1_method_40_code 17 = .ok (.iload_n 1, 1) := by decide +kernel
theorem d_w_missesOf_18 : decode prog_1_method_40_code 18 = .ok (.aload_n 0, 1) := by decide +kernel
theorem d_w_missesOf_19 : decode prog_1_method_40_code 19 = .ok (.getfield 45, 3) := by decide +kernel
theorem d_w_missesOf_2 : decode prog_1_method_40_code 2 = .ok (.iconst 0, 1) := by decide +kernel
theorem d_w_missesOf_22 : decode prog_1_method_40_code 22 = .ok (.getfield 269, 3) := by decide +kernel
theorem d_w_missesOf_25 : decode prog_1_method_40_code 25 = .ok (.iload_n 3, 1) := by decide +kernel
theorem d_w_missesOf_26 : decode prog_1_method_40_code 26 = .ok (.aaload, 1) := by decide +kernel
theorem d_w_missesOf_27 : decode prog_1_method_40_code 27 = .ok (.invokevirtual 290, 3) := by decide +kernel
theorem d_w_missesOf_3 : decode prog_1_method_40_code 3 = .ok (.istore_n 3, 1) := by decide +kernel
theorem d_w_missesOf_30 : decode prog_1_method_40_code 30 = .ok (.invokestatic 316, 3) := by decide +kernel
theorem d_w_missesOf_33 : decode prog_1_method_40_code 33 = .ok (.iadd, 1) := by decide +kernel
theorem d_w_missesOf_34 : decode prog_1_method_40_code 34 = .ok (.istore_n 2, 1) := by decide +kernel
theorem d_w_missesOf_35 : decode prog_1_method_40_code 35 = .ok (.iinc 3 1, 3) := by decide +kernel
theorem d_w_missesOf_38 : decode prog_1_method_40_code 38 = .ok (.goto (-34), 3) := by decide +kernel
theorem d_w_missesOf_4 : decode prog_1_method_40_code 4 = .ok (.iload_n 3, 1) := by decide +kernel
theorem d_w_missesOf_41 : decode prog_1_method_40_code 41 = .ok (.iload_n 2, 1) := by decide +kernel
theorem d_w_missesOf_42 : decode prog_1_method_40_code 42 = .ok (.ireturn, 1) := by decide +kernel
theorem d_w_missesOf_5 : decode prog_1_method_40_code 5 = .ok (.aload_n 0, 1) := by decide +kernel
theorem d_w_missesOf_6 : decode prog_1_method_40_code 6 = .ok (.getfield 45, 3) := by decide +kernel
theorem d_w_missesOf_9 : decode prog_1_method_40_code 9 = .ok (.getfield 139, 3) := by decide +kernel
theorem d_w_mostOf_0 : decode prog_1_method_4_code 0 = .ok (.iload_n 1, 1) := by decide +kernel
theorem d_w_mostOf_1 : decode prog_1_method_4_code 1 = .ok (.tableswitch 44 0 2 #[27, 35, 41], 27) := by decide +kernel
theorem d_w_mostOf_28 : decode prog_1_method_4_code 28 = .ok (.aload_n 0, 1) := by decide +kernel
theorem d_w_mostOf_29 : decode prog_1_method_4_code 29 = .ok (.getfield 114, 3) := by decide +kernel
theorem d_w_mostOf_32 : decode prog_1_method_4_code 32 = .ok (.invokestatic 130, 3) := by decide +kernel
theorem d_w_mostOf_35 : decode prog_1_method_4_code 35 = .ok (.ireturn, 1) := by decide +kernel
theorem d_w_mostOf_36 : decode prog_1_method_4_code 36 = .ok (.bipush 8, 2) := by decide +kernel
theorem d_w_mostOf_38 : decode prog_1_method_4_code 38 = .ok (.invokestatic 130, 3) := by decide +kernel
theorem d_w_mostOf_41 : decode prog_1_method_4_code 41 = .ok (.ireturn, 1) := by decide +kernel
theorem d_w_mostOf_42 : decode prog_1_method_4_code 42 = .ok (.bipush 23, 2) := by decide +kernel
theorem d_w_mostOf_44 : decode prog_1_method_4_code 44 = .ok (.ireturn, 1) := by decide +kernel
theorem d_w_mostOf_45 : decode prog_1_method_4_code 45 = .ok (.bipush 99, 2) := by decide +kernel
theorem d_w_mostOf_47 : decode prog_1_method_4_code 47 = .ok (.ireturn, 1) := by decide +kernel
theorem d_w_near_0 : decode prog_1_method_33_code 0 = .ok (.iload_n 1, 1) := by decide +kernel
theorem d_w_near_1 : decode prog_1_method_33_code 1 = .ok (.iconst 0, 1) := by decide +kernel
theorem d_w_near_11 : decode prog_1_method_33_code 11 = .ok (.bipush (-2), 2) := by decide +kernel
theorem d_w_near_13 : decode prog_1_method_33_code 13 = .ok (.ireturn, 1) := by decide +kernel
theorem d_w_near_14 : decode prog_1_method_33_code 14 = .ok (.iconst 0, 1) := by decide +kernel
theorem d_w_near_15 : decode prog_1_method_33_code 15 = .ok (.istore_n 2, 1) := by decide +kernel
theorem d_w_near_16 : decode prog_1_method_33_code 16 = .ok (.iconst 0, 1) := by decide +kernel
theorem d_w_near_17 : decode prog_1_method_33_code 17 = .ok (.istore_n 3, 1) := by decide +kernel
theorem d_w_near_18 : decode prog_1_method_33_code 18 = .ok (.iload_n 3, 1) := by decide +kernel
theorem d_w_near_19 : decode prog_1_method_33_code 19 = .ok (.aload_n 0, 1) := by decide +kernel
theorem d_w_near_2 : decode prog_1_method_33_code 2 = .ok (.sipush 999, 3) := by decide +kernel
theorem d_w_near_20 : decode prog_1_method_33_code 20 = .ok (.getfield 136, 3) := by decide +kernel
theorem d_w_near_23 : decode prog_1_method_33_code 23 = .ok (.if_icmp .ge 24, 3) := by decide +kernel
theorem d_w_near_26 : decode prog_1_method_33_code 26 = .ok (.aload_n 0, 1) := by decide +kernel
theorem d_w_near_27 : decode prog_1_method_33_code 27 = .ok (.iload_n 3, 1) := by decide +kernel
theorem d_w_near_28 : decode prog_1_method_33_code 28 = .ok (.invokevirtual 294, 3) := by decide +kernel
theorem d_w_near_31 : decode prog_1_method_33_code 31 = .ok (.iload_n 1, 1) := by decide +kernel
theorem d_w_near_32 : decode prog_1_method_33_code 32 = .ok (.if_icmp .gt 9, 3) := by decide +kernel
theorem d_w_near_35 : decode prog_1_method_33_code 35 = .ok (.iload_n 2, 1) := by decide +kernel
theorem d_w_near_36 : decode prog_1_method_33_code 36 = .ok (.iconst 1, 1) := by decide +kernel
theorem d_w_near_37 : decode prog_1_method_33_code 37 = .ok (.iload_n 3, 1) := by decide +kernel
theorem d_w_near_38 : decode prog_1_method_33_code 38 = .ok (.ishl, 1) := by decide +kernel
theorem d_w_near_39 : decode prog_1_method_33_code 39 = .ok (.ior, 1) := by decide +kernel
theorem d_w_near_40 : decode prog_1_method_33_code 40 = .ok (.istore_n 2, 1) := by decide +kernel
theorem d_w_near_41 : decode prog_1_method_33_code 41 = .ok (.iinc 3 1, 3) := by decide +kernel
theorem d_w_near_44 : decode prog_1_method_33_code 44 = .ok (.goto (-26), 3) := by decide +kernel
theorem d_w_near_47 : decode prog_1_method_33_code 47 = .ok (.iload_n 2, 1) := by decide +kernel
theorem d_w_near_48 : decode prog_1_method_33_code 48 = .ok (.ireturn, 1) := by decide +kernel
theorem d_w_near_5 : decode prog_1_method_33_code 5 = .ok (.invokestatic 110, 3) := by decide +kernel
theorem d_w_near_8 : decode prog_1_method_33_code 8 = .ok (.ifCond .ne 6, 3) := by decide +kernel
theorem d_w_nextSet_0 : decode prog_1_method_47_code 0 = .ok (.aload_n 0, 1) := by decide +kernel
theorem d_w_nextSet_1 : decode prog_1_method_47_code 1 = .ok (.getfield 114, 3) := by decide +kernel
theorem d_w_nextSet_11 : decode prog_1_method_47_code 11 = .ok (.bipush 13, 2) := by decide +kernel
theorem d_w_nextSet_13 : decode prog_1_method_47_code 13 = .ok (.istore 5, 2) := by decide +kernel
theorem d_w_nextSet_15 : decode prog_1_method_47_code 15 = .ok (.iconst 0, 1) := by decide +kernel
theorem d_w_nextSet_16 : decode prog_1_method_47_code 16 = .ok (.istore 6, 2) := by decide +kernel
theorem d_w_nextSet_18 : decode prog_1_method_47_code 18 = .ok (.iload 6, 2) := by decide +kernel
theorem d_w_nextSet_20 : decode prog_1_method_47_code 20 = .ok (.iload_n 3, 1) := by decide +kernel
theorem d_w_nextSet_21 : decode prog_1_method_47_code 21 = .ok (.if_icmp .gt 74, 3) := by decide +kernel
theorem d_w_nextSet_24 : decode prog_1_method_47_code 24 = .ok (.iload 6, 2) := by decide +kernel
theorem d_w_nextSet_26 : decode prog_1_method_47_code 26 = .ok (.invokestatic 316, 3) := by decide +kernel
theorem d_w_nextSet_29 : decode prog_1_method_47_code 29 = .ok (.iload_n 2, 1) := by decide +kernel
theorem d_w_nextSet_30 : decode prog_1_method_47_code 30 = .ok (.if_icmp .gt 59, 3) := by decide +kernel
theorem d_w_nextSet_33 : decode prog_1_method_47_code 33 = .ok (.aload_n 0, 1) := by decide +kernel
theorem d_w_nextSet_34 : decode prog_1_method_47_code 34 = .ok (.iload 6, 2) := by decide +kernel
theorem d_w_nextSet_36 : decode prog_1_method_47_code 36 = .ok (.iload_n 1, 1) := by decide +kernel
theorem d_w_nextSet_37 : decode prog_1_method_47_code 37 = .ok (.invokevirtual 310, 3) := by decide +kernel
theorem d_w_nextSet_4 : decode prog_1_method_47_code 4 = .ok (.invokestatic 130, 3) := by decide +kernel
theorem d_w_nextSet_40 : decode prog_1_method_47_code 40 = .ok (.istore 7, 2) := by decide +kernel
theorem d_w_nextSet_42 : decode prog_1_method_47_code 42 = .ok (.iload 6, 2) := by decide +kernel
theorem d_w_nextSet_44 : decode prog_1_method_47_code 44 = .ok (.invokestatic 316, 3) := by decide +kernel
theorem d_w_nextSet_47 : decode prog_1_method_47_code 47 = .ok (.iload 4, 2) := by decide +kernel
theorem d_w_nextSet_49 : decode prog_1_method_47_code 49 = .ok (.invokestatic 316, 3) := by decide +kernel
theorem d_w_nextSet_52 : decode prog_1_method_47_code 52 = .ok (.if_icmp .ge 7, 3) := by decide +kernel
theorem d_w_nextSet_55 : decode prog_1_method_47_code 55 = .ok (.iconst 1, 1) := by decide +kernel
theorem d_w_nextSet_56 : decode prog_1_method_47_code 56 = .ok (.goto 4, 3) := by decide +kernel
theorem d_w_nextSet_59 : decode prog_1_method_47_code 59 = .ok (.iconst 0, 1) := by decide +kernel
theorem d_w_nextSet_60 : decode prog_1_method_47_code 60 = .ok (.istore 8, 2) := by decide +kernel
theorem d_w_nextSet_62 : decode prog_1_method_47_code 62 = .ok (.iload 7, 2) := by decide +kernel
theorem d_w_nextSet_64 : decode prog_1_method_47_code 64 = .ok (.iload 5, 2) := by decide +kernel
theorem d_w_nextSet_66 : decode prog_1_method_47_code 66 = .ok (.if_icmp .lt 15, 3) := by decide +kernel
theorem d_w_nextSet_69 : decode prog_1_method_47_code 69 = .ok (.iload 7, 2) := by decide +kernel
theorem d_w_nextSet_7 : decode prog_1_method_47_code 7 = .ok (.istore_n 3, 1) := by decide +kernel
theorem d_w_nextSet_71 : decode prog_1_method_47_code 71 = .ok (.iload 5, 2) := by decide +kernel
theorem d_w_nextSet_73 : decode prog_1_method_47_code 73 = .ok (.if_icmp .ne 16, 3) := by decide +kernel
theorem d_w_nextSet_76 : decode prog_1_method_47_code 76 = .ok (.iload 8, 2) := by decide +kernel
theorem d_w_nextSet_78 : decode prog_1_method_47_code 78 = .ok (.ifCond .eq 11, 3) := by decide +kernel
theorem d_w_nextSet_8 : decode prog_1_method_47_code 8 = .ok (.iconst 0, 1) := by decide +kernel
theorem d_w_nextSet_81 : decode prog_1_method_47_code 81 = .ok (.iload 6, 2) := by decide +kernel
theorem d_w_nextSet_83 : decode prog_1_method_47_code 83 = .ok (.istore 4, 2) := by decide +kernel
theorem d_w_nextSet_85 : decode prog_1_method_47_code 85 = .ok (.iload 7, 2) := by decide +kernel
theorem d_w_nextSet_87 : decode prog_1_method_47_code 87 = .ok (.istore 5, 2) := by decide +kernel
theorem d_w_nextSet_89 : decode prog_1_method_47_code 89 = .ok (.iinc 6 1, 3) := by decide +kernel
theorem d_w_nextSet_9 : decode prog_1_method_47_code 9 = .ok (.istore 4, 2) := by decide +kernel
theorem d_w_nextSet_92 : decode prog_1_method_47_code 92 = .ok (.goto (-74), 3) := by decide +kernel
theorem d_w_nextSet_95 : decode prog_1_method_47_code 95 = .ok (.iload 4, 2) := by decide +kernel
theorem d_w_nextSet_97 : decode prog_1_method_47_code 97 = .ok (.ireturn, 1) := by decide +kernel
theorem d_w_next_0 : decode prog_1_method_35_code 0 = .ok (.iload_n 1, 1) := by decide +kernel
theorem d_w_next_1 : decode prog_1_method_35_code 1 = .ok (.invokestatic 260, 3) := by decide +kernel
theorem d_w_next_11 : decode prog_1_method_35_code 11 = .ok (.invokestatic 110, 3) := by decide +kernel
theorem d_w_next_14 : decode prog_1_method_35_code 14 = .ok (.ifCond .eq 12, 3) := by decide +kernel
theorem d_w_next_17 : decode prog_1_method_35_code 17 = .ok (.iload_n 3, 1) := by decide +kernel
theorem d_w_next_18 : decode prog_1_method_35_code 18 = .ok (.iconst 0, 1) := by decide +kernel
theorem d_w_next_19 : decode prog_1_method_35_code 19 = .ok (.iconst 1, 1) := by decide +kernel
theorem d_w_next_20 : decode prog_1_method_35_code 20 = .ok (.invokestatic 110, 3) := by decide +kernel
theorem d_w_next_23 : decode prog_1_method_35_code 23 = .ok (.ifCond .ne 6, 3) := by decide +kernel
theorem d_w_next_26 : decode prog_1_method_35_code 26 = .ok (.bipush (-2), 2) := by decide +kernel
theorem d_w_next_28 : decode prog_1_method_35_code 28 = .ok (.ireturn, 1) := by decide +kernel
theorem d_w_next_29 : decode prog_1_method_35_code 29 = .ok (.aload_n 0, 1) := by decide +kernel
theorem d_w_next_30 : decode prog_1_method_35_code 30 = .ok (.invokevirtual 297, 3) := by decide +kernel
theorem d_w_next_33 : decode prog_1_method_35_code 33 = .ok (.istore 4, 2) := by decide +kernel
theorem d_w_next_35 : decode prog_1_method_35_code 35 = .ok (.iload 4, 2) := by decide +kernel
theorem d_w_next_37 : decode prog_1_method_35_code 37 = .ok (.ifCond .ne 5, 3) := by decide +kernel
theorem d_w_next_4 : decode prog_1_method_35_code 4 = .ok (.ifCond .eq 22, 3) := by decide +kernel
theorem d_w_next_40 : decode prog_1_method_35_code 40 = .ok (.iconst (-1), 1) := by decide +kernel
theorem d_w_next_41 : decode prog_1_method_35_code 41 = .ok (.ireturn, 1) := by decide +kernel
theorem d_w_next_42 : decode prog_1_method_35_code 42 = .ok (.aload_n 0, 1) := by decide +kernel
theorem d_w_next_43 : decode prog_1_method_35_code 43 = .ok (.iload_n 1, 1) := by decide +kernel
theorem d_w_next_44 : decode prog_1_method_35_code 44 = .ok (.iload 4, 2) := by decide +kernel
theorem d_w_next_46 : decode prog_1_method_35_code 46 = .ok (.invokevirtual 303, 3) := by decide +kernel
theorem d_w_next_49 : decode prog_1_method_35_code 49 = .ok (.aload_n 0, 1) := by decide +kernel
theorem d_w_next_50 : decode prog_1_method_35_code 50 = .ok (.iload 4, 2) := by decide +kernel
theorem d_w_next_52 : decode prog_1_method_35_code 52 = .ok (.iload_n 2, 1) := by decide +kernel
theorem d_w_next_53 : decode prog_1_method_35_code 53 = .ok (.invokevirtual 313, 3) := by decide +kernel
theorem d_w_next_56 : decode prog_1_method_35_code 56 = .ok (.istore 5, 2) := by decide +kernel
theorem d_w_next_58 : decode prog_1_method_35_code 58 = .ok (.iload_n 3, 1) := by decide +kernel
theorem d_w_next_59 : decode prog_1_method_35_code 59 = .ok (.ifCond .ne 8, 3) := by decide +kernel
theorem d_w_next_62 : decode prog_1_method_35_code 62 = .ok (.iload 5, 2) := by decide +kernel
theorem d_w_next_64 : decode prog_1_method_35_code 64 = .ok (.goto 11, 3) := by decide +kernel
theorem d_w_next_67 : decode prog_1_method_35_code 67 = .ok (.aload_n 0, 1) := by decide +kernel
theorem d_w_next_68 : decode prog_1_method_35_code 68 = .ok (.iload 5, 2) := by decide +kernel
theorem d_w_next_7 : decode prog_1_method_35_code 7 = .ok (.iload_n 2, 1) := by decide +kernel
theorem d_w_next_70 : decode prog_1_method_35_code 70 = .ok (.iload 4, 2) := by decide +kernel
theorem d_w_next_72 : decode prog_1_method_35_code 72 = .ok (.invokevirtual 310, 3) := by decide +kernel
theorem d_w_next_75 : decode prog_1_method_35_code 75 = .ok (.ireturn, 1) := by decide +kernel
theorem d_w_next_8 : decode prog_1_method_35_code 8 = .ok (.iconst 0, 1) := by decide +kernel
theorem d_w_next_9 : decode prog_1_method_35_code 9 = .ok (.bipush 6, 2) := by decide +kernel
theorem d_w_nothing_0 : decode prog_1_method_20_code 0 = .ok (.aload_n 0, 1) := by decide +kernel
theorem d_w_nothing_1 : decode prog_1_method_20_code 1 = .ok (.iload_n 1, 1) := by decide +kernel
theorem d_w_nothing_10 : decode prog_1_method_20_code 10 = .ok (.ireturn, 1) := by decide +kernel
theorem d_w_nothing_100 : decode prog_1_method_20_code 100 = .ok (.istore 5, 2) := by decide +kernel
theorem d_w_nothing_102 : decode prog_1_method_20_code 102 = .ok (.iinc 6 1, 3) := by decide +kernel
theorem d_w_nothing_105 : decode prog_1_method_20_code 105 = .ok (.goto (-45), 3) := by decide +kernel
theorem d_w_nothing_108 : decode prog_1_method_20_code 108 = .ok (.iload 5, 2) := by decide +kernel
theorem d_w_nothing_11 : decode prog_1_method_20_code 11 = .ok (.aload_n 0, 1) := by decide +kernel
theorem d_w_nothing_110 : decode prog_1_method_20_code 110 = .ok (.ireturn, 1) := by decide +kernel
theorem d_w_nothing_12 : decode prog_1_method_20_code 12 = .ok (.iload_n 1, 1) := by decide +kernel
theorem d_w_nothing_13 : decode prog_1_method_20_code 13 = .ok (.aload_n 0, 1) := by decide +kernel
theorem d_w_nothing_14 : decode prog_1_method_20_code 14 = .ok (.getfield 45, 3) := by decide +kernel
theorem d_w_nothing_17 : decode prog_1_method_20_code 17 = .ok (.getfield 127, 3) := by decide +kernel
theorem d_w_nothing_2 : decode prog_1_method_20_code 2 = .ok (.invokevirtual 217, 3) := by decide +kernel
theorem d_w_nothing_20 : decode prog_1_method_20_code 20 = .ok (.iconst 0, 1) := by decide +kernel
theorem d_w_nothing_21 : decode prog_1_method_20_code 21 = .ok (.iaload, 1) := by decide +kernel
theorem d_w_nothing_22 : decode prog_1_method_20_code 22 = .ok (.invokevirtual 233, 3) := by decide +kernel
theorem d_w_nothing_25 : decode prog_1_method_20_code 25 = .ok (.istore_n 2, 1) := by decide +kernel
theorem d_w_nothing_26 : decode prog_1_method_20_code 26 = .ok (.aload_n 0, 1) := by decide +kernel
theorem d_w_nothing_27 : decode prog_1_method_20_code 27 = .ok (.getfield 45, 3) := by decide +kernel
theorem d_w_nothing_30 : decode prog_1_method_20_code 30 = .ok (.getfield 127, 3) := by decide +kernel
theorem d_w_nothing_33 : decode prog_1_method_20_code 33 = .ok (.iconst 1, 1) := by decide +kernel
theorem d_w_nothing_34 : decode prog_1_method_20_code 34 = .ok (.iaload, 1) := by decide +kernel
theorem d_w_nothing_35 : decode prog_1_method_20_code 35 = .ok (.istore_n 3, 1) := by decide +kernel
theorem d_w_nothing_36 : decode prog_1_method_20_code 36 = .ok (.iload_n 2, 1) := by decide +kernel
theorem d_w_nothing_37 : decode prog_1_method_20_code 37 = .ok (.aload_n 0, 1) := by decide +kernel
theorem d_w_nothing_38 : decode prog_1_method_20_code 38 = .ok (.iload_n 3, 1) := by decide +kernel
theorem d_w_nothing_39 : decode prog_1_method_20_code 39 = .ok (.aload_n 0, 1) := by decide +kernel
theorem d_w_nothing_40 : decode prog_1_method_20_code 40 = .ok (.getfield 45, 3) := by decide +kernel
theorem d_w_nothing_43 : decode prog_1_method_20_code 43 = .ok (.getfield 127, 3) := by decide +kernel
theorem d_w_nothing_46 : decode prog_1_method_20_code 46 = .ok (.iconst 2, 1) := by decide +kernel
theorem d_w_nothing_47 : decode prog_1_method_20_code 47 = .ok (.iaload, 1) := by decide +kernel
theorem d_w_nothing_48 : decode prog_1_method_20_code 48 = .ok (.invokevirtual 236, 3) := by decide +kernel
theorem d_w_nothing_5 : decode prog_1_method_20_code 5 = .ok (.ifCond .ne 6, 3) := by decide +kernel
theorem d_w_nothing_51 : decode prog_1_method_20_code 51 = .ok (.iand, 1) := by decide +kernel
theorem d_w_nothing_52 : decode prog_1_method_20_code 52 = .ok (.istore 4, 2) := by decide +kernel
theorem d_w_nothing_54 : decode prog_1_method_20_code 54 = .ok (.iconst 0, 1) := by decide +kernel
theorem d_w_nothing_55 : decode prog_1_method_20_code 55 = .ok (.istore 5, 2) := by decide +kernel
theorem d_w_nothing_57 : decode prog_1_method_20_code 57 = .ok (.iconst 0, 1) := by decide +kernel
theorem d_w_nothing_58 : decode prog_1_method_20_code 58 = .ok (.istore 6, 2) := by decide +kernel
theorem d_w_nothing_60 : decode prog_1_method_20_code 60 = .ok (.iload 6, 2) := by decide +kernel
theorem d_w_nothing_62 : decode prog_1_method_20_code 62 = .ok (.bipush 8, 2) := by decide +kernel
theorem d_w_nothing_64 : decode prog_1_method_20_code 64 = .ok (.if_icmp .ge 44, 3) := by decide +kernel
theorem d_w_nothing_67 : decode prog_1_method_20_code 67 = .ok (.iload_n 2, 1) := by decide +kernel
theorem d_w_nothing_68 : decode prog_1_method_20_code 68 = .ok (.aload_n 0, 1) := by decide +kernel
theorem d_w_nothing_69 : decode prog_1_method_20_code 69 = .ok (.iload_n 3, 1) := by decide +kernel
theorem d_w_nothing_70 : decode prog_1_method_20_code 70 = .ok (.iconst 1, 1) := by decide +kernel
theorem d_w_nothing_71 : decode prog_1_method_20_code 71 = .ok (.iload 6, 2) := by decide +kernel
theorem d_w_nothing_73 : decode prog_1_method_20_code 73 = .ok (.ishl, 1) := by decide +kernel
theorem d_w_nothing_74 : decode prog_1_method_20_code 74 = .ok (.ixor, 1) := by decide +kernel
theorem d_w_nothing_75 : decode prog_1_method_20_code 75 = .ok (.aload_n 0, 1) := by decide +kernel
theorem d_w_nothing_76 : decode prog_1_method_20_code 76 = .ok (.getfield 45, 3) := by decide +kernel
theorem d_w_nothing_79 : decode prog_1_method_20_code 79 = .ok (.getfield 127, 3) := by decide +kernel
theorem d_w_nothing_8 : decode prog_1_method_20_code 8 = .ok (.bipush (-5), 2) := by decide +kernel
theorem d_w_nothing_82 : decode prog_1_method_20_code 82 = .ok (.iconst 2, 1) := by decide +kernel
theorem d_w_nothing_83 : decode prog_1_method_20_code 83 = .ok (.iaload, 1) := by decide +kernel
theorem d_w_nothing_84 : decode prog_1_method_20_code 84 = .ok (.invokevirtual 236, 3) := by decide +kernel
theorem d_w_nothing_87 : decode prog_1_method_20_code 87 = .ok (.iand, 1) := by decide +kernel
theorem d_w_nothing_88 : decode prog_1_method_20_code 88 = .ok (.iload 4, 2) := by decide +kernel
theorem d_w_nothing_90 : decode prog_1_method_20_code 90 = .ok (.if_icmp .ne 12, 3) := by decide +kernel
theorem d_w_nothing_93 : decode prog_1_method_20_code 93 = .ok (.iload 5, 2) := by decide +kernel
theorem d_w_nothing_95 : decode prog_1_method_20_code 95 = .ok (.iconst 1, 1) := by decide +kernel
theorem d_w_nothing_96 : decode prog_1_method_20_code 96 = .ok (.iload 6, 2) := by decide +kernel
theorem d_w_nothing_98 : decode prog_1_method_20_code 98 = .ok (.ishl, 1) := by decide +kernel
theorem d_w_nothing_99 : decode prog_1_method_20_code 99 = .ok (.ior, 1) := by decide +kernel
theorem d_w_odds_0 : decode prog_1_method_64_code 0 = .ok (.aload_n 0, 1) := by decide +kernel
theorem d_w_odds_1 : decode prog_1_method_64_code 1 = .ok (.iload_n 1, 1) := by decide +kernel
theorem d_w_odds_10 : decode prog_1_method_64_code 10 = .ok (.iconst 1, 1) := by decide +kernel
theorem d_w_odds_11 : decode prog_1_method_64_code 11 = .ok (.invokestatic 110, 3) := by decide +kernel
theorem d_w_odds_14 : decode prog_1_method_64_code 14 = .ok (.ifCond .ne 7, 3) := by decide +kernel
theorem d_w_odds_17 : decode prog_1_method_64_code 17 = .ok (.ldc2_w 366, 3) := by decide +kernel
theorem d_w_odds_2 : decode prog_1_method_64_code 2 = .ok (.invokevirtual 357, 3) := by decide +kernel
theorem d_w_odds_20 : decode prog_1_method_64_code 20 = .ok (.lreturn, 1) := by decide +kernel
theorem d_w_odds_21 : decode prog_1_method_64_code 21 = .ok (.aload_n 0, 1) := by decide +kernel
theorem d_w_odds_22 : decode prog_1_method_64_code 22 = .ok (.invokevirtual 297, 3) := by decide +kernel
theorem d_w_odds_25 : decode prog_1_method_64_code 25 = .ok (.istore_n 3, 1) := by decide +kernel
theorem d_w_odds_26 : decode prog_1_method_64_code 26 = .ok (.aload_n 0, 1) := by decide +kernel
theorem d_w_odds_27 : decode prog_1_method_64_code 27 = .ok (.iload_n 1, 1) := by decide +kernel
theorem d_w_odds_28 : decode prog_1_method_64_code 28 = .ok (.iload_n 3, 1) := by decide +kernel
theorem d_w_odds_29 : decode prog_1_method_64_code 29 = .ok (.invokevirtual 363, 3) := by decide +kernel
theorem d_w_odds_32 : decode prog_1_method_64_code 32 = .ok (.istore 4, 2) := by decide +kernel
theorem d_w_odds_34 : decode prog_1_method_64_code 34 = .ok (.aload_n 0, 1) := by decide +kernel
theorem d_w_odds_35 : decode prog_1_method_64_code 35 = .ok (.getfield 133, 3) := by decide +kernel
theorem d_w_odds_38 : decode prog_1_method_64_code 38 = .ok (.iload_n 3, 1) := by decide +kernel
theorem d_w_odds_39 : decode prog_1_method_64_code 39 = .ok (.invokestatic 316, 3) := by decide +kernel
theorem d_w_odds_42 : decode prog_1_method_64_code 42 = .ok (.imul, 1) := by decide +kernel
theorem d_w_odds_43 : decode prog_1_method_64_code 43 = .ok (.istore 5, 2) := by decide +kernel
theorem d_w_odds_45 : decode prog_1_method_64_code 45 = .ok (.iload 4, 2) := by decide +kernel
theorem d_w_odds_47 : decode prog_1_method_64_code 47 = .ok (.iload 5, 2) := by decide +kernel
theorem d_w_odds_49 : decode prog_1_method_64_code 49 = .ok (.invokestatic 368, 3) := by decide +kernel
theorem d_w_odds_5 : decode prog_1_method_64_code 5 = .ok (.ifCond .eq 12, 3) := by decide +kernel
theorem d_w_odds_52 : decode prog_1_method_64_code 52 = .ok (.istore 6, 2) := by decide +kernel
theorem d_w_odds_54 : decode prog_1_method_64_code 54 = .ok (.iload 6, 2) := by decide +kernel
theorem d_w_odds_56 : decode prog_1_method_64_code 56 = .ok (.ifCond .gt 6, 3) := by decide +kernel
theorem d_w_odds_59 : decode prog_1_method_64_code 59 = .ok (.iload_n 2, 1) := by decide +kernel
theorem d_w_odds_60 : decode prog_1_method_64_code 60 = .ok (.i2l, 1) := by decide +kernel
theorem d_w_odds_61 : decode prog_1_method_64_code 61 = .ok (.lreturn, 1) := by decide +kernel
theorem d_w_odds_62 : decode prog_1_method_64_code 62 = .ok (.iload_n 2, 1) := by decide +kernel
theorem d_w_odds_63 : decode prog_1_method_64_code 63 = .ok (.ifCond .ne 12, 3) := by decide +kernel
theorem d_w_odds_66 : decode prog_1_method_64_code 66 = .ok (.iload 4, 2) := by decide +kernel
theorem d_w_odds_68 : decode prog_1_method_64_code 68 = .ok (.iload 6, 2) := by decide +kernel
theorem d_w_odds_70 : decode prog_1_method_64_code 70 = .ok (.idiv, 1) := by decide +kernel
theorem d_w_odds_71 : decode prog_1_method_64_code 71 = .ok (.i2l, 1) := by decide +kernel
theorem d_w_odds_72 : decode prog_1_method_64_code 72 = .ok (.goto 9, 3) := by decide +kernel
theorem d_w_odds_75 : decode prog_1_method_64_code 75 = .ok (.iload 5, 2) := by decide +kernel
theorem d_w_odds_77 : decode prog_1_method_64_code 77 = .ok (.iload 6, 2) := by decide +kernel
theorem d_w_odds_79 : decode prog_1_method_64_code 79 = .ok (.idiv, 1) := by decide +kernel
theorem d_w_odds_8 : decode prog_1_method_64_code 8 = .ok (.iload_n 2, 1) := by decide +kernel
theorem d_w_odds_80 : decode prog_1_method_64_code 80 = .ok (.i2l, 1) := by decide +kernel
theorem d_w_odds_81 : decode prog_1_method_64_code 81 = .ok (.lreturn, 1) := by decide +kernel
theorem d_w_odds_9 : decode prog_1_method_64_code 9 = .ok (.iconst 0, 1) := by decide +kernel
theorem d_w_order_0 : decode prog_1_method_77_code 0 = .ok (.aload_n 0, 1) := by decide +kernel
theorem d_w_order_1 : decode prog_1_method_77_code 1 = .ok (.iload_n 1, 1) := by decide +kernel
theorem d_w_order_10 : decode prog_1_method_77_code 10 = .ok (.iconst 1, 1) := by decide +kernel
theorem d_w_order_100 : decode prog_1_method_77_code 100 = .ok (.getfield 23, 3) := by decide +kernel
theorem d_w_order_103 : decode prog_1_method_77_code 103 = .ok (.iload_n 1, 1) := by decide +kernel
theorem d_w_order_104 : decode prog_1_method_77_code 104 = .ok (.aaload, 1) := by decide +kernel
theorem d_w_order_105 : decode prog_1_method_77_code 105 = .ok (.getfield 245, 3) := by decide +kernel
theorem d_w_order_108 : decode prog_1_method_77_code 108 = .ok (.iload 10, 2) := by decide +kernel
theorem d_w_order_11 : decode prog_1_method_77_code 11 = .ok (.invokestatic 110, 3) := by decide +kernel
theorem d_w_order_110 : decode prog_1_method_77_code 110 = .ok (.iaload, 1) := by decide +kernel
theorem d_w_order_111 : decode prog_1_method_77_code 111 = .ok (.invokevirtual 345, 3) := by decide +kernel
theorem d_w_order_114 : decode prog_1_method_77_code 114 = .ok (.i2l, 1) := by decide +kernel
theorem d_w_order_115 : decode prog_1_method_77_code 115 = .ok (.iload 8, 2) := by decide +kernel
theorem d_w_order_117 : decode prog_1_method_77_code 117 = .ok (.i2l, 1) := by decide +kernel
theorem d_w_order_118 : decode prog_1_method_77_code 118 = .ok (.lmul, 1) := by decide +kernel
theorem d_w_order_119 : decode prog_1_method_77_code 119 = .ok (.ladd, 1) := by decide +kernel
theorem d_w_order_120 : decode prog_1_method_77_code 120 = .ok (.lstore 6, 2) := by decide +kernel
theorem d_w_order_122 : decode prog_1_method_77_code 122 = .ok (.iinc 9 1, 3) := by decide +kernel
theorem d_w_order_125 : decode prog_1_method_77_code 125 = .ok (.goto (-84), 3) := by decide +kernel
theorem d_w_order_128 : decode prog_1_method_77_code 128 = .ok (.iload_n 2, 1) := by decide +kernel
theorem d_w_order_129 : decode prog_1_method_77_code 129 = .ok (.ifCond .ne 8, 3) := by decide +kernel
theorem d_w_order_132 : decode prog_1_method_77_code 132 = .ok (.lload 4, 2) := by decide +kernel
theorem d_w_order_134 : decode prog_1_method_77_code 134 = .ok (.goto 5, 3) := by decide +kernel
theorem d_w_order_137 : decode prog_1_method_77_code 137 = .ok (.lload 6, 2) := by decide +kernel
theorem d_w_order_139 : decode prog_1_method_77_code 139 = .ok (.lreturn, 1) := by decide +kernel
theorem d_w_order_14 : decode prog_1_method_77_code 14 = .ok (.ifCond .ne 7, 3) := by decide +kernel
theorem d_w_order_17 : decode prog_1_method_77_code 17 = .ok (.ldc2_w 366, 3) := by decide +kernel
theorem d_w_order_2 : decode prog_1_method_77_code 2 = .ok (.invokevirtual 217, 3) := by decide +kernel
theorem d_w_order_20 : decode prog_1_method_77_code 20 = .ok (.lreturn, 1) := by decide +kernel
theorem d_w_order_21 : decode prog_1_method_77_code 21 = .ok (.aload_n 0, 1) := by decide +kernel
theorem d_w_order_22 : decode prog_1_method_77_code 22 = .ok (.getfield 114, 3) := by decide +kernel
theorem d_w_order_25 : decode prog_1_method_77_code 25 = .ok (.invokestatic 130, 3) := by decide +kernel
theorem d_w_order_28 : decode prog_1_method_77_code 28 = .ok (.istore_n 3, 1) := by decide +kernel
theorem d_w_order_29 : decode prog_1_method_77_code 29 = .ok (.lconst 0, 1) := by decide +kernel
theorem d_w_order_30 : decode prog_1_method_77_code 30 = .ok (.lstore 4, 2) := by decide +kernel
theorem d_w_order_32 : decode prog_1_method_77_code 32 = .ok (.lconst 0, 1) := by decide +kernel
theorem d_w_order_33 : decode prog_1_method_77_code 33 = .ok (.lstore 6, 2) := by decide +kernel
theorem d_w_order_35 : decode prog_1_method_77_code 35 = .ok (.iconst 0, 1) := by decide +kernel
theorem d_w_order_36 : decode prog_1_method_77_code 36 = .ok (.istore 8, 2) := by decide +kernel
theorem d_w_order_38 : decode prog_1_method_77_code 38 = .ok (.iconst 0, 1) := by decide +kernel
theorem d_w_order_39 : decode prog_1_method_77_code 39 = .ok (.istore 9, 2) := by decide +kernel
theorem d_w_order_41 : decode prog_1_method_77_code 41 = .ok (.iload 9, 2) := by decide +kernel
theorem d_w_order_43 : decode prog_1_method_77_code 43 = .ok (.aload_n 0, 1) := by decide +kernel
theorem d_w_order_44 : decode prog_1_method_77_code 44 = .ok (.getfield 114, 3) := by decide +kernel
theorem d_w_order_47 : decode prog_1_method_77_code 47 = .ok (.if_icmp .ge 81, 3) := by decide +kernel
theorem d_w_order_5 : decode prog_1_method_77_code 5 = .ok (.ifCond .eq 12, 3) := by decide +kernel
theorem d_w_order_50 : decode prog_1_method_77_code 50 = .ok (.aload_n 0, 1) := by decide +kernel
theorem d_w_order_51 : decode prog_1_method_77_code 51 = .ok (.iload_n 1, 1) := by decide +kernel
theorem d_w_order_52 : decode prog_1_method_77_code 52 = .ok (.iload_n 3, 1) := by decide +kernel
theorem d_w_order_53 : decode prog_1_method_77_code 53 = .ok (.invokevirtual 397, 3) := by decide +kernel
theorem d_w_order_56 : decode prog_1_method_77_code 56 = .ok (.istore 10, 2) := by decide +kernel
theorem d_w_order_58 : decode prog_1_method_77_code 58 = .ok (.iload_n 3, 1) := by decide +kernel
theorem d_w_order_59 : decode prog_1_method_77_code 59 = .ok (.iconst 1, 1) := by decide +kernel
theorem d_w_order_60 : decode prog_1_method_77_code 60 = .ok (.iload 10, 2) := by decide +kernel
theorem d_w_order_62 : decode prog_1_method_77_code 62 = .ok (.ishl, 1) := by decide +kernel
theorem d_w_order_63 : decode prog_1_method_77_code 63 = .ok (.iconst (-1), 1) := by decide +kernel
theorem d_w_order_64 : decode prog_1_method_77_code 64 = .ok (.ixor, 1) := by decide +kernel
theorem d_w_order_65 : decode prog_1_method_77_code 65 = .ok (.iand, 1) := by decide +kernel
theorem d_w_order_66 : decode prog_1_method_77_code 66 = .ok (.istore_n 3, 1) := by decide +kernel
theorem d_w_order_67 : decode prog_1_method_77_code 67 = .ok (.iload 8, 2) := by decide +kernel
theorem d_w_order_69 : decode prog_1_method_77_code 69 = .ok (.aload_n 0, 1) := by decide +kernel
theorem d_w_order_70 : decode prog_1_method_77_code 70 = .ok (.getfield 11, 3) := by decide +kernel
theorem d_w_order_73 : decode prog_1_method_77_code 73 = .ok (.iload 10, 2) := by decide +kernel
theorem d_w_order_75 : decode prog_1_method_77_code 75 = .ok (.aaload, 1) := by decide +kernel
theorem d_w_order_76 : decode prog_1_method_77_code 76 = .ok (.getfield 120, 3) := by decide +kernel
theorem d_w_order_79 : decode prog_1_method_77_code 79 = .ok (.iadd, 1) := by decide +kernel
theorem d_w_order_8 : decode prog_1_method_77_code 8 = .ok (.iload_n 2, 1) := by decide +kernel
theorem d_w_order_80 : decode prog_1_method_77_code 80 = .ok (.istore 8, 2) := by decide +kernel
theorem d_w_order_82 : decode prog_1_method_77_code 82 = .ok (.lload 4, 2) := by decide +kernel
theorem d_w_order_84 : decode prog_1_method_77_code 84 = .ok (.ldc2_w 400, 3) := by decide +kernel
theorem d_w_order_87 : decode prog_1_method_77_code 87 = .ok (.lmul, 1) := by decide +kernel
theorem d_w_order_88 : decode prog_1_method_77_code 88 = .ok (.iload 10, 2) := by decide +kernel
theorem d_w_order_9 : decode prog_1_method_77_code 9 = .ok (.iconst 0, 1) := by decide +kernel
theorem d_w_order_90 : decode prog_1_method_77_code 90 = .ok (.i2l, 1) := by decide +kernel
theorem d_w_order_91 : decode prog_1_method_77_code 91 = .ok (.ladd, 1) := by decide +kernel
theorem d_w_order_92 : decode prog_1_method_77_code 92 = .ok (.lconst 1, 1) := by decide +kernel
theorem d_w_order_93 : decode prog_1_method_77_code 93 = .ok (.ladd, 1) := by decide +kernel
theorem d_w_order_94 : decode prog_1_method_77_code 94 = .ok (.lstore 4, 2) := by decide +kernel
theorem d_w_order_96 : decode prog_1_method_77_code 96 = .ok (.lload 6, 2) := by decide +kernel
theorem d_w_order_98 : decode prog_1_method_77_code 98 = .ok (.aload_n 0, 1) := by decide +kernel
theorem d_w_order_99 : decode prog_1_method_77_code 99 = .ok (.aload_n 0, 1) := by decide +kernel
theorem d_w_over_0 : decode prog_1_method_73_code 0 = .ok (.aload_n 0, 1) := by decide +kernel
theorem d_w_over_1 : decode prog_1_method_73_code 1 = .ok (.iload_n 1, 1) := by decide +kernel
theorem d_w_over_10 : decode prog_1_method_73_code 10 = .ok (.ireturn, 1) := by decide +kernel
theorem d_w_over_11 : decode prog_1_method_73_code 11 = .ok (.aload_n 0, 1) := by decide +kernel
theorem d_w_over_12 : decode prog_1_method_73_code 12 = .ok (.invokevirtual 387, 3) := by decide +kernel
theorem d_w_over_15 : decode prog_1_method_73_code 15 = .ok (.aload_n 0, 1) := by decide +kernel
theorem d_w_over_16 : decode prog_1_method_73_code 16 = .ok (.iload_n 1, 1) := by decide +kernel
theorem d_w_over_17 : decode prog_1_method_73_code 17 = .ok (.invokevirtual 223, 3) := by decide +kernel
theorem d_w_over_2 : decode prog_1_method_73_code 2 = .ok (.invokevirtual 217, 3) := by decide +kernel
theorem d_w_over_20 : decode prog_1_method_73_code 20 = .ok (.istore_n 2, 1) := by decide +kernel
theorem d_w_over_21 : decode prog_1_method_73_code 21 = .ok (.iconst 0, 1) := by decide +kernel
theorem d_w_over_22 : decode prog_1_method_73_code 22 = .ok (.istore_n 3, 1) := by decide +kernel
theorem d_w_over_23 : decode prog_1_method_73_code 23 = .ok (.iconst 0, 1) := by decide +kernel
theorem d_w_over_24 : decode prog_1_method_73_code 24 = .ok (.istore 4, 2) := by decide +kernel
theorem d_w_over_26 : decode prog_1_method_73_code 26 = .ok (.iload 4, 2) := by decide +kernel
theorem d_w_over_28 : decode prog_1_method_73_code 28 = .ok (.aload_n 0, 1) := by decide +kernel
theorem d_w_over_29 : decode prog_1_method_73_code 29 = .ok (.getfield 114, 3) := by decide +kernel
theorem d_w_over_32 : decode prog_1_method_73_code 32 = .ok (.if_icmp .ge 46, 3) := by decide +kernel
theorem d_w_over_35 : decode prog_1_method_73_code 35 = .ok (.aload_n 0, 1) := by decide +kernel
theorem d_w_over_36 : decode prog_1_method_73_code 36 = .ok (.aload_n 0, 1) := by decide +kernel
theorem d_w_over_37 : decode prog_1_method_73_code 37 = .ok (.getfield 23, 3) := by decide +kernel
theorem d_w_over_40 : decode prog_1_method_73_code 40 = .ok (.iload_n 1, 1) := by decide +kernel
theorem d_w_over_41 : decode prog_1_method_73_code 41 = .ok (.aaload, 1) := by decide +kernel
theorem d_w_over_42 : decode prog_1_method_73_code 42 = .ok (.getfield 245, 3) := by decide +kernel
theorem d_w_over_45 : decode prog_1_method_73_code 45 = .ok (.iload 4, 2) := by decide +kernel
theorem d_w_over_47 : decode prog_1_method_73_code 47 = .ok (.iaload, 1) := by decide +kernel
theorem d_w_over_48 : decode prog_1_method_73_code 48 = .ok (.iload_n 2, 1) := by decide +kernel
theorem d_w_over_49 : decode prog_1_method_73_code 49 = .ok (.invokevirtual 390, 3) := by decide +kernel
theorem d_w_over_5 : decode prog_1_method_73_code 5 = .ok (.ifCond .ne 6, 3) := by decide +kernel
theorem d_w_over_52 : decode prog_1_method_73_code 52 = .ok (.aload_n 0, 1) := by decide +kernel
theorem d_w_over_53 : decode prog_1_method_73_code 53 = .ok (.getfield 11, 3) := by decide +kernel
theorem d_w_over_56 : decode prog_1_method_73_code 56 = .ok (.iload 4, 2) := by decide +kernel
theorem d_w_over_58 : decode prog_1_method_73_code 58 = .ok (.aaload, 1) := by decide +kernel
theorem d_w_over_59 : decode prog_1_method_73_code 59 = .ok (.getfield 117, 3) := by decide +kernel
theorem d_w_over_62 : decode prog_1_method_73_code 62 = .ok (.if_icmp .le 10, 3) := by decide +kernel
theorem d_w_over_65 : decode prog_1_method_73_code 65 = .ok (.iload_n 3, 1) := by decide +kernel
theorem d_w_over_66 : decode prog_1_method_73_code 66 = .ok (.iconst 1, 1) := by decide +kernel
theorem d_w_over_67 : decode prog_1_method_73_code 67 = .ok (.iload 4, 2) := by decide +kernel
theorem d_w_over_69 : decode prog_1_method_73_code 69 = .ok (.ishl, 1) := by decide +kernel
theorem d_w_over_70 : decode prog_1_method_73_code 70 = .ok (.ior, 1) := by decide +kernel
theorem d_w_over_71 : decode prog_1_method_73_code 71 = .ok (.istore_n 3, 1) := by decide +kernel
theorem d_w_over_72 : decode prog_1_method_73_code 72 = .ok (.iinc 4 1, 3) := by decide +kernel
theorem d_w_over_75 : decode prog_1_method_73_code 75 = .ok (.goto (-49), 3) := by decide +kernel
theorem d_w_over_78 : decode prog_1_method_73_code 78 = .ok (.iload_n 3, 1) := by decide +kernel
theorem d_w_over_79 : decode prog_1_method_73_code 79 = .ok (.ireturn, 1) := by decide +kernel
theorem d_w_over_8 : decode prog_1_method_73_code 8 = .ok (.bipush (-5), 2) := by decide +kernel
theorem d_w_parts_0 : decode prog_1_method_34_code 0 = .ok (.aload_n 0, 1) := by decide +kernel
theorem d_w_parts_1 : decode prog_1_method_34_code 1 = .ok (.iload_n 1, 1) := by decide +kernel
theorem d_w_parts_12 : decode prog_1_method_34_code 12 = .ok (.ifCond .eq 12, 3) := by decide +kernel
theorem d_w_parts_15 : decode prog_1_method_34_code 15 = .ok (.iload_n 3, 1) := by decide +kernel
theorem d_w_parts_16 : decode prog_1_method_34_code 16 = .ok (.iconst 0, 1) := by decide +kernel
theorem d_w_parts_17 : decode prog_1_method_34_code 17 = .ok (.iconst 1, 1) := by decide +kernel
theorem d_w_parts_18 : decode prog_1_method_34_code 18 = .ok (.invokestatic 110, 3) := by decide +kernel
theorem d_w_parts_2 : decode prog_1_method_34_code 2 = .ok (.invokevirtual 300, 3) := by decide +kernel
theorem d_w_parts_21 : decode prog_1_method_34_code 21 = .ok (.ifCond .ne 6, 3) := by decide +kernel
theorem d_w_parts_24 : decode prog_1_method_34_code 24 = .ok (.bipush (-2), 2) := by decide +kernel
theorem d_w_parts_26 : decode prog_1_method_34_code 26 = .ok (.ireturn, 1) := by decide +kernel
theorem d_w_parts_27 : decode prog_1_method_34_code 27 = .ok (.aload_n 0, 1) := by decide +kernel
theorem d_w_parts_28 : decode prog_1_method_34_code 28 = .ok (.invokevirtual 297, 3) := by decide +kernel
theorem d_w_parts_31 : decode prog_1_method_34_code 31 = .ok (.istore 4, 2) := by decide +kernel
theorem d_w_parts_33 : decode prog_1_method_34_code 33 = .ok (.aload_n 0, 1) := by decide +kernel
theorem d_w_parts_34 : decode prog_1_method_34_code 34 = .ok (.iload_n 2, 1) := by decide +kernel
theorem d_w_parts_35 : decode prog_1_method_34_code 35 = .ok (.iload 4, 2) := by decide +kernel
theorem d_w_parts_37 : decode prog_1_method_34_code 37 = .ok (.invokevirtual 303, 3) := by decide +kernel
theorem d_w_parts_40 : decode prog_1_method_34_code 40 = .ok (.iload_n 3, 1) := by decide +kernel
theorem d_w_parts_41 : decode prog_1_method_34_code 41 = .ok (.ifCond .ne 13, 3) := by decide +kernel
theorem d_w_parts_44 : decode prog_1_method_34_code 44 = .ok (.aload_n 0, 1) := by decide +kernel
theorem d_w_parts_45 : decode prog_1_method_34_code 45 = .ok (.iload_n 1, 1) := by decide +kernel
theorem d_w_parts_46 : decode prog_1_method_34_code 46 = .ok (.iload 4, 2) := by decide +kernel
theorem d_w_parts_48 : decode prog_1_method_34_code 48 = .ok (.invokevirtual 307, 3) := by decide +kernel
theorem d_w_parts_5 : decode prog_1_method_34_code 5 = .ok (.ifCond .eq 19, 3) := by decide +kernel
theorem d_w_parts_51 : decode prog_1_method_34_code 51 = .ok (.goto 10, 3) := by decide +kernel
theorem d_w_parts_54 : decode prog_1_method_34_code 54 = .ok (.aload_n 0, 1) := by decide +kernel
theorem d_w_parts_55 : decode prog_1_method_34_code 55 = .ok (.iload_n 1, 1) := by decide +kernel
theorem d_w_parts_56 : decode prog_1_method_34_code 56 = .ok (.iload 4, 2) := by decide +kernel
theorem d_w_parts_58 : decode prog_1_method_34_code 58 = .ok (.invokevirtual 310, 3) := by decide +kernel
theorem d_w_parts_61 : decode prog_1_method_34_code 61 = .ok (.ireturn, 1) := by decide +kernel
theorem d_w_parts_8 : decode prog_1_method_34_code 8 = .ok (.iload_n 2, 1) := by decide +kernel
theorem d_w_parts_9 : decode prog_1_method_34_code 9 = .ok (.invokestatic 260, 3) := by decide +kernel
theorem d_w_plan_0 : decode prog_1_method_37_code 0 = .ok (.aload_n 0, 1) := by decide +kernel
theorem d_w_plan_1 : decode prog_1_method_37_code 1 = .ok (.iload_n 1, 1) := by decide +kernel
theorem d_w_plan_10 : decode prog_1_method_37_code 10 = .ok (.ireturn, 1) := by decide +kernel
theorem d_w_plan_100 : decode prog_1_method_37_code 100 = .ok (.ireturn, 1) := by decide +kernel
theorem d_w_plan_101 : decode prog_1_method_37_code 101 = .ok (.iload 6, 2) := by decide +kernel
theorem d_w_plan_103 : decode prog_1_method_37_code 103 = .ok (.istore 4, 2) := by decide +kernel
theorem d_w_plan_105 : decode prog_1_method_37_code 105 = .ok (.iinc 5 1, 3) := by decide +kernel
theorem d_w_plan_108 : decode prog_1_method_37_code 108 = .ok (.goto (-50), 3) := by decide +kernel
theorem d_w_plan_11 : decode prog_1_method_37_code 11 = .ok (.iload_n 2, 1) := by decide +kernel
theorem d_w_plan_111 : decode prog_1_method_37_code 111 = .ok (.iconst (-1), 1) := by decide +kernel
theorem d_w_plan_112 : decode prog_1_method_37_code 112 = .ok (.ireturn, 1) := by decide +kernel
theorem d_w_plan_12 : decode prog_1_method_37_code 12 = .ok (.invokestatic 260, 3) := by decide +kernel
theorem d_w_plan_15 : decode prog_1_method_37_code 15 = .ok (.ifCond .eq 13, 3) := by decide +kernel
theorem d_w_plan_18 : decode prog_1_method_37_code 18 = .ok (.iload_n 3, 1) := by decide +kernel
theorem d_w_plan_19 : decode prog_1_method_37_code 19 = .ok (.iconst 0, 1) := by decide +kernel
theorem d_w_plan_2 : decode prog_1_method_37_code 2 = .ok (.invokevirtual 217, 3) := by decide +kernel
theorem d_w_plan_20 : decode prog_1_method_37_code 20 = .ok (.bipush 6, 2) := by decide +kernel
theorem d_w_plan_22 : decode prog_1_method_37_code 22 = .ok (.invokestatic 110, 3) := by decide +kernel
theorem d_w_plan_25 : decode prog_1_method_37_code 25 = .ok (.ifCond .ne 6, 3) := by decide +kernel
theorem d_w_plan_28 : decode prog_1_method_37_code 28 = .ok (.bipush (-7), 2) := by decide +kernel
theorem d_w_plan_30 : decode prog_1_method_37_code 30 = .ok (.ireturn, 1) := by decide +kernel
theorem d_w_plan_31 : decode prog_1_method_37_code 31 = .ok (.aload_n 0, 1) := by decide +kernel
theorem d_w_plan_32 : decode prog_1_method_37_code 32 = .ok (.invokevirtual 297, 3) := by decide +kernel
theorem d_w_plan_35 : decode prog_1_method_37_code 35 = .ok (.istore 4, 2) := by decide +kernel
theorem d_w_plan_37 : decode prog_1_method_37_code 37 = .ok (.iload 4, 2) := by decide +kernel
theorem d_w_plan_39 : decode prog_1_method_37_code 39 = .ok (.iload_n 1, 1) := by decide +kernel
theorem d_w_plan_40 : decode prog_1_method_37_code 40 = .ok (.invokestatic 242, 3) := by decide +kernel
theorem d_w_plan_43 : decode prog_1_method_37_code 43 = .ok (.ifCond .ne 5, 3) := by decide +kernel
theorem d_w_plan_46 : decode prog_1_method_37_code 46 = .ok (.iconst (-1), 1) := by decide +kernel
theorem d_w_plan_47 : decode prog_1_method_37_code 47 = .ok (.ireturn, 1) := by decide +kernel
theorem d_w_plan_48 : decode prog_1_method_37_code 48 = .ok (.aload_n 0, 1) := by decide +kernel
theorem d_w_plan_49 : decode prog_1_method_37_code 49 = .ok (.iload_n 2, 1) := by decide +kernel
theorem d_w_plan_5 : decode prog_1_method_37_code 5 = .ok (.ifCond .ne 6, 3) := by decide +kernel
theorem d_w_plan_50 : decode prog_1_method_37_code 50 = .ok (.iload 4, 2) := by decide +kernel
theorem d_w_plan_52 : decode prog_1_method_37_code 52 = .ok (.invokevirtual 303, 3) := by decide +kernel
theorem d_w_plan_55 : decode prog_1_method_37_code 55 = .ok (.iconst 0, 1) := by decide +kernel
theorem d_w_plan_56 : decode prog_1_method_37_code 56 = .ok (.istore 5, 2) := by decide +kernel
theorem d_w_plan_58 : decode prog_1_method_37_code 58 = .ok (.iload 5, 2) := by decide +kernel
theorem d_w_plan_60 : decode prog_1_method_37_code 60 = .ok (.bipush 12, 2) := by decide +kernel
theorem d_w_plan_62 : decode prog_1_method_37_code 62 = .ok (.if_icmp .gt 49, 3) := by decide +kernel
theorem d_w_plan_65 : decode prog_1_method_37_code 65 = .ok (.iload 4, 2) := by decide +kernel
theorem d_w_plan_67 : decode prog_1_method_37_code 67 = .ok (.iconst 1, 1) := by decide +kernel
theorem d_w_plan_68 : decode prog_1_method_37_code 68 = .ok (.iload_n 1, 1) := by decide +kernel
theorem d_w_plan_69 : decode prog_1_method_37_code 69 = .ok (.ishl, 1) := by decide +kernel
theorem d_w_plan_70 : decode prog_1_method_37_code 70 = .ok (.if_icmp .ne 6, 3) := by decide +kernel
theorem d_w_plan_73 : decode prog_1_method_37_code 73 = .ok (.iload 5, 2) := by decide +kernel
theorem d_w_plan_75 : decode prog_1_method_37_code 75 = .ok (.ireturn, 1) := by decide +kernel
theorem d_w_plan_76 : decode prog_1_method_37_code 76 = .ok (.aload_n 0, 1) := by decide +kernel
theorem d_w_plan_77 : decode prog_1_method_37_code 77 = .ok (.aload_n 0, 1) := by decide +kernel
theorem d_w_plan_78 : decode prog_1_method_37_code 78 = .ok (.iload 4, 2) := by decide +kernel
theorem d_w_plan_8 : decode prog_1_method_37_code 8 = .ok (.bipush (-5), 2) := by decide +kernel
theorem d_w_plan_80 : decode prog_1_method_37_code 80 = .ok (.iload_n 3, 1) := by decide +kernel
theorem d_w_plan_81 : decode prog_1_method_37_code 81 = .ok (.invokevirtual 313, 3) := by decide +kernel
theorem d_w_plan_84 : decode prog_1_method_37_code 84 = .ok (.iload_n 1, 1) := by decide +kernel
theorem d_w_plan_85 : decode prog_1_method_37_code 85 = .ok (.iload 4, 2) := by decide +kernel
theorem d_w_plan_87 : decode prog_1_method_37_code 87 = .ok (.invokevirtual 324, 3) := by decide +kernel
theorem d_w_plan_90 : decode prog_1_method_37_code 90 = .ok (.istore 6, 2) := by decide +kernel
theorem d_w_plan_92 : decode prog_1_method_37_code 92 = .ok (.iload 6, 2) := by decide +kernel
theorem d_w_plan_94 : decode prog_1_method_37_code 94 = .ok (.iload 4, 2) := by decide +kernel
theorem d_w_plan_96 : decode prog_1_method_37_code 96 = .ok (.if_icmp .ne 5, 3) := by decide +kernel
theorem d_w_plan_99 : decode prog_1_method_37_code 99 = .ok (.iconst (-1), 1) := by decide +kernel
theorem d_w_powerOf_0 : decode prog_1_method_60_code 0 = .ok (.iconst 0, 1) := by decide +kernel
theorem d_w_powerOf_1 : decode prog_1_method_60_code 1 = .ok (.istore_n 2, 1) := by decide +kernel
theorem d_w_powerOf_12 : decode prog_1_method_60_code 12 = .ok (.iload_n 1, 1) := by decide +kernel
theorem d_w_powerOf_13 : decode prog_1_method_60_code 13 = .ok (.iload_n 3, 1) := by decide +kernel
theorem d_w_powerOf_14 : decode prog_1_method_60_code 14 = .ok (.invokestatic 242, 3) := by decide +kernel
theorem d_w_powerOf_17 : decode prog_1_method_60_code 17 = .ok (.ifCond .eq 15, 3) := by decide +kernel
theorem d_w_powerOf_2 : decode prog_1_method_60_code 2 = .ok (.iconst 0, 1) := by decide +kernel
theorem d_w_powerOf_20 : decode prog_1_method_60_code 20 = .ok (.iload_n 2, 1) := by decide +kernel
theorem d_w_powerOf_21 : decode prog_1_method_60_code 21 = .ok (.aload_n 0, 1) := by decide +kernel
theorem d_w_powerOf_22 : decode prog_1_method_60_code 22 = .ok (.getfield 17, 3) := by decide +kernel
theorem d_w_powerOf_25 : decode prog_1_method_60_code 25 = .ok (.iload_n 3, 1) := by decide +kernel
theorem d_w_powerOf_26 : decode prog_1_method_60_code 26 = .ok (.aaload, 1) := by decide +kernel
theorem d_w_powerOf_27 : decode prog_1_method_60_code 27 = .ok (.getfield 168, 3) := by decide +kernel
theorem d_w_powerOf_3 : decode prog_1_method_60_code 3 = .ok (.istore_n 3, 1) := by decide +kernel
theorem d_w_powerOf_30 : decode prog_1_method_60_code 30 = .ok (.iadd, 1) := by decide +kernel
theorem d_w_powerOf_31 : decode prog_1_method_60_code 31 = .ok (.istore_n 2, 1) := by decide +kernel
theorem d_w_powerOf_32 : decode prog_1_method_60_code 32 = .ok (.iinc 3 1, 3) := by decide +kernel
theorem d_w_powerOf_35 : decode prog_1_method_60_code 35 = .ok (.goto (-31), 3) := by decide +kernel
theorem d_w_powerOf_38 : decode prog_1_method_60_code 38 = .ok (.iload_n 2, 1) := by decide +kernel
theorem d_w_powerOf_39 : decode prog_1_method_60_code 39 = .ok (.ireturn, 1) := by decide +kernel
theorem d_w_powerOf_4 : decode prog_1_method_60_code 4 = .ok (.iload_n 3, 1) := by decide +kernel
theorem d_w_powerOf_5 : decode prog_1_method_60_code 5 = .ok (.aload_n 0, 1) := by decide +kernel
theorem d_w_powerOf_6 : decode prog_1_method_60_code 6 = .ok (.getfield 133, 3) := by decide +kernel
theorem d_w_powerOf_9 : decode prog_1_method_60_code 9 = .ok (.if_icmp .ge 29, 3) := by decide +kernel
theorem d_w_put_0 : decode prog_1_method_58_code 0 = .ok (.iload_n 1, 1) := by decide +kernel
theorem d_w_put_1 : decode prog_1_method_58_code 1 = .ok (.invokestatic 230, 3) := by decide +kernel
theorem d_w_put_10 : decode prog_1_method_58_code 10 = .ok (.iconst 0, 1) := by decide +kernel
theorem d_w_put_11 : decode prog_1_method_58_code 11 = .ok (.istore_n 2, 1) := by decide +kernel
theorem d_w_put_12 : decode prog_1_method_58_code 12 = .ok (.iload_n 2, 1) := by decide +kernel
theorem d_w_put_13 : decode prog_1_method_58_code 13 = .ok (.aload_n 0, 1) := by decide +kernel
theorem d_w_put_14 : decode prog_1_method_58_code 14 = .ok (.getfield 133, 3) := by decide +kernel
theorem d_w_put_17 : decode prog_1_method_58_code 17 = .ok (.if_icmp .ge 63, 3) := by decide +kernel
theorem d_w_put_20 : decode prog_1_method_58_code 20 = .ok (.aload_n 0, 1) := by decide +kernel
theorem d_w_put_21 : decode prog_1_method_58_code 21 = .ok (.getfield 17, 3) := by decide +kernel
theorem d_w_put_24 : decode prog_1_method_58_code 24 = .ok (.iload_n 2, 1) := by decide +kernel
theorem d_w_put_25 : decode prog_1_method_58_code 25 = .ok (.aaload, 1) := by decide +kernel
theorem d_w_put_26 : decode prog_1_method_58_code 26 = .ok (.getfield 171, 3) := by decide +kernel
theorem d_w_put_29 : decode prog_1_method_58_code 29 = .ok (.iload_n 1, 1) := by decide +kernel
theorem d_w_put_30 : decode prog_1_method_58_code 30 = .ok (.if_icmp .ne 44, 3) := by decide +kernel
theorem d_w_put_33 : decode prog_1_method_58_code 33 = .ok (.aload_n 0, 1) := by decide +kernel
theorem d_w_put_34 : decode prog_1_method_58_code 34 = .ok (.iload_n 1, 1) := by decide +kernel
theorem d_w_put_35 : decode prog_1_method_58_code 35 = .ok (.iload_n 2, 1) := by decide +kernel
theorem d_w_put_36 : decode prog_1_method_58_code 36 = .ok (.invokevirtual 348, 3) := by decide +kernel
theorem d_w_put_39 : decode prog_1_method_58_code 39 = .ok (.ifCond .eq 35, 3) := by decide +kernel
theorem d_w_put_4 : decode prog_1_method_58_code 4 = .ok (.ifCond .ne 6, 3) := by decide +kernel
theorem d_w_put_42 : decode prog_1_method_58_code 42 = .ok (.iconst 1, 1) := by decide +kernel
theorem d_w_put_43 : decode prog_1_method_58_code 43 = .ok (.istore_n 3, 1) := by decide +kernel
theorem d_w_put_44 : decode prog_1_method_58_code 44 = .ok (.iload_n 3, 1) := by decide +kernel
theorem d_w_put_45 : decode prog_1_method_58_code 45 = .ok (.bipush 99, 2) := by decide +kernel
theorem d_w_put_47 : decode prog_1_method_58_code 47 = .ok (.if_icmp .gt 27, 3) := by decide +kernel
theorem d_w_put_50 : decode prog_1_method_58_code 50 = .ok (.aload_n 0, 1) := by decide +kernel
theorem d_w_put_51 : decode prog_1_method_58_code 51 = .ok (.getfield 69, 3) := by decide +kernel
theorem d_w_put_54 : decode prog_1_method_58_code 54 = .ok (.iload_n 3, 1) := by decide +kernel
theorem d_w_put_55 : decode prog_1_method_58_code 55 = .ok (.invokevirtual 351, 3) := by decide +kernel
theorem d_w_put_58 : decode prog_1_method_58_code 58 = .ok (.ifCond .ne 10, 3) := by decide +kernel
theorem d_w_put_61 : decode prog_1_method_58_code 61 = .ok (.bipush 100, 2) := by decide +kernel
theorem d_w_put_63 : decode prog_1_method_58_code 63 = .ok (.iload_n 2, 1) := by decide +kernel
theorem d_w_put_64 : decode prog_1_method_58_code 64 = .ok (.imul, 1) := by decide +kernel
theorem d_w_put_65 : decode prog_1_method_58_code 65 = .ok (.iload_n 3, 1) := by decide +kernel
theorem d_w_put_66 : decode prog_1_method_58_code 66 = .ok (.iadd, 1) := by decide +kernel
theorem d_w_put_67 : decode prog_1_method_58_code 67 = .ok (.ireturn, 1) := by decide +kernel
theorem d_w_put_68 : decode prog_1_method_58_code 68 = .ok (.iinc 3 1, 3) := by decide +kernel
theorem d_w_put_7 : decode prog_1_method_58_code 7 = .ok (.bipush (-2), 2) := by decide +kernel
theorem d_w_put_71 : decode prog_1_method_58_code 71 = .ok (.goto (-27), 3) := by decide +kernel
theorem d_w_put_74 : decode prog_1_method_58_code 74 = .ok (.iinc 2 1, 3) := by decide +kernel
theorem d_w_put_77 : decode prog_1_method_58_code 77 = .ok (.goto (-65), 3) := by decide +kernel
theorem d_w_put_80 : decode prog_1_method_58_code 80 = .ok (.iconst (-1), 1) := by decide +kernel
theorem d_w_put_81 : decode prog_1_method_58_code 81 = .ok (.ireturn, 1) := by decide +kernel
theorem d_w_put_9 : decode prog_1_method_58_code 9 = .ok (.ireturn, 1) := by decide +kernel
theorem d_w_right_0 : decode prog_1_method_63_code 0 = .ok (.aload_n 0, 1) := by decide +kernel
theorem d_w_right_1 : decode prog_1_method_63_code 1 = .ok (.invokevirtual 297, 3) := by decide +kernel
theorem d_w_right_10 : decode prog_1_method_63_code 10 = .ok (.istore 4, 2) := by decide +kernel
theorem d_w_right_12 : decode prog_1_method_63_code 12 = .ok (.iload 4, 2) := by decide +kernel
theorem d_w_right_14 : decode prog_1_method_63_code 14 = .ok (.aload_n 0, 1) := by decide +kernel
theorem d_w_right_15 : decode prog_1_method_63_code 15 = .ok (.getfield 142, 3) := by decide +kernel
theorem d_w_right_18 : decode prog_1_method_63_code 18 = .ok (.if_icmp .ge 63, 3) := by decide +kernel
theorem d_w_right_21 : decode prog_1_method_63_code 21 = .ok (.aload_n 0, 1) := by decide +kernel
theorem d_w_right_22 : decode prog_1_method_63_code 22 = .ok (.iload 4, 2) := by decide +kernel
theorem d_w_right_24 : decode prog_1_method_63_code 24 = .ok (.iload_n 1, 1) := by decide +kernel
theorem d_w_right_25 : decode prog_1_method_63_code 25 = .ok (.invokevirtual 363, 3) := by decide +kernel
theorem d_w_right_28 : decode prog_1_method_63_code 28 = .ok (.istore 5, 2) := by decide +kernel
theorem d_w_right_30 : decode prog_1_method_63_code 30 = .ok (.iload_n 2, 1) := by decide +kernel
theorem d_w_right_31 : decode prog_1_method_63_code 31 = .ok (.iconst (-1), 1) := by decide +kernel
theorem d_w_right_32 : decode prog_1_method_63_code 32 = .ok (.if_icmp .eq 29, 3) := by decide +kernel
theorem d_w_right_35 : decode prog_1_method_63_code 35 = .ok (.iload 5, 2) := by decide +kernel
theorem d_w_right_37 : decode prog_1_method_63_code 37 = .ok (.iload_n 3, 1) := by decide +kernel
theorem d_w_right_38 : decode prog_1_method_63_code 38 = .ok (.if_icmp .gt 23, 3) := by decide +kernel
theorem d_w_right_4 : decode prog_1_method_63_code 4 = .ok (.istore_n 1, 1) := by decide +kernel
theorem d_w_right_41 : decode prog_1_method_63_code 41 = .ok (.iload 5, 2) := by decide +kernel
theorem d_w_right_43 : decode prog_1_method_63_code 43 = .ok (.iload_n 3, 1) := by decide +kernel
theorem d_w_right_44 : decode prog_1_method_63_code 44 = .ok (.if_icmp .ne 31, 3) := by decide +kernel
theorem d_w_right_47 : decode prog_1_method_63_code 47 = .ok (.aload_n 0, 1) := by decide +kernel
theorem d_w_right_48 : decode prog_1_method_63_code 48 = .ok (.getfield 27, 3) := by decide +kernel
theorem d_w_right_5 : decode prog_1_method_63_code 5 = .ok (.iconst (-1), 1) := by decide +kernel
theorem d_w_right_51 : decode prog_1_method_63_code 51 = .ok (.iload 4, 2) := by decide +kernel
theorem d_w_right_53 : decode prog_1_method_63_code 53 = .ok (.aaload, 1) := by decide +kernel
theorem d_w_right_54 : decode prog_1_method_63_code 54 = .ok (.getfield 354, 3) := by decide +kernel
theorem d_w_right_57 : decode prog_1_method_63_code 57 = .ok (.iload_n 2, 1) := by decide +kernel
theorem d_w_right_58 : decode prog_1_method_63_code 58 = .ok (.if_icmp .le 17, 3) := by decide +kernel
theorem d_w_right_6 : decode prog_1_method_63_code 6 = .ok (.istore_n 2, 1) := by decide +kernel
theorem d_w_right_61 : decode prog_1_method_63_code 61 = .ok (.aload_n 0, 1) := by decide +kernel
theorem d_w_right_62 : decode prog_1_method_63_code 62 = .ok (.getfield 27, 3) := by decide +kernel
theorem d_w_right_65 : decode prog_1_method_63_code 65 = .ok (.iload 4, 2) := by decide +kernel
theorem d_w_right_67 : decode prog_1_method_63_code 67 = .ok (.aaload, 1) := by decide +kernel
theorem d_w_right_68 : decode prog_1_method_63_code 68 = .ok (.getfield 354, 3) := by decide +kernel
theorem d_w_right_7 : decode prog_1_method_63_code 7 = .ok (.iconst 0, 1) := by decide +kernel
theorem d_w_right_71 : decode prog_1_method_63_code 71 = .ok (.istore_n 2, 1) := by decide +kernel
theorem d_w_right_72 : decode prog_1_method_63_code 72 = .ok (.iload 5, 2) := by decide +kernel
theorem d_w_right_74 : decode prog_1_method_63_code 74 = .ok (.istore_n 3, 1) := by decide +kernel
theorem d_w_right_75 : decode prog_1_method_63_code 75 = .ok (.iinc 4 1, 3) := by decide +kernel
theorem d_w_right_78 : decode prog_1_method_63_code 78 = .ok (.goto (-66), 3) := by decide +kernel
theorem d_w_right_8 : decode prog_1_method_63_code 8 = .ok (.istore_n 3, 1) := by decide +kernel
theorem d_w_right_81 : decode prog_1_method_63_code 81 = .ok (.iload_n 2, 1) := by decide +kernel
theorem d_w_right_82 : decode prog_1_method_63_code 82 = .ok (.ireturn, 1) := by decide +kernel
theorem d_w_right_9 : decode prog_1_method_63_code 9 = .ok (.iconst 0, 1) := by decide +kernel
theorem d_w_room_0 : decode prog_1_method_19_code 0 = .ok (.aload_n 0, 1) := by decide +kernel
theorem d_w_room_1 : decode prog_1_method_19_code 1 = .ok (.iload_n 1, 1) := by decide +kernel
theorem d_w_room_10 : decode prog_1_method_19_code 10 = .ok (.ireturn, 1) := by decide +kernel
theorem d_w_room_11 : decode prog_1_method_19_code 11 = .ok (.iload_n 2, 1) := by decide +kernel
theorem d_w_room_12 : decode prog_1_method_19_code 12 = .ok (.invokestatic 230, 3) := by decide +kernel
theorem d_w_room_15 : decode prog_1_method_19_code 15 = .ok (.ifCond .ne 6, 3) := by decide +kernel
theorem d_w_room_18 : decode prog_1_method_19_code 18 = .ok (.bipush (-7), 2) := by decide +kernel
theorem d_w_room_2 : decode prog_1_method_19_code 2 = .ok (.invokevirtual 217, 3) := by decide +kernel
theorem d_w_room_20 : decode prog_1_method_19_code 20 = .ok (.ireturn, 1) := by decide +kernel
theorem d_w_room_21 : decode prog_1_method_19_code 21 = .ok (.aload_n 0, 1) := by decide +kernel
theorem d_w_room_22 : decode prog_1_method_19_code 22 = .ok (.iload_n 1, 1) := by decide +kernel
theorem d_w_room_23 : decode prog_1_method_19_code 23 = .ok (.invokevirtual 223, 3) := by decide +kernel
theorem d_w_room_26 : decode prog_1_method_19_code 26 = .ok (.istore_n 3, 1) := by decide +kernel
theorem d_w_room_27 : decode prog_1_method_19_code 27 = .ok (.iconst 0, 1) := by decide +kernel
theorem d_w_room_28 : decode prog_1_method_19_code 28 = .ok (.istore 4, 2) := by decide +kernel
theorem d_w_room_30 : decode prog_1_method_19_code 30 = .ok (.iconst 0, 1) := by decide +kernel
theorem d_w_room_31 : decode prog_1_method_19_code 31 = .ok (.istore 5, 2) := by decide +kernel
theorem d_w_room_33 : decode prog_1_method_19_code 33 = .ok (.iload 5, 2) := by decide +kernel
theorem d_w_room_35 : decode prog_1_method_19_code 35 = .ok (.aload_n 0, 1) := by decide +kernel
theorem d_w_room_36 : decode prog_1_method_19_code 36 = .ok (.getfield 133, 3) := by decide +kernel
theorem d_w_room_39 : decode prog_1_method_19_code 39 = .ok (.if_icmp .ge 35, 3) := by decide +kernel
theorem d_w_room_42 : decode prog_1_method_19_code 42 = .ok (.aload_n 0, 1) := by decide +kernel
theorem d_w_room_43 : decode prog_1_method_19_code 43 = .ok (.getfield 17, 3) := by decide +kernel
theorem d_w_room_46 : decode prog_1_method_19_code 46 = .ok (.iload 5, 2) := by decide +kernel
theorem d_w_room_48 : decode prog_1_method_19_code 48 = .ok (.aaload, 1) := by decide +kernel
theorem d_w_room_49 : decode prog_1_method_19_code 49 = .ok (.getfield 171, 3) := by decide +kernel
theorem d_w_room_5 : decode prog_1_method_19_code 5 = .ok (.ifCond .ne 6, 3) := by decide +kernel
theorem d_w_room_52 : decode prog_1_method_19_code 52 = .ok (.iload_n 2, 1) := by decide +kernel
theorem d_w_room_53 : decode prog_1_method_19_code 53 = .ok (.if_icmp .ne 15, 3) := by decide +kernel
theorem d_w_room_56 : decode prog_1_method_19_code 56 = .ok (.iload 4, 2) := by decide +kernel
theorem d_w_room_58 : decode prog_1_method_19_code 58 = .ok (.aload_n 0, 1) := by decide +kernel
theorem d_w_room_59 : decode prog_1_method_19_code 59 = .ok (.iload 5, 2) := by decide +kernel
theorem d_w_room_61 : decode prog_1_method_19_code 61 = .ok (.iload_n 3, 1) := by decide +kernel
theorem d_w_room_62 : decode prog_1_method_19_code 62 = .ok (.invokevirtual 226, 3) := by decide +kernel
theorem d_w_room_65 : decode prog_1_method_19_code 65 = .ok (.iadd, 1) := by decide +kernel
theorem d_w_room_66 : decode prog_1_method_19_code 66 = .ok (.istore 4, 2) := by decide +kernel
theorem d_w_room_68 : decode prog_1_method_19_code 68 = .ok (.iinc 5 1, 3) := by decide +kernel
theorem d_w_room_71 : decode prog_1_method_19_code 71 = .ok (.goto (-38), 3) := by decide +kernel
theorem d_w_room_74 : decode prog_1_method_19_code 74 = .ok (.iload 4, 2) := by decide +kernel
theorem d_w_room_76 : decode prog_1_method_19_code 76 = .ok (.ireturn, 1) := by decide +kernel
theorem d_w_room_8 : decode prog_1_method_19_code 8 = .ok (.bipush (-5), 2) := by decide +kernel
theorem d_w_rowOf_0 : decode prog_1_method_25_code 0 = .ok (.aload_n 0, 1) := by decide +kernel
theorem d_w_rowOf_1 : decode prog_1_method_25_code 1 = .ok (.getfield 17, 3) := by decide +kernel
theorem d_w_rowOf_10 : decode prog_1_method_25_code 10 = .ok (.if_icmp .eq 5, 3) := by decide +kernel
theorem d_w_rowOf_13 : decode prog_1_method_25_code 13 = .ok (.iconst 1, 1) := by decide +kernel
theorem d_w_rowOf_14 : decode prog_1_method_25_code 14 = .ok (.ireturn, 1) := by decide +kernel
theorem d_w_rowOf_15 : decode prog_1_method_25_code 15 = .ok (.iconst 0, 1) := by decide +kernel
theorem d_w_rowOf_16 : decode prog_1_method_25_code 16 = .ok (.istore_n 3, 1) := by decide +kernel
theorem d_w_rowOf_17 : decode prog_1_method_25_code 17 = .ok (.iconst 0, 1) := by decide +kernel
theorem d_w_rowOf_18 : decode prog_1_method_25_code 18 = .ok (.istore 4, 2) := by decide +kernel
theorem d_w_rowOf_20 : decode prog_1_method_25_code 20 = .ok (.iload 4, 2) := by decide +kernel
theorem d_w_rowOf_22 : decode prog_1_method_25_code 22 = .ok (.aload_n 0, 1) := by decide +kernel
theorem d_w_rowOf_23 : decode prog_1_method_25_code 23 = .ok (.getfield 133, 3) := by decide +kernel
theorem d_w_rowOf_26 : decode prog_1_method_25_code 26 = .ok (.if_icmp .ge 57, 3) := by decide +kernel
theorem d_w_rowOf_29 : decode prog_1_method_25_code 29 = .ok (.iload_n 2, 1) := by decide +kernel
theorem d_w_rowOf_30 : decode prog_1_method_25_code 30 = .ok (.iload 4, 2) := by decide +kernel
theorem d_w_rowOf_32 : decode prog_1_method_25_code 32 = .ok (.invokestatic 242, 3) := by decide +kernel
theorem d_w_rowOf_35 : decode prog_1_method_25_code 35 = .ok (.ifCond .eq 42, 3) := by decide +kernel
theorem d_w_rowOf_38 : decode prog_1_method_25_code 38 = .ok (.aload_n 0, 1) := by decide +kernel
theorem d_w_rowOf_39 : decode prog_1_method_25_code 39 = .ok (.getfield 17, 3) := by decide +kernel
theorem d_w_rowOf_4 : decode prog_1_method_25_code 4 = .ok (.iload_n 1, 1) := by decide +kernel
theorem d_w_rowOf_42 : decode prog_1_method_25_code 42 = .ok (.iload 4, 2) := by decide +kernel
theorem d_w_rowOf_44 : decode prog_1_method_25_code 44 = .ok (.aaload, 1) := by decide +kernel
theorem d_w_rowOf_45 : decode prog_1_method_25_code 45 = .ok (.getfield 165, 3) := by decide +kernel
theorem d_w_rowOf_48 : decode prog_1_method_25_code 48 = .ok (.iconst 1, 1) := by decide +kernel
theorem d_w_rowOf_49 : decode prog_1_method_25_code 49 = .ok (.if_icmp .ne 28, 3) := by decide +kernel
theorem d_w_rowOf_5 : decode prog_1_method_25_code 5 = .ok (.aaload, 1) := by decide +kernel
theorem d_w_rowOf_52 : decode prog_1_method_25_code 52 = .ok (.aload_n 0, 1) := by decide +kernel
theorem d_w_rowOf_53 : decode prog_1_method_25_code 53 = .ok (.getfield 17, 3) := by decide +kernel
theorem d_w_rowOf_56 : decode prog_1_method_25_code 56 = .ok (.iload 4, 2) := by decide +kernel
theorem d_w_rowOf_58 : decode prog_1_method_25_code 58 = .ok (.aaload, 1) := by decide +kernel
theorem d_w_rowOf_59 : decode prog_1_method_25_code 59 = .ok (.getfield 180, 3) := by decide +kernel
theorem d_w_rowOf_6 : decode prog_1_method_25_code 6 = .ok (.getfield 165, 3) := by decide +kernel
theorem d_w_rowOf_62 : decode prog_1_method_25_code 62 = .ok (.aload_n 0, 1) := by decide +kernel
theorem d_w_rowOf_63 : decode prog_1_method_25_code 63 = .ok (.getfield 17, 3) := by decide +kernel
theorem d_w_rowOf_66 : decode prog_1_method_25_code 66 = .ok (.iload_n 1, 1) := by decide +kernel
theorem d_w_rowOf_67 : decode prog_1_method_25_code 67 = .ok (.aaload, 1) := by decide +kernel
theorem d_w_rowOf_68 : decode prog_1_method_25_code 68 = .ok (.getfield 180, 3) := by decide +kernel
theorem d_w_rowOf_71 : decode prog_1_method_25_code 71 = .ok (.if_icmp .ne 6, 3) := by decide +kernel
theorem d_w_rowOf_74 : decode prog_1_method_25_code 74 = .ok (.iinc 3 1, 3) := by decide +kernel
theorem d_w_rowOf_77 : decode prog_1_method_25_code 77 = .ok (.iinc 4 1, 3) := by decide +kernel
theorem d_w_rowOf_80 : decode prog_1_method_25_code 80 = .ok (.goto (-60), 3) := by decide +kernel
theorem d_w_rowOf_83 : decode prog_1_method_25_code 83 = .ok (.iconst 1, 1) := by decide +kernel
theorem d_w_rowOf_84 : decode prog_1_method_25_code 84 = .ok (.iload_n 3, 1) := by decide +kernel
theorem d_w_rowOf_85 : decode prog_1_method_25_code 85 = .ok (.invokestatic 248, 3) := by decide +kernel
theorem d_w_rowOf_88 : decode prog_1_method_25_code 88 = .ok (.ireturn, 1) := by decide +kernel
theorem d_w_rowOf_9 : decode prog_1_method_25_code 9 = .ok (.iconst 1, 1) := by decide +kernel
theorem d_w_set_0 : decode prog_1_method_3_code 0 = .ok (.iload_n 1, 1) := by decide +kernel
theorem d_w_set_1 : decode prog_1_method_3_code 1 = .ok (.iconst 0, 1) := by decide +kernel
theorem d_w_set_10 : decode prog_1_method_3_code 10 = .ok (.ireturn, 1) := by decide +kernel
theorem d_w_set_11 : decode prog_1_method_3_code 11 = .ok (.iload_n 2, 1) := by decide +kernel
theorem d_w_set_12 : decode prog_1_method_3_code 12 = .ok (.iconst 0, 1) := by decide +kernel
theorem d_w_set_13 : decode prog_1_method_3_code 13 = .ok (.aload_n 0, 1) := by decide +kernel
theorem d_w_set_14 : decode prog_1_method_3_code 14 = .ok (.iload_n 1, 1) := by decide +kernel
theorem d_w_set_15 : decode prog_1_method_3_code 15 = .ok (.invokevirtual 123, 3) := by decide +kernel
theorem d_w_set_18 : decode prog_1_method_3_code 18 = .ok (.invokestatic 110, 3) := by decide +kernel
theorem d_w_set_2 : decode prog_1_method_3_code 2 = .ok (.iconst 3, 1) := by decide +kernel
theorem d_w_set_21 : decode prog_1_method_3_code 21 = .ok (.ifCond .ne 6, 3) := by decide +kernel
theorem d_w_set_24 : decode prog_1_method_3_code 24 = .ok (.bipush (-2), 2) := by decide +kernel
theorem d_w_set_26 : decode prog_1_method_3_code 26 = .ok (.ireturn, 1) := by decide +kernel
theorem d_w_set_27 : decode prog_1_method_3_code 27 = .ok (.aload_n 0, 1) := by decide +kernel
theorem d_w_set_28 : decode prog_1_method_3_code 28 = .ok (.getfield 45, 3) := by decide +kernel
theorem d_w_set_3 : decode prog_1_method_3_code 3 = .ok (.invokestatic 110, 3) := by decide +kernel
theorem d_w_set_31 : decode prog_1_method_3_code 31 = .ok (.getfield 127, 3) := by decide +kernel
theorem d_w_set_34 : decode prog_1_method_3_code 34 = .ok (.iload_n 1, 1) := by decide +kernel
theorem d_w_set_35 : decode prog_1_method_3_code 35 = .ok (.iaload, 1) := by decide +kernel
theorem d_w_set_36 : decode prog_1_method_3_code 36 = .ok (.istore_n 3, 1) := by decide +kernel
theorem d_w_set_37 : decode prog_1_method_3_code 37 = .ok (.aload_n 0, 1) := by decide +kernel
theorem d_w_set_38 : decode prog_1_method_3_code 38 = .ok (.getfield 45, 3) := by decide +kernel
theorem d_w_set_41 : decode prog_1_method_3_code 41 = .ok (.getfield 127, 3) := by decide +kernel
theorem d_w_set_44 : decode prog_1_method_3_code 44 = .ok (.iload_n 1, 1) := by decide +kernel
theorem d_w_set_45 : decode prog_1_method_3_code 45 = .ok (.iload_n 2, 1) := by decide +kernel
theorem d_w_set_46 : decode prog_1_method_3_code 46 = .ok (.iastore, 1) := by decide +kernel
theorem d_w_set_47 : decode prog_1_method_3_code 47 = .ok (.iload_n 3, 1) := by decide +kernel
theorem d_w_set_48 : decode prog_1_method_3_code 48 = .ok (.ireturn, 1) := by decide +kernel
theorem d_w_set_6 : decode prog_1_method_3_code 6 = .ok (.ifCond .ne 5, 3) := by decide +kernel
theorem d_w_set_9 : decode prog_1_method_3_code 9 = .ok (.iconst (-1), 1) := by decide +kernel
theorem d_w_sheet_0 : decode prog_1_method_87_code 0 = .ok (.iload_n 1, 1) := by decide +kernel
theorem d_w_sheet_1 : decode prog_1_method_87_code 1 = .ok (.invokestatic 205, 3) := by decide +kernel
theorem d_w_sheet_10 : decode prog_1_method_87_code 10 = .ok (.invokestatic 110, 3) := by decide +kernel
theorem d_w_sheet_13 : decode prog_1_method_87_code 13 = .ok (.ifCond .ne 6, 3) := by decide +kernel
theorem d_w_sheet_16 : decode prog_1_method_87_code 16 = .ok (.bipush (-2), 2) := by decide +kernel
theorem d_w_sheet_18 : decode prog_1_method_87_code 18 = .ok (.ireturn, 1) := by decide +kernel
theorem d_w_sheet_19 : decode prog_1_method_87_code 19 = .ok (.iload_n 2, 1) := by decide +kernel
theorem d_w_sheet_20 : decode prog_1_method_87_code 20 = .ok (.iconst (-1), 1) := by decide +kernel
theorem d_w_sheet_21 : decode prog_1_method_87_code 21 = .ok (.if_icmp .ne 16, 3) := by decide +kernel
theorem d_w_sheet_24 : decode prog_1_method_87_code 24 = .ok (.aload_n 0, 1) := by decide +kernel
theorem d_w_sheet_25 : decode prog_1_method_87_code 25 = .ok (.getfield 38, 3) := by decide +kernel
theorem d_w_sheet_28 : decode prog_1_method_87_code 28 = .ok (.iload_n 1, 1) := by decide +kernel
theorem d_w_sheet_29 : decode prog_1_method_87_code 29 = .ok (.aaload, 1) := by decide +kernel
theorem d_w_sheet_30 : decode prog_1_method_87_code 30 = .ok (.iload_n 2, 1) := by decide +kernel
theorem d_w_sheet_31 : decode prog_1_method_87_code 31 = .ok (.iconst 0, 1) := by decide +kernel
theorem d_w_sheet_32 : decode prog_1_method_87_code 32 = .ok (.invokevirtual 422, 3) := by decide +kernel
theorem d_w_sheet_35 : decode prog_1_method_87_code 35 = .ok (.iconst 1, 1) := by decide +kernel
theorem d_w_sheet_36 : decode prog_1_method_87_code 36 = .ok (.ireturn, 1) := by decide +kernel
theorem d_w_sheet_37 : decode prog_1_method_87_code 37 = .ok (.iload_n 3, 1) := by decide +kernel
theorem d_w_sheet_38 : decode prog_1_method_87_code 38 = .ok (.bipush 40, 2) := by decide +kernel
theorem d_w_sheet_4 : decode prog_1_method_87_code 4 = .ok (.ifCond .eq 12, 3) := by decide +kernel
theorem d_w_sheet_40 : decode prog_1_method_87_code 40 = .ok (.if_icmp .le 6, 3) := by decide +kernel
theorem d_w_sheet_43 : decode prog_1_method_87_code 43 = .ok (.bipush (-2), 2) := by decide +kernel
theorem d_w_sheet_45 : decode prog_1_method_87_code 45 = .ok (.ireturn, 1) := by decide +kernel
theorem d_w_sheet_46 : decode prog_1_method_87_code 46 = .ok (.iload_n 3, 1) := by decide +kernel
theorem d_w_sheet_47 : decode prog_1_method_87_code 47 = .ok (.ifCond .ge 6, 3) := by decide +kernel
theorem d_w_sheet_50 : decode prog_1_method_87_code 50 = .ok (.bipush (-14), 2) := by decide +kernel
theorem d_w_sheet_52 : decode prog_1_method_87_code 52 = .ok (.ireturn, 1) := by decide +kernel
theorem d_w_sheet_53 : decode prog_1_method_87_code 53 = .ok (.aload_n 0, 1) := by decide +kernel
theorem d_w_sheet_54 : decode prog_1_method_87_code 54 = .ok (.getfield 38, 3) := by decide +kernel
theorem d_w_sheet_57 : decode prog_1_method_87_code 57 = .ok (.iload_n 1, 1) := by decide +kernel
theorem d_w_sheet_58 : decode prog_1_method_87_code 58 = .ok (.aaload, 1) := by decide +kernel
theorem d_w_sheet_59 : decode prog_1_method_87_code 59 = .ok (.iload_n 2, 1) := by decide +kernel
theorem d_w_sheet_60 : decode prog_1_method_87_code 60 = .ok (.iload_n 3, 1) := by decide +kernel
theorem d_w_sheet_61 : decode prog_1_method_87_code 61 = .ok (.invokevirtual 422, 3) := by decide +kernel
theorem d_w_sheet_64 : decode prog_1_method_87_code 64 = .ok (.iconst 1, 1) := by decide +kernel
theorem d_w_sheet_65 : decode prog_1_method_87_code 65 = .ok (.ireturn, 1) := by decide +kernel
theorem d_w_sheet_7 : decode prog_1_method_87_code 7 = .ok (.iload_n 2, 1) := by decide +kernel
theorem d_w_sheet_8 : decode prog_1_method_87_code 8 = .ok (.iconst (-1), 1) := by decide +kernel
theorem d_w_sheet_9 : decode prog_1_method_87_code 9 = .ok (.iconst 2, 1) := by decide +kernel
theorem d_w_show_0 : decode prog_1_method_17_code 0 = .ok (.aload_n 0, 1) := by decide +kernel
theorem d_w_show_1 : decode prog_1_method_17_code 1 = .ok (.iload_n 1, 1) := by decide +kernel
theorem d_w_show_10 : decode prog_1_method_17_code 10 = .ok (.invokevirtual 223, 3) := by decide +kernel
theorem d_w_show_13 : decode prog_1_method_17_code 13 = .ok (.goto 5, 3) := by decide +kernel
theorem d_w_show_16 : decode prog_1_method_17_code 16 = .ok (.bipush (-5), 2) := by decide +kernel
theorem d_w_show_18 : decode prog_1_method_17_code 18 = .ok (.ireturn, 1) := by decide +kernel
theorem d_w_show_2 : decode prog_1_method_17_code 2 = .ok (.invokevirtual 217, 3) := by decide +kernel
theorem d_w_show_5 : decode prog_1_method_17_code 5 = .ok (.ifCond .eq 11, 3) := by decide +kernel
theorem d_w_show_8 : decode prog_1_method_17_code 8 = .ok (.aload_n 0, 1) := by decide +kernel
theorem d_w_show_9 : decode prog_1_method_17_code 9 = .ok (.iload_n 1, 1) := by decide +kernel
theorem d_w_sums_0 : decode prog_1_method_56_code 0 = .ok (.iload_n 1, 1) := by decide +kernel
theorem d_w_sums_1 : decode prog_1_method_56_code 1 = .ok (.invokestatic 230, 3) := by decide +kernel
theorem d_w_sums_10 : decode prog_1_method_56_code 10 = .ok (.aload_n 0, 1) := by decide +kernel
theorem d_w_sums_11 : decode prog_1_method_56_code 11 = .ok (.getfield 69, 3) := by decide +kernel
theorem d_w_sums_14 : decode prog_1_method_56_code 14 = .ok (.invokevirtual 337, 3) := by decide +kernel
theorem d_w_sums_17 : decode prog_1_method_56_code 17 = .ok (.iconst 0, 1) := by decide +kernel
theorem d_w_sums_18 : decode prog_1_method_56_code 18 = .ok (.istore_n 2, 1) := by decide +kernel
theorem d_w_sums_19 : decode prog_1_method_56_code 19 = .ok (.iload_n 2, 1) := by decide +kernel
theorem d_w_sums_20 : decode prog_1_method_56_code 20 = .ok (.aload_n 0, 1) := by decide +kernel
theorem d_w_sums_21 : decode prog_1_method_56_code 21 = .ok (.getfield 133, 3) := by decide +kernel
theorem d_w_sums_24 : decode prog_1_method_56_code 24 = .ok (.if_icmp .ge 38, 3) := by decide +kernel
theorem d_w_sums_27 : decode prog_1_method_56_code 27 = .ok (.aload_n 0, 1) := by decide +kernel
theorem d_w_sums_28 : decode prog_1_method_56_code 28 = .ok (.getfield 17, 3) := by decide +kernel
theorem d_w_sums_31 : decode prog_1_method_56_code 31 = .ok (.iload_n 2, 1) := by decide +kernel
theorem d_w_sums_32 : decode prog_1_method_56_code 32 = .ok (.aaload, 1) := by decide +kernel
theorem d_w_sums_33 : decode prog_1_method_56_code 33 = .ok (.getfield 171, 3) := by decide +kernel
theorem d_w_sums_36 : decode prog_1_method_56_code 36 = .ok (.iload_n 1, 1) := by decide +kernel
theorem d_w_sums_37 : decode prog_1_method_56_code 37 = .ok (.if_icmp .ne 19, 3) := by decide +kernel
theorem d_w_sums_4 : decode prog_1_method_56_code 4 = .ok (.ifCond .ne 6, 3) := by decide +kernel
theorem d_w_sums_40 : decode prog_1_method_56_code 40 = .ok (.aload_n 0, 1) := by decide +kernel
theorem d_w_sums_41 : decode prog_1_method_56_code 41 = .ok (.getfield 69, 3) := by decide +kernel
theorem d_w_sums_44 : decode prog_1_method_56_code 44 = .ok (.aload_n 0, 1) := by decide +kernel
theorem d_w_sums_45 : decode prog_1_method_56_code 45 = .ok (.getfield 17, 3) := by decide +kernel
theorem d_w_sums_48 : decode prog_1_method_56_code 48 = .ok (.iload_n 2, 1) := by decide +kernel
theorem d_w_sums_49 : decode prog_1_method_56_code 49 = .ok (.aaload, 1) := by decide +kernel
theorem d_w_sums_50 : decode prog_1_method_56_code 50 = .ok (.getfield 168, 3) := by decide +kernel
theorem d_w_sums_53 : decode prog_1_method_56_code 53 = .ok (.invokevirtual 340, 3) := by decide +kernel
theorem d_w_sums_56 : decode prog_1_method_56_code 56 = .ok (.iinc 2 1, 3) := by decide +kernel
theorem d_w_sums_59 : decode prog_1_method_56_code 59 = .ok (.goto (-40), 3) := by decide +kernel
theorem d_w_sums_62 : decode prog_1_method_56_code 62 = .ok (.aload_n 0, 1) := by decide +kernel
theorem d_w_sums_63 : decode prog_1_method_56_code 63 = .ok (.getfield 69, 3) := by decide +kernel
theorem d_w_sums_66 : decode prog_1_method_56_code 66 = .ok (.invokevirtual 343, 3) := by decide +kernel
theorem d_w_sums_69 : decode prog_1_method_56_code 69 = .ok (.ireturn, 1) := by decide +kernel
theorem d_w_sums_7 : decode prog_1_method_56_code 7 = .ok (.bipush (-2), 2) := by decide +kernel
theorem d_w_sums_9 : decode prog_1_method_56_code 9 = .ok (.ireturn, 1) := by decide +kernel
theorem d_w_sure_0 : decode prog_1_method_49_code 0 = .ok (.aload_n 0, 1) := by decide +kernel
theorem d_w_sure_1 : decode prog_1_method_49_code 1 = .ok (.iload_n 1, 1) := by decide +kernel
theorem d_w_sure_10 : decode prog_1_method_49_code 10 = .ok (.ireturn, 1) := by decide +kernel
theorem d_w_sure_11 : decode prog_1_method_49_code 11 = .ok (.aload_n 0, 1) := by decide +kernel
theorem d_w_sure_12 : decode prog_1_method_49_code 12 = .ok (.invokevirtual 297, 3) := by decide +kernel
theorem d_w_sure_15 : decode prog_1_method_49_code 15 = .ok (.istore_n 2, 1) := by decide +kernel
theorem d_w_sure_16 : decode prog_1_method_49_code 16 = .ok (.iload_n 2, 1) := by decide +kernel
theorem d_w_sure_17 : decode prog_1_method_49_code 17 = .ok (.ifCond .ne 8, 3) := by decide +kernel
theorem d_w_sure_2 : decode prog_1_method_49_code 2 = .ok (.invokevirtual 162, 3) := by decide +kernel
theorem d_w_sure_20 : decode prog_1_method_49_code 20 = .ok (.bipush (-3), 2) := by decide +kernel
theorem d_w_sure_22 : decode prog_1_method_49_code 22 = .ok (.goto 9, 3) := by decide +kernel
theorem d_w_sure_25 : decode prog_1_method_49_code 25 = .ok (.aload_n 0, 1) := by decide +kernel
theorem d_w_sure_26 : decode prog_1_method_49_code 26 = .ok (.iload_n 1, 1) := by decide +kernel
theorem d_w_sure_27 : decode prog_1_method_49_code 27 = .ok (.iload_n 2, 1) := by decide +kernel
theorem d_w_sure_28 : decode prog_1_method_49_code 28 = .ok (.invokevirtual 331, 3) := by decide +kernel
theorem d_w_sure_31 : decode prog_1_method_49_code 31 = .ok (.ireturn, 1) := by decide +kernel
theorem d_w_sure_5 : decode prog_1_method_49_code 5 = .ok (.ifCond .ne 6, 3) := by decide +kernel
theorem d_w_sure_8 : decode prog_1_method_49_code 8 = .ok (.bipush (-5), 2) := by decide +kernel
theorem d_w_takenFuse_0 : decode prog_1_method_92_code 0 = .ok (.aload_n 0, 1) := by decide +kernel
theorem d_w_takenFuse_1 : decode prog_1_method_92_code 1 = .ok (.iload_n 1, 1) := by decide +kernel
theorem d_w_takenFuse_10 : decode prog_1_method_92_code 10 = .ok (.ireturn, 1) := by decide +kernel
theorem d_w_takenFuse_11 : decode prog_1_method_92_code 11 = .ok (.iload_n 2, 1) := by decide +kernel
theorem d_w_takenFuse_12 : decode prog_1_method_92_code 12 = .ok (.bipush 6, 2) := by decide +kernel
theorem d_w_takenFuse_14 : decode prog_1_method_92_code 14 = .ok (.if_icmp .ne 15, 3) := by decide +kernel
theorem d_w_takenFuse_17 : decode prog_1_method_92_code 17 = .ok (.aload_n 0, 1) := by decide +kernel
theorem d_w_takenFuse_18 : decode prog_1_method_92_code 18 = .ok (.getfield 11, 3) := by decide +kernel
theorem d_w_takenFuse_2 : decode prog_1_method_92_code 2 = .ok (.invokevirtual 384, 3) := by decide +kernel
theorem d_w_takenFuse_21 : decode prog_1_method_92_code 21 = .ok (.iload_n 1, 1) := by decide +kernel
theorem d_w_takenFuse_22 : decode prog_1_method_92_code 22 = .ok (.aaload, 1) := by decide +kernel
theorem d_w_takenFuse_23 : decode prog_1_method_92_code 23 = .ok (.getfield 117, 3) := by decide +kernel
theorem d_w_takenFuse_26 : decode prog_1_method_92_code 26 = .ok (.goto 5, 3) := by decide +kernel
theorem d_w_takenFuse_29 : decode prog_1_method_92_code 29 = .ok (.bipush (-13), 2) := by decide +kernel
theorem d_w_takenFuse_31 : decode prog_1_method_92_code 31 = .ok (.ireturn, 1) := by decide +kernel
theorem d_w_takenFuse_5 : decode prog_1_method_92_code 5 = .ok (.ifCond .ne 6, 3) := by decide +kernel
theorem d_w_takenFuse_8 : decode prog_1_method_92_code 8 = .ok (.bipush (-11), 2) := by decide +kernel
theorem d_w_taken_0 : decode prog_1_method_91_code 0 = .ok (.iload_n 2, 1) := by decide +kernel
theorem d_w_taken_1 : decode prog_1_method_91_code 1 = .ok (.iconst 0, 1) := by decide +kernel
theorem d_w_taken_10 : decode prog_1_method_91_code 10 = .ok (.bipush (-2), 2) := by decide +kernel
theorem d_w_taken_12 : decode prog_1_method_91_code 12 = .ok (.ireturn, 1) := by decide +kernel
theorem d_w_taken_13 : decode prog_1_method_91_code 13 = .ok (.iload_n 1, 1) := by decide +kernel
theorem d_w_taken_14 : decode prog_1_method_91_code 14 = .ok (.iconst 0, 1) := by decide +kernel
theorem d_w_taken_15 : decode prog_1_method_91_code 15 = .ok (.bipush 15, 2) := by decide +kernel
theorem d_w_taken_17 : decode prog_1_method_91_code 17 = .ok (.invokestatic 110, 3) := by decide +kernel
theorem d_w_taken_2 : decode prog_1_method_91_code 2 = .ok (.bipush 6, 2) := by decide +kernel
theorem d_w_taken_20 : decode prog_1_method_91_code 20 = .ok (.ifCond .ne 6, 3) := by decide +kernel
theorem d_w_taken_23 : decode prog_1_method_91_code 23 = .ok (.bipush (-12), 2) := by decide +kernel
theorem d_w_taken_25 : decode prog_1_method_91_code 25 = .ok (.ireturn, 1) := by decide +kernel
theorem d_w_taken_26 : decode prog_1_method_91_code 26 = .ok (.iload_n 1, 1) := by decide +kernel
theorem d_w_taken_27 : decode prog_1_method_91_code 27 = .ok (.bipush 6, 2) := by decide +kernel
theorem d_w_taken_29 : decode prog_1_method_91_code 29 = .ok (.isub, 1) := by decide +kernel
theorem d_w_taken_30 : decode prog_1_method_91_code 30 = .ok (.istore_n 3, 1) := by decide +kernel
theorem d_w_taken_31 : decode prog_1_method_91_code 31 = .ok (.iload_n 3, 1) := by decide +kernel
theorem d_w_taken_32 : decode prog_1_method_91_code 32 = .ok (.ifCond .ge 10, 3) := by decide +kernel
theorem d_w_taken_35 : decode prog_1_method_91_code 35 = .ok (.aload_n 0, 1) := by decide +kernel
theorem d_w_taken_36 : decode prog_1_method_91_code 36 = .ok (.iload_n 1, 1) := by decide +kernel
theorem d_w_taken_37 : decode prog_1_method_91_code 37 = .ok (.iload_n 2, 1) := by decide +kernel
theorem d_w_taken_38 : decode prog_1_method_91_code 38 = .ok (.invokevirtual 443, 3) := by decide +kernel
theorem d_w_taken_4 : decode prog_1_method_91_code 4 = .ok (.invokestatic 110, 3) := by decide +kernel
theorem d_w_taken_41 : decode prog_1_method_91_code 41 = .ok (.ireturn, 1) := by decide +kernel
theorem d_w_taken_42 : decode prog_1_method_91_code 42 = .ok (.aload_n 0, 1) := by decide +kernel
theorem d_w_taken_43 : decode prog_1_method_91_code 43 = .ok (.iload_n 3, 1) := by decide +kernel
theorem d_w_taken_44 : decode prog_1_method_91_code 44 = .ok (.invokevirtual 162, 3) := by decide +kernel
theorem d_w_taken_47 : decode prog_1_method_91_code 47 = .ok (.ifCond .ne 6, 3) := by decide +kernel
theorem d_w_taken_50 : decode prog_1_method_91_code 50 = .ok (.bipush (-11), 2) := by decide +kernel
theorem d_w_taken_52 : decode prog_1_method_91_code 52 = .ok (.ireturn, 1) := by decide +kernel
theorem d_w_taken_53 : decode prog_1_method_91_code 53 = .ok (.aload_n 0, 1) := by decide +kernel
theorem d_w_taken_54 : decode prog_1_method_91_code 54 = .ok (.getfield 17, 3) := by decide +kernel
theorem d_w_taken_57 : decode prog_1_method_91_code 57 = .ok (.iload_n 3, 1) := by decide +kernel
theorem d_w_taken_58 : decode prog_1_method_91_code 58 = .ok (.aaload, 1) := by decide +kernel
theorem d_w_taken_59 : decode prog_1_method_91_code 59 = .ok (.iload_n 2, 1) := by decide +kernel
theorem d_w_taken_60 : decode prog_1_method_91_code 60 = .ok (.invokevirtual 446, 3) := by decide +kernel
theorem d_w_taken_63 : decode prog_1_method_91_code 63 = .ok (.ifCond .eq 7, 3) := by decide +kernel
theorem d_w_taken_66 : decode prog_1_method_91_code 66 = .ok (.iload_n 3, 1) := by decide +kernel
theorem d_w_taken_67 : decode prog_1_method_91_code 67 = .ok (.goto 5, 3) := by decide +kernel
theorem d_w_taken_7 : decode prog_1_method_91_code 7 = .ok (.ifCond .ne 6, 3) := by decide +kernel
theorem d_w_taken_70 : decode prog_1_method_91_code 70 = .ok (.bipush (-13), 2) := by decide +kernel
theorem d_w_taken_72 : decode prog_1_method_91_code 72 = .ok (.ireturn, 1) := by decide +kernel
theorem d_w_textInForce_0 : decode prog_1_method_12_code 0 = .ok (.aload_n 0, 1) := by decide +kernel
theorem d_w_textInForce_1 : decode prog_1_method_12_code 1 = .ok (.getfield 32, 3) := by decide +kernel
theorem d_w_textInForce_11 : decode prog_1_method_12_code 11 = .ok (.iconst 0, 1) := by decide +kernel
theorem d_w_textInForce_12 : decode prog_1_method_12_code 12 = .ok (.iconst 5, 1) := by decide +kernel
theorem d_w_textInForce_13 : decode prog_1_method_12_code 13 = .ok (.invokestatic 110, 3) := by decide +kernel
theorem d_w_textInForce_16 : decode prog_1_method_12_code 16 = .ok (.ifCond .eq 13, 3) := by decide +kernel
theorem d_w_textInForce_19 : decode prog_1_method_12_code 19 = .ok (.aload_n 0, 1) := by decide +kernel
theorem d_w_textInForce_20 : decode prog_1_method_12_code 20 = .ok (.getfield 45, 3) := by decide +kernel
theorem d_w_textInForce_23 : decode prog_1_method_12_code 23 = .ok (.getfield 145, 3) := by decide +kernel
theorem d_w_textInForce_26 : decode prog_1_method_12_code 26 = .ok (.goto 4, 3) := by decide +kernel
theorem d_w_textInForce_29 : decode prog_1_method_12_code 29 = .ok (.iconst 0, 1) := by decide +kernel
theorem d_w_textInForce_30 : decode prog_1_method_12_code 30 = .ok (.aaload, 1) := by decide +kernel
theorem d_w_textInForce_31 : decode prog_1_method_12_code 31 = .ok (.areturn, 1) := by decide +kernel
theorem d_w_textInForce_4 : decode prog_1_method_12_code 4 = .ok (.aload_n 0, 1) := by decide +kernel
theorem d_w_textInForce_5 : decode prog_1_method_12_code 5 = .ok (.getfield 45, 3) := by decide +kernel
theorem d_w_textInForce_8 : decode prog_1_method_12_code 8 = .ok (.getfield 145, 3) := by decide +kernel
theorem d_w_text_0 : decode prog_1_method_10_code 0 = .ok (.aload_n 0, 1) := by decide +kernel
theorem d_w_text_1 : decode prog_1_method_10_code 1 = .ok (.getfield 106, 3) := by decide +kernel
theorem d_w_text_11 : decode prog_1_method_10_code 11 = .ok (.ireturn, 1) := by decide +kernel
theorem d_w_text_12 : decode prog_1_method_10_code 12 = .ok (.aload_n 0, 1) := by decide +kernel
theorem d_w_text_13 : decode prog_1_method_10_code 13 = .ok (.getfield 55, 3) := by decide +kernel
theorem d_w_text_16 : decode prog_1_method_10_code 16 = .ok (.invokevirtual 91, 3) := by decide +kernel
theorem d_w_text_19 : decode prog_1_method_10_code 19 = .ok (.istore_n 1, 1) := by decide +kernel
theorem d_w_text_20 : decode prog_1_method_10_code 20 = .ok (.aload_n 0, 1) := by decide +kernel
theorem d_w_text_21 : decode prog_1_method_10_code 21 = .ok (.getfield 55, 3) := by decide +kernel
theorem d_w_text_24 : decode prog_1_method_10_code 24 = .ok (.invokevirtual 95, 3) := by decide +kernel
theorem d_w_text_27 : decode prog_1_method_10_code 27 = .ok (.iload_n 1, 1) := by decide +kernel
theorem d_w_text_28 : decode prog_1_method_10_code 28 = .ok (.iconst (-1), 1) := by decide +kernel
theorem d_w_text_29 : decode prog_1_method_10_code 29 = .ok (.if_icmp .eq 8, 3) := by decide +kernel
theorem d_w_text_32 : decode prog_1_method_10_code 32 = .ok (.bipush (-100), 2) := by decide +kernel
theorem d_w_text_34 : decode prog_1_method_10_code 34 = .ok (.iload_n 1, 1) := by decide +kernel
theorem d_w_text_35 : decode prog_1_method_10_code 35 = .ok (.isub, 1) := by decide +kernel
theorem d_w_text_36 : decode prog_1_method_10_code 36 = .ok (.ireturn, 1) := by decide +kernel
theorem d_w_text_37 : decode prog_1_method_10_code 37 = .ok (.aload_n 0, 1) := by decide +kernel
theorem d_w_text_38 : decode prog_1_method_10_code 38 = .ok (.getfield 32, 3) := by decide +kernel
theorem d_w_text_4 : decode prog_1_method_10_code 4 = .ok (.bipush 6, 2) := by decide +kernel
theorem d_w_text_41 : decode prog_1_method_10_code 41 = .ok (.aload_n 0, 1) := by decide +kernel
theorem d_w_text_42 : decode prog_1_method_10_code 42 = .ok (.getfield 106, 3) := by decide +kernel
theorem d_w_text_45 : decode prog_1_method_10_code 45 = .ok (.aaload, 1) := by decide +kernel
theorem d_w_text_46 : decode prog_1_method_10_code 46 = .ok (.aload_n 0, 1) := by decide +kernel
theorem d_w_text_47 : decode prog_1_method_10_code 47 = .ok (.getfield 55, 3) := by decide +kernel
theorem d_w_text_50 : decode prog_1_method_10_code 50 = .ok (.getfield 98, 3) := by decide +kernel
theorem d_w_text_53 : decode prog_1_method_10_code 53 = .ok (.invokevirtual 102, 3) := by decide +kernel
theorem d_w_text_56 : decode prog_1_method_10_code 56 = .ok (.aload_n 0, 1) := by decide +kernel
theorem d_w_text_57 : decode prog_1_method_10_code 57 = .ok (.dup, 1) := by decide +kernel
theorem d_w_text_58 : decode prog_1_method_10_code 58 = .ok (.getfield 106, 3) := by decide +kernel
theorem d_w_text_6 : decode prog_1_method_10_code 6 = .ok (.if_icmp .lt 6, 3) := by decide +kernel
theorem d_w_text_61 : decode prog_1_method_10_code 61 = .ok (.iconst 1, 1) := by decide +kernel
theorem d_w_text_62 : decode prog_1_method_10_code 62 = .ok (.iadd, 1) := by decide +kernel
theorem d_w_text_63 : decode prog_1_method_10_code 63 = .ok (.putfield 106, 3) := by decide +kernel
theorem d_w_text_66 : decode prog_1_method_10_code 66 = .ok (.aload_n 0, 1) := by decide +kernel
theorem d_w_text_67 : decode prog_1_method_10_code 67 = .ok (.getfield 106, 3) := by decide +kernel
theorem d_w_text_70 : decode prog_1_method_10_code 70 = .ok (.iconst 1, 1) := by decide +kernel
theorem d_w_text_71 : decode prog_1_method_10_code 71 = .ok (.isub, 1) := by decide +kernel
theorem d_w_text_72 : decode prog_1_method_10_code 72 = .ok (.ireturn, 1) := by decide +kernel
theorem d_w_text_9 : decode prog_1_method_10_code 9 = .ok (.bipush (-4), 2) := by decide +kernel
theorem d_w_thick_0 : decode prog_1_method_74_code 0 = .ok (.aload_n 0, 1) := by decide +kernel
theorem d_w_thick_1 : decode prog_1_method_74_code 1 = .ok (.iload_n 1, 1) := by decide +kernel
theorem d_w_thick_10 : decode prog_1_method_74_code 10 = .ok (.invokevirtual 384, 3) := by decide +kernel
theorem d_w_thick_101 : decode prog_1_method_74_code 101 = .ok (.istore 5, 2) := by decide +kernel
theorem d_w_thick_103 : decode prog_1_method_74_code 103 = .ok (.iinc 6 1, 3) := by decide +kernel
theorem d_w_thick_106 : decode prog_1_method_74_code 106 = .ok (.goto (-64), 3) := by decide +kernel
theorem d_w_thick_109 : decode prog_1_method_74_code 109 = .ok (.iload 5, 2) := by decide +kernel
theorem d_w_thick_111 : decode prog_1_method_74_code 111 = .ok (.ireturn, 1) := by decide +kernel
theorem d_w_thick_13 : decode prog_1_method_74_code 13 = .ok (.ifCond .ne 6, 3) := by decide +kernel
theorem d_w_thick_16 : decode prog_1_method_74_code 16 = .ok (.bipush (-5), 2) := by decide +kernel
theorem d_w_thick_18 : decode prog_1_method_74_code 18 = .ok (.ireturn, 1) := by decide +kernel
theorem d_w_thick_19 : decode prog_1_method_74_code 19 = .ok (.aload_n 0, 1) := by decide +kernel
theorem d_w_thick_2 : decode prog_1_method_74_code 2 = .ok (.invokevirtual 217, 3) := by decide +kernel
theorem d_w_thick_20 : decode prog_1_method_74_code 20 = .ok (.invokevirtual 387, 3) := by decide +kernel
theorem d_w_thick_23 : decode prog_1_method_74_code 23 = .ok (.aload_n 0, 1) := by decide +kernel
theorem d_w_thick_24 : decode prog_1_method_74_code 24 = .ok (.iload_n 1, 1) := by decide +kernel
theorem d_w_thick_25 : decode prog_1_method_74_code 25 = .ok (.iconst 0, 1) := by decide +kernel
theorem d_w_thick_26 : decode prog_1_method_74_code 26 = .ok (.invokevirtual 233, 3) := by decide +kernel
theorem d_w_thick_29 : decode prog_1_method_74_code 29 = .ok (.istore_n 3, 1) := by decide +kernel
theorem d_w_thick_30 : decode prog_1_method_74_code 30 = .ok (.aload_n 0, 1) := by decide +kernel
theorem d_w_thick_31 : decode prog_1_method_74_code 31 = .ok (.invokevirtual 393, 3) := by decide +kernel
theorem d_w_thick_34 : decode prog_1_method_74_code 34 = .ok (.istore 4, 2) := by decide +kernel
theorem d_w_thick_36 : decode prog_1_method_74_code 36 = .ok (.iconst 0, 1) := by decide +kernel
theorem d_w_thick_37 : decode prog_1_method_74_code 37 = .ok (.istore 5, 2) := by decide +kernel
theorem d_w_thick_39 : decode prog_1_method_74_code 39 = .ok (.iconst 0, 1) := by decide +kernel
theorem d_w_thick_40 : decode prog_1_method_74_code 40 = .ok (.istore 6, 2) := by decide +kernel
theorem d_w_thick_42 : decode prog_1_method_74_code 42 = .ok (.iload 6, 2) := by decide +kernel
theorem d_w_thick_44 : decode prog_1_method_74_code 44 = .ok (.sipush 256, 3) := by decide +kernel
theorem d_w_thick_47 : decode prog_1_method_74_code 47 = .ok (.if_icmp .ge 62, 3) := by decide +kernel
theorem d_w_thick_5 : decode prog_1_method_74_code 5 = .ok (.ifCond .eq 11, 3) := by decide +kernel
theorem d_w_thick_50 : decode prog_1_method_74_code 50 = .ok (.iload 6, 2) := by decide +kernel
theorem d_w_thick_52 : decode prog_1_method_74_code 52 = .ok (.iload 4, 2) := by decide +kernel
theorem d_w_thick_54 : decode prog_1_method_74_code 54 = .ok (.invokestatic 266, 3) := by decide +kernel
theorem d_w_thick_57 : decode prog_1_method_74_code 57 = .ok (.ifCond .eq 46, 3) := by decide +kernel
theorem d_w_thick_60 : decode prog_1_method_74_code 60 = .ok (.iload_n 3, 1) := by decide +kernel
theorem d_w_thick_61 : decode prog_1_method_74_code 61 = .ok (.aload_n 0, 1) := by decide +kernel
theorem d_w_thick_62 : decode prog_1_method_74_code 62 = .ok (.iload 6, 2) := by decide +kernel
theorem d_w_thick_64 : decode prog_1_method_74_code 64 = .ok (.aload_n 0, 1) := by decide +kernel
theorem d_w_thick_65 : decode prog_1_method_74_code 65 = .ok (.getfield 45, 3) := by decide +kernel
theorem d_w_thick_68 : decode prog_1_method_74_code 68 = .ok (.getfield 127, 3) := by decide +kernel
theorem d_w_thick_71 : decode prog_1_method_74_code 71 = .ok (.iconst 2, 1) := by decide +kernel
theorem d_w_thick_72 : decode prog_1_method_74_code 72 = .ok (.iaload, 1) := by decide +kernel
theorem d_w_thick_73 : decode prog_1_method_74_code 73 = .ok (.invokevirtual 236, 3) := by decide +kernel
theorem d_w_thick_76 : decode prog_1_method_74_code 76 = .ok (.iand, 1) := by decide +kernel
theorem d_w_thick_77 : decode prog_1_method_74_code 77 = .ok (.istore 7, 2) := by decide +kernel
theorem d_w_thick_79 : decode prog_1_method_74_code 79 = .ok (.iload 5, 2) := by decide +kernel
theorem d_w_thick_8 : decode prog_1_method_74_code 8 = .ok (.aload_n 0, 1) := by decide +kernel
theorem d_w_thick_81 : decode prog_1_method_74_code 81 = .ok (.aload_n 0, 1) := by decide +kernel
theorem d_w_thick_82 : decode prog_1_method_74_code 82 = .ok (.aload_n 0, 1) := by decide +kernel
theorem d_w_thick_83 : decode prog_1_method_74_code 83 = .ok (.getfield 23, 3) := by decide +kernel
theorem d_w_thick_86 : decode prog_1_method_74_code 86 = .ok (.iload_n 1, 1) := by decide +kernel
theorem d_w_thick_87 : decode prog_1_method_74_code 87 = .ok (.aaload, 1) := by decide +kernel
theorem d_w_thick_88 : decode prog_1_method_74_code 88 = .ok (.getfield 245, 3) := by decide +kernel
theorem d_w_thick_9 : decode prog_1_method_74_code 9 = .ok (.iload_n 2, 1) := by decide +kernel
theorem d_w_thick_91 : decode prog_1_method_74_code 91 = .ok (.iload_n 2, 1) := by decide +kernel
theorem d_w_thick_92 : decode prog_1_method_74_code 92 = .ok (.iaload, 1) := by decide +kernel
theorem d_w_thick_93 : decode prog_1_method_74_code 93 = .ok (.iload 7, 2) := by decide +kernel
theorem d_w_thick_95 : decode prog_1_method_74_code 95 = .ok (.invokevirtual 390, 3) := by decide +kernel
theorem d_w_thick_98 : decode prog_1_method_74_code 98 = .ok (.invokestatic 248, 3) := by decide +kernel
theorem d_w_touch_0 : decode prog_1_method_53_code 0 = .ok (.aload_n 0, 1) := by decide +kernel
theorem d_w_touch_1 : decode prog_1_method_53_code 1 = .ok (.invokevirtual 297, 3) := by decide +kernel
theorem d_w_touch_10 : decode prog_1_method_53_code 10 = .ok (.aload_n 0, 1) := by decide +kernel
theorem d_w_touch_11 : decode prog_1_method_53_code 11 = .ok (.getfield 136, 3) := by decide +kernel
theorem d_w_touch_14 : decode prog_1_method_53_code 14 = .ok (.if_icmp .ge 34, 3) := by decide +kernel
theorem d_w_touch_17 : decode prog_1_method_53_code 17 = .ok (.iload_n 1, 1) := by decide +kernel
theorem d_w_touch_18 : decode prog_1_method_53_code 18 = .ok (.iload_n 3, 1) := by decide +kernel
theorem d_w_touch_19 : decode prog_1_method_53_code 19 = .ok (.invokestatic 242, 3) := by decide +kernel
theorem d_w_touch_22 : decode prog_1_method_53_code 22 = .ok (.ifCond .eq 20, 3) := by decide +kernel
theorem d_w_touch_25 : decode prog_1_method_53_code 25 = .ok (.iload_n 2, 1) := by decide +kernel
theorem d_w_touch_26 : decode prog_1_method_53_code 26 = .ok (.aload_n 0, 1) := by decide +kernel
theorem d_w_touch_27 : decode prog_1_method_53_code 27 = .ok (.iload_n 3, 1) := by decide +kernel
theorem d_w_touch_28 : decode prog_1_method_53_code 28 = .ok (.aload_n 0, 1) := by decide +kernel
theorem d_w_touch_29 : decode prog_1_method_53_code 29 = .ok (.getfield 45, 3) := by decide +kernel
theorem d_w_touch_32 : decode prog_1_method_53_code 32 = .ok (.getfield 127, 3) := by decide +kernel
theorem d_w_touch_35 : decode prog_1_method_53_code 35 = .ok (.iconst 0, 1) := by decide +kernel
theorem d_w_touch_36 : decode prog_1_method_53_code 36 = .ok (.iaload, 1) := by decide +kernel
theorem d_w_touch_37 : decode prog_1_method_53_code 37 = .ok (.invokevirtual 233, 3) := by decide +kernel
theorem d_w_touch_4 : decode prog_1_method_53_code 4 = .ok (.istore_n 1, 1) := by decide +kernel
theorem d_w_touch_40 : decode prog_1_method_53_code 40 = .ok (.ior, 1) := by decide +kernel
theorem d_w_touch_41 : decode prog_1_method_53_code 41 = .ok (.istore_n 2, 1) := by decide +kernel
theorem d_w_touch_42 : decode prog_1_method_53_code 42 = .ok (.iinc 3 1, 3) := by decide +kernel
theorem d_w_touch_45 : decode prog_1_method_53_code 45 = .ok (.goto (-36), 3) := by decide +kernel
theorem d_w_touch_48 : decode prog_1_method_53_code 48 = .ok (.aload_n 0, 1) := by decide +kernel
theorem d_w_touch_49 : decode prog_1_method_53_code 49 = .ok (.getfield 133, 3) := by decide +kernel
theorem d_w_touch_5 : decode prog_1_method_53_code 5 = .ok (.iconst 0, 1) := by decide +kernel
theorem d_w_touch_52 : decode prog_1_method_53_code 52 = .ok (.invokestatic 130, 3) := by decide +kernel
theorem d_w_touch_55 : decode prog_1_method_53_code 55 = .ok (.iload_n 2, 1) := by decide +kernel
theorem d_w_touch_56 : decode prog_1_method_53_code 56 = .ok (.iconst (-1), 1) := by decide +kernel
theorem d_w_touch_57 : decode prog_1_method_53_code 57 = .ok (.ixor, 1) := by decide +kernel
theorem d_w_touch_58 : decode prog_1_method_53_code 58 = .ok (.iand, 1) := by decide +kernel
theorem d_w_touch_59 : decode prog_1_method_53_code 59 = .ok (.ireturn, 1) := by decide +kernel
theorem d_w_touch_6 : decode prog_1_method_53_code 6 = .ok (.istore_n 2, 1) := by decide +kernel
theorem d_w_touch_7 : decode prog_1_method_53_code 7 = .ok (.iconst 0, 1) := by decide +kernel
theorem d_w_touch_8 : decode prog_1_method_53_code 8 = .ok (.istore_n 3, 1) := by decide +kernel
theorem d_w_touch_9 : decode prog_1_method_53_code 9 = .ok (.iload_n 3, 1) := by decide +kernel
theorem d_w_usedSwitches_0 : decode prog_1_method_84_code 0 = .ok (.iconst 0, 1) := by decide +kernel
theorem d_w_usedSwitches_1 : decode prog_1_method_84_code 1 = .ok (.istore_n 1, 1) := by decide +kernel
theorem d_w_usedSwitches_12 : decode prog_1_method_84_code 12 = .ok (.iload_n 1, 1) := by decide +kernel
theorem d_w_usedSwitches_13 : decode prog_1_method_84_code 13 = .ok (.iconst 1, 1) := by decide +kernel
theorem d_w_usedSwitches_14 : decode prog_1_method_84_code 14 = .ok (.aload_n 0, 1) := by decide +kernel
theorem d_w_usedSwitches_15 : decode prog_1_method_84_code 15 = .ok (.getfield 17, 3) := by decide +kernel
theorem d_w_usedSwitches_18 : decode prog_1_method_84_code 18 = .ok (.iload_n 2, 1) := by decide +kernel
theorem d_w_usedSwitches_19 : decode prog_1_method_84_code 19 = .ok (.aaload, 1) := by decide +kernel
theorem d_w_usedSwitches_2 : decode prog_1_method_84_code 2 = .ok (.iconst 0, 1) := by decide +kernel
theorem d_w_usedSwitches_20 : decode prog_1_method_84_code 20 = .ok (.getfield 174, 3) := by decide +kernel
theorem d_w_usedSwitches_23 : decode prog_1_method_84_code 23 = .ok (.ishl, 1) := by decide +kernel
theorem d_w_usedSwitches_24 : decode prog_1_method_84_code 24 = .ok (.iconst 1, 1) := by decide +kernel
theorem d_w_usedSwitches_25 : decode prog_1_method_84_code 25 = .ok (.aload_n 0, 1) := by decide +kernel
theorem d_w_usedSwitches_26 : decode prog_1_method_84_code 26 = .ok (.getfield 17, 3) := by decide +kernel
theorem d_w_usedSwitches_29 : decode prog_1_method_84_code 29 = .ok (.iload_n 2, 1) := by decide +kernel
theorem d_w_usedSwitches_3 : decode prog_1_method_84_code 3 = .ok (.istore_n 2, 1) := by decide +kernel
theorem d_w_usedSwitches_30 : decode prog_1_method_84_code 30 = .ok (.aaload, 1) := by decide +kernel
theorem d_w_usedSwitches_31 : decode prog_1_method_84_code 31 = .ok (.getfield 177, 3) := by decide +kernel
theorem d_w_usedSwitches_34 : decode prog_1_method_84_code 34 = .ok (.ishl, 1) := by decide +kernel
theorem d_w_usedSwitches_35 : decode prog_1_method_84_code 35 = .ok (.ior, 1) := by decide +kernel
theorem d_w_usedSwitches_36 : decode prog_1_method_84_code 36 = .ok (.ior, 1) := by decide +kernel
theorem d_w_usedSwitches_37 : decode prog_1_method_84_code 37 = .ok (.istore_n 1, 1) := by decide +kernel
theorem d_w_usedSwitches_38 : decode prog_1_method_84_code 38 = .ok (.iinc 2 1, 3) := by decide +kernel
theorem d_w_usedSwitches_4 : decode prog_1_method_84_code 4 = .ok (.iload_n 2, 1) := by decide +kernel
theorem d_w_usedSwitches_41 : decode prog_1_method_84_code 41 = .ok (.goto (-37), 3) := by decide +kernel
theorem d_w_usedSwitches_44 : decode prog_1_method_84_code 44 = .ok (.iload_n 1, 1) := by decide +kernel
theorem d_w_usedSwitches_45 : decode prog_1_method_84_code 45 = .ok (.ireturn, 1) := by decide +kernel
theorem d_w_usedSwitches_5 : decode prog_1_method_84_code 5 = .ok (.aload_n 0, 1) := by decide +kernel
theorem d_w_usedSwitches_6 : decode prog_1_method_84_code 6 = .ok (.getfield 133, 3) := by decide +kernel
theorem d_w_usedSwitches_9 : decode prog_1_method_84_code 9 = .ok (.if_icmp .ge 35, 3) := by decide +kernel
theorem d_w_wallAmiss_0 : decode prog_1_method_70_code 0 = .ok (.iconst 0, 1) := by decide +kernel
theorem d_w_wallAmiss_1 : decode prog_1_method_70_code 1 = .ok (.istore_n 3, 1) := by decide +kernel
theorem d_w_wallAmiss_11 : decode prog_1_method_70_code 11 = .ok (.if_icmp .ge 42, 3) := by decide +kernel
theorem d_w_wallAmiss_14 : decode prog_1_method_70_code 14 = .ok (.iload 4, 2) := by decide +kernel
theorem d_w_wallAmiss_16 : decode prog_1_method_70_code 16 = .ok (.bipush 30, 2) := by decide +kernel
theorem d_w_wallAmiss_18 : decode prog_1_method_70_code 18 = .ok (.if_icmp .ge 35, 3) := by decide +kernel
theorem d_w_wallAmiss_2 : decode prog_1_method_70_code 2 = .ok (.iconst 0, 1) := by decide +kernel
theorem d_w_wallAmiss_21 : decode prog_1_method_70_code 21 = .ok (.iload_n 3, 1) := by decide +kernel
theorem d_w_wallAmiss_22 : decode prog_1_method_70_code 22 = .ok (.aload_n 1, 1) := by decide +kernel
theorem d_w_wallAmiss_23 : decode prog_1_method_70_code 23 = .ok (.getfield 378, 3) := by decide +kernel
theorem d_w_wallAmiss_26 : decode prog_1_method_70_code 26 = .ok (.iload 4, 2) := by decide +kernel
theorem d_w_wallAmiss_28 : decode prog_1_method_70_code 28 = .ok (.iaload, 1) := by decide +kernel
theorem d_w_wallAmiss_29 : decode prog_1_method_70_code 29 = .ok (.aload_n 0, 1) := by decide +kernel
theorem d_w_wallAmiss_3 : decode prog_1_method_70_code 3 = .ok (.istore 4, 2) := by decide +kernel
theorem d_w_wallAmiss_30 : decode prog_1_method_70_code 30 = .ok (.getfield 77, 3) := by decide +kernel
theorem d_w_wallAmiss_33 : decode prog_1_method_70_code 33 = .ok (.iload 4, 2) := by decide +kernel
theorem d_w_wallAmiss_35 : decode prog_1_method_70_code 35 = .ok (.iload_n 2, 1) := by decide +kernel
theorem d_w_wallAmiss_36 : decode prog_1_method_70_code 36 = .ok (.isub, 1) := by decide +kernel
theorem d_w_wallAmiss_37 : decode prog_1_method_70_code 37 = .ok (.invokestatic 381, 3) := by decide +kernel
theorem d_w_wallAmiss_40 : decode prog_1_method_70_code 40 = .ok (.iaload, 1) := by decide +kernel
theorem d_w_wallAmiss_41 : decode prog_1_method_70_code 41 = .ok (.isub, 1) := by decide +kernel
theorem d_w_wallAmiss_42 : decode prog_1_method_70_code 42 = .ok (.invokestatic 381, 3) := by decide +kernel
theorem d_w_wallAmiss_45 : decode prog_1_method_70_code 45 = .ok (.iadd, 1) := by decide +kernel
theorem d_w_wallAmiss_46 : decode prog_1_method_70_code 46 = .ok (.istore_n 3, 1) := by decide +kernel
theorem d_w_wallAmiss_47 : decode prog_1_method_70_code 47 = .ok (.iinc 4 1, 3) := by decide +kernel
theorem d_w_wallAmiss_5 : decode prog_1_method_70_code 5 = .ok (.iload 4, 2) := by decide +kernel
theorem d_w_wallAmiss_50 : decode prog_1_method_70_code 50 = .ok (.goto (-45), 3) := by decide +kernel
theorem d_w_wallAmiss_53 : decode prog_1_method_70_code 53 = .ok (.iload_n 3, 1) := by decide +kernel
theorem d_w_wallAmiss_54 : decode prog_1_method_70_code 54 = .ok (.ireturn, 1) := by decide +kernel
theorem d_w_wallAmiss_7 : decode prog_1_method_70_code 7 = .ok (.aload_n 1, 1) := by decide +kernel
theorem d_w_wallAmiss_8 : decode prog_1_method_70_code 8 = .ok (.getfield 212, 3) := by decide +kernel
theorem d_w_wall_0 : decode prog_1_method_65_code 0 = .ok (.iload_n 1, 1) := by decide +kernel
theorem d_w_wall_1 : decode prog_1_method_65_code 1 = .ok (.invokestatic 205, 3) := by decide +kernel
theorem d_w_wall_101 : decode prog_1_method_65_code 101 = .ok (.aload 4, 2) := by decide +kernel
theorem d_w_wall_103 : decode prog_1_method_65_code 103 = .ok (.getfield 212, 3) := by decide +kernel
theorem d_w_wall_106 : decode prog_1_method_65_code 106 = .ok (.if_icmp .ge 34, 3) := by decide +kernel
theorem d_w_wall_109 : decode prog_1_method_65_code 109 = .ok (.aload_n 0, 1) := by decide +kernel
theorem d_w_wall_11 : decode prog_1_method_65_code 11 = .ok (.ifCond .eq 12, 3) := by decide +kernel
theorem d_w_wall_110 : decode prog_1_method_65_code 110 = .ok (.aload 4, 2) := by decide +kernel
theorem d_w_wall_112 : decode prog_1_method_65_code 112 = .ok (.iload 7, 2) := by decide +kernel
theorem d_w_wall_114 : decode prog_1_method_65_code 114 = .ok (.invokevirtual 374, 3) := by decide +kernel
theorem d_w_wall_117 : decode prog_1_method_65_code 117 = .ok (.istore 8, 2) := by decide +kernel
theorem d_w_wall_119 : decode prog_1_method_65_code 119 = .ok (.iload 8, 2) := by decide +kernel
theorem d_w_wall_121 : decode prog_1_method_65_code 121 = .ok (.iload 6, 2) := by decide +kernel
theorem d_w_wall_123 : decode prog_1_method_65_code 123 = .ok (.if_icmp .ge 11, 3) := by decide +kernel
theorem d_w_wall_126 : decode prog_1_method_65_code 126 = .ok (.iload 7, 2) := by decide +kernel
theorem d_w_wall_128 : decode prog_1_method_65_code 128 = .ok (.istore 5, 2) := by decide +kernel
theorem d_w_wall_130 : decode prog_1_method_65_code 130 = .ok (.iload 8, 2) := by decide +kernel
theorem d_w_wall_132 : decode prog_1_method_65_code 132 = .ok (.istore 6, 2) := by decide +kernel
theorem d_w_wall_134 : decode prog_1_method_65_code 134 = .ok (.iinc 7 1, 3) := by decide +kernel
theorem d_w_wall_137 : decode prog_1_method_65_code 137 = .ok (.goto (-38), 3) := by decide +kernel
theorem d_w_wall_14 : decode prog_1_method_65_code 14 = .ok (.iload_n 3, 1) := by decide +kernel
theorem d_w_wall_140 : decode prog_1_method_65_code 140 = .ok (.iload_n 3, 1) := by decide +kernel
theorem d_w_wall_141 : decode prog_1_method_65_code 141 = .ok (.ifCond .ne 8, 3) := by decide +kernel
theorem d_w_wall_144 : decode prog_1_method_65_code 144 = .ok (.iload 5, 2) := by decide +kernel
theorem d_w_wall_146 : decode prog_1_method_65_code 146 = .ok (.goto 5, 3) := by decide +kernel
theorem d_w_wall_149 : decode prog_1_method_65_code 149 = .ok (.iload 6, 2) := by decide +kernel
theorem d_w_wall_15 : decode prog_1_method_65_code 15 = .ok (.iconst 0, 1) := by decide +kernel
theorem d_w_wall_151 : decode prog_1_method_65_code 151 = .ok (.ireturn, 1) := by decide +kernel
theorem d_w_wall_16 : decode prog_1_method_65_code 16 = .ok (.iconst 1, 1) := by decide +kernel
theorem d_w_wall_17 : decode prog_1_method_65_code 17 = .ok (.invokestatic 110, 3) := by decide +kernel
theorem d_w_wall_20 : decode prog_1_method_65_code 20 = .ok (.ifCond .ne 6, 3) := by decide +kernel
theorem d_w_wall_23 : decode prog_1_method_65_code 23 = .ok (.bipush (-2), 2) := by decide +kernel
theorem d_w_wall_25 : decode prog_1_method_65_code 25 = .ok (.ireturn, 1) := by decide +kernel
theorem d_w_wall_26 : decode prog_1_method_65_code 26 = .ok (.aload_n 0, 1) := by decide +kernel
theorem d_w_wall_27 : decode prog_1_method_65_code 27 = .ok (.getfield 38, 3) := by decide +kernel
theorem d_w_wall_30 : decode prog_1_method_65_code 30 = .ok (.iload_n 1, 1) := by decide +kernel
theorem d_w_wall_31 : decode prog_1_method_65_code 31 = .ok (.aaload, 1) := by decide +kernel
theorem d_w_wall_32 : decode prog_1_method_65_code 32 = .ok (.astore 4, 2) := by decide +kernel
theorem d_w_wall_34 : decode prog_1_method_65_code 34 = .ok (.aload 4, 2) := by decide +kernel
theorem d_w_wall_36 : decode prog_1_method_65_code 36 = .ok (.invokevirtual 208, 3) := by decide +kernel
theorem d_w_wall_39 : decode prog_1_method_65_code 39 = .ok (.ifCond .eq 6, 3) := by decide +kernel
theorem d_w_wall_4 : decode prog_1_method_65_code 4 = .ok (.ifCond .eq 19, 3) := by decide +kernel
theorem d_w_wall_42 : decode prog_1_method_65_code 42 = .ok (.bipush (-11), 2) := by decide +kernel
theorem d_w_wall_44 : decode prog_1_method_65_code 44 = .ok (.ireturn, 1) := by decide +kernel
theorem d_w_wall_45 : decode prog_1_method_65_code 45 = .ok (.aload 4, 2) := by decide +kernel
theorem d_w_wall_47 : decode prog_1_method_65_code 47 = .ok (.getfield 212, 3) := by decide +kernel
theorem d_w_wall_50 : decode prog_1_method_65_code 50 = .ok (.iconst 1, 1) := by decide +kernel
theorem d_w_wall_51 : decode prog_1_method_65_code 51 = .ok (.bipush 30, 2) := by decide +kernel
theorem d_w_wall_53 : decode prog_1_method_65_code 53 = .ok (.invokestatic 110, 3) := by decide +kernel
theorem d_w_wall_56 : decode prog_1_method_65_code 56 = .ok (.ifCond .eq 15, 3) := by decide +kernel
theorem d_w_wall_59 : decode prog_1_method_65_code 59 = .ok (.aload 4, 2) := by decide +kernel
theorem d_w_wall_61 : decode prog_1_method_65_code 61 = .ok (.iconst 0, 1) := by decide +kernel
theorem d_w_wall_62 : decode prog_1_method_65_code 62 = .ok (.sipush 999, 3) := by decide +kernel
theorem d_w_wall_65 : decode prog_1_method_65_code 65 = .ok (.invokevirtual 213, 3) := by decide +kernel
theorem d_w_wall_68 : decode prog_1_method_65_code 68 = .ok (.ifCond .ne 6, 3) := by decide +kernel
theorem d_w_wall_7 : decode prog_1_method_65_code 7 = .ok (.iload_n 2, 1) := by decide +kernel
theorem d_w_wall_71 : decode prog_1_method_65_code 71 = .ok (.bipush (-2), 2) := by decide +kernel
theorem d_w_wall_73 : decode prog_1_method_65_code 73 = .ok (.ireturn, 1) := by decide +kernel
theorem d_w_wall_74 : decode prog_1_method_65_code 74 = .ok (.aload_n 0, 1) := by decide +kernel
theorem d_w_wall_75 : decode prog_1_method_65_code 75 = .ok (.iload_n 2, 1) := by decide +kernel
theorem d_w_wall_76 : decode prog_1_method_65_code 76 = .ok (.aload 4, 2) := by decide +kernel
theorem d_w_wall_78 : decode prog_1_method_65_code 78 = .ok (.getfield 212, 3) := by decide +kernel
theorem d_w_wall_8 : decode prog_1_method_65_code 8 = .ok (.invokestatic 230, 3) := by decide +kernel
theorem d_w_wall_81 : decode prog_1_method_65_code 81 = .ok (.invokevirtual 371, 3) := by decide +kernel
theorem d_w_wall_84 : decode prog_1_method_65_code 84 = .ok (.iconst 0, 1) := by decide +kernel
theorem d_w_wall_85 : decode prog_1_method_65_code 85 = .ok (.istore 5, 2) := by decide +kernel
theorem d_w_wall_87 : decode prog_1_method_65_code 87 = .ok (.aload_n 0, 1) := by decide +kernel
theorem d_w_wall_88 : decode prog_1_method_65_code 88 = .ok (.aload 4, 2) := by decide +kernel
theorem d_w_wall_90 : decode prog_1_method_65_code 90 = .ok (.iconst 0, 1) := by decide +kernel
theorem d_w_wall_91 : decode prog_1_method_65_code 91 = .ok (.invokevirtual 374, 3) := by decide +kernel
theorem d_w_wall_94 : decode prog_1_method_65_code 94 = .ok (.istore 6, 2) := by decide +kernel
theorem d_w_wall_96 : decode prog_1_method_65_code 96 = .ok (.iconst 1, 1) := by decide +kernel
theorem d_w_wall_97 : decode prog_1_method_65_code 97 = .ok (.istore 7, 2) := by decide +kernel
theorem d_w_wall_99 : decode prog_1_method_65_code 99 = .ok (.iload 7, 2) := by decide +kernel
theorem d_w_which_0 : decode prog_1_method_57_code 0 = .ok (.iload_n 1, 1) := by decide +kernel
theorem d_w_which_1 : decode prog_1_method_57_code 1 = .ok (.invokestatic 230, 3) := by decide +kernel
theorem d_w_which_12 : decode prog_1_method_57_code 12 = .ok (.invokestatic 110, 3) := by decide +kernel
theorem d_w_which_15 : decode prog_1_method_57_code 15 = .ok (.ifCond .ne 6, 3) := by decide +kernel
theorem d_w_which_18 : decode prog_1_method_57_code 18 = .ok (.bipush (-2), 2) := by decide +kernel
theorem d_w_which_20 : decode prog_1_method_57_code 20 = .ok (.ireturn, 1) := by decide +kernel
theorem d_w_which_21 : decode prog_1_method_57_code 21 = .ok (.aload_n 0, 1) := by decide +kernel
theorem d_w_which_22 : decode prog_1_method_57_code 22 = .ok (.iconst 1, 1) := by decide +kernel
theorem d_w_which_23 : decode prog_1_method_57_code 23 = .ok (.iload_n 1, 1) := by decide +kernel
theorem d_w_which_24 : decode prog_1_method_57_code 24 = .ok (.ishl, 1) := by decide +kernel
theorem d_w_which_25 : decode prog_1_method_57_code 25 = .ok (.invokevirtual 263, 3) := by decide +kernel
theorem d_w_which_28 : decode prog_1_method_57_code 28 = .ok (.istore_n 3, 1) := by decide +kernel
theorem d_w_which_29 : decode prog_1_method_57_code 29 = .ok (.iconst (-1), 1) := by decide +kernel
theorem d_w_which_30 : decode prog_1_method_57_code 30 = .ok (.istore 4, 2) := by decide +kernel
theorem d_w_which_32 : decode prog_1_method_57_code 32 = .ok (.iconst 0, 1) := by decide +kernel
theorem d_w_which_33 : decode prog_1_method_57_code 33 = .ok (.istore 5, 2) := by decide +kernel
theorem d_w_which_35 : decode prog_1_method_57_code 35 = .ok (.iload 5, 2) := by decide +kernel
theorem d_w_which_37 : decode prog_1_method_57_code 37 = .ok (.iload_n 3, 1) := by decide +kernel
theorem d_w_which_38 : decode prog_1_method_57_code 38 = .ok (.if_icmp .gt 41, 3) := by decide +kernel
theorem d_w_which_4 : decode prog_1_method_57_code 4 = .ok (.ifCond .eq 14, 3) := by decide +kernel
theorem d_w_which_41 : decode prog_1_method_57_code 41 = .ok (.iload 5, 2) := by decide +kernel
theorem d_w_which_43 : decode prog_1_method_57_code 43 = .ok (.iload_n 3, 1) := by decide +kernel
theorem d_w_which_44 : decode prog_1_method_57_code 44 = .ok (.invokestatic 266, 3) := by decide +kernel
theorem d_w_which_47 : decode prog_1_method_57_code 47 = .ok (.ifCond .eq 26, 3) := by decide +kernel
theorem d_w_which_50 : decode prog_1_method_57_code 50 = .ok (.aload_n 0, 1) := by decide +kernel
theorem d_w_which_51 : decode prog_1_method_57_code 51 = .ok (.iload 5, 2) := by decide +kernel
theorem d_w_which_53 : decode prog_1_method_57_code 53 = .ok (.invokevirtual 345, 3) := by decide +kernel
theorem d_w_which_56 : decode prog_1_method_57_code 56 = .ok (.iload_n 2, 1) := by decide +kernel
theorem d_w_which_57 : decode prog_1_method_57_code 57 = .ok (.if_icmp .ne 16, 3) := by decide +kernel
theorem d_w_which_60 : decode prog_1_method_57_code 60 = .ok (.iload 4, 2) := by decide +kernel
theorem d_w_which_62 : decode prog_1_method_57_code 62 = .ok (.iconst (-1), 1) := by decide +kernel
theorem d_w_which_63 : decode prog_1_method_57_code 63 = .ok (.if_icmp .eq 6, 3) := by decide +kernel
theorem d_w_which_66 : decode prog_1_method_57_code 66 = .ok (.bipush (-3), 2) := by decide +kernel
theorem d_w_which_68 : decode prog_1_method_57_code 68 = .ok (.ireturn, 1) := by decide +kernel
theorem d_w_which_69 : decode prog_1_method_57_code 69 = .ok (.iload 5, 2) := by decide +kernel
theorem d_w_which_7 : decode prog_1_method_57_code 7 = .ok (.iload_n 2, 1) := by decide +kernel
theorem d_w_which_71 : decode prog_1_method_57_code 71 = .ok (.istore 4, 2) := by decide +kernel
theorem d_w_which_73 : decode prog_1_method_57_code 73 = .ok (.iinc 5 1, 3) := by decide +kernel
theorem d_w_which_76 : decode prog_1_method_57_code 76 = .ok (.goto (-41), 3) := by decide +kernel
theorem d_w_which_79 : decode prog_1_method_57_code 79 = .ok (.iload 4, 2) := by decide +kernel
theorem d_w_which_8 : decode prog_1_method_57_code 8 = .ok (.iconst 0, 1) := by decide +kernel
theorem d_w_which_81 : decode prog_1_method_57_code 81 = .ok (.ireturn, 1) := by decide +kernel
theorem d_w_which_9 : decode prog_1_method_57_code 9 = .ok (.sipush 9999, 3) := by decide +kernel
theorem d_w_wiringRefusal_0 : decode prog_1_method_15_code 0 = .ok (.iload_n 1, 1) := by decide +kernel
theorem d_w_wiringRefusal_1 : decode prog_1_method_15_code 1 = .ok (.invokestatic 205, 3) := by decide +kernel
theorem d_w_wiringRefusal_10 : decode prog_1_method_15_code 10 = .ok (.aload_n 0, 1) := by decide +kernel
theorem d_w_wiringRefusal_11 : decode prog_1_method_15_code 11 = .ok (.getfield 38, 3) := by decide +kernel
theorem d_w_wiringRefusal_14 : decode prog_1_method_15_code 14 = .ok (.iload_n 1, 1) := by decide +kernel
theorem d_w_wiringRefusal_15 : decode prog_1_method_15_code 15 = .ok (.aaload, 1) := by decide +kernel
theorem d_w_wiringRefusal_16 : decode prog_1_method_15_code 16 = .ok (.astore_n 2, 1) := by decide +kernel
theorem d_w_wiringRefusal_17 : decode prog_1_method_15_code 17 = .ok (.aload_n 2, 1) := by decide +kernel
theorem d_w_wiringRefusal_18 : decode prog_1_method_15_code 18 = .ok (.invokevirtual 208, 3) := by decide +kernel
theorem d_w_wiringRefusal_21 : decode prog_1_method_15_code 21 = .ok (.ifCond .eq 6, 3) := by decide +kernel
theorem d_w_wiringRefusal_24 : decode prog_1_method_15_code 24 = .ok (.bipush (-11), 2) := by decide +kernel
theorem d_w_wiringRefusal_26 : decode prog_1_method_15_code 26 = .ok (.ireturn, 1) := by decide +kernel
theorem d_w_wiringRefusal_27 : decode prog_1_method_15_code 27 = .ok (.aload_n 2, 1) := by decide +kernel
theorem d_w_wiringRefusal_28 : decode prog_1_method_15_code 28 = .ok (.getfield 212, 3) := by decide +kernel
theorem d_w_wiringRefusal_31 : decode prog_1_method_15_code 31 = .ok (.aload_n 0, 1) := by decide +kernel
theorem d_w_wiringRefusal_32 : decode prog_1_method_15_code 32 = .ok (.getfield 133, 3) := by decide +kernel
theorem d_w_wiringRefusal_35 : decode prog_1_method_15_code 35 = .ok (.if_icmp .ne 17, 3) := by decide +kernel
theorem d_w_wiringRefusal_38 : decode prog_1_method_15_code 38 = .ok (.aload_n 2, 1) := by decide +kernel
theorem d_w_wiringRefusal_39 : decode prog_1_method_15_code 39 = .ok (.iconst 0, 1) := by decide +kernel
theorem d_w_wiringRefusal_4 : decode prog_1_method_15_code 4 = .ok (.ifCond .ne 6, 3) := by decide +kernel
theorem d_w_wiringRefusal_40 : decode prog_1_method_15_code 40 = .ok (.aload_n 0, 1) := by decide +kernel
theorem d_w_wiringRefusal_41 : decode prog_1_method_15_code 41 = .ok (.getfield 114, 3) := by decide +kernel
theorem d_w_wiringRefusal_44 : decode prog_1_method_15_code 44 = .ok (.iconst 1, 1) := by decide +kernel
theorem d_w_wiringRefusal_45 : decode prog_1_method_15_code 45 = .ok (.isub, 1) := by decide +kernel
theorem d_w_wiringRefusal_46 : decode prog_1_method_15_code 46 = .ok (.invokevirtual 213, 3) := by decide +kernel
theorem d_w_wiringRefusal_49 : decode prog_1_method_15_code 49 = .ok (.ifCond .ne 6, 3) := by decide +kernel
theorem d_w_wiringRefusal_52 : decode prog_1_method_15_code 52 = .ok (.bipush (-2), 2) := by decide +kernel
theorem d_w_wiringRefusal_54 : decode prog_1_method_15_code 54 = .ok (.ireturn, 1) := by decide +kernel
theorem d_w_wiringRefusal_55 : decode prog_1_method_15_code 55 = .ok (.iconst 0, 1) := by decide +kernel
theorem d_w_wiringRefusal_56 : decode prog_1_method_15_code 56 = .ok (.ireturn, 1) := by decide +kernel
theorem d_w_wiringRefusal_7 : decode prog_1_method_15_code 7 = .ok (.bipush (-2), 2) := by decide +kernel
theorem d_w_wiringRefusal_9 : decode prog_1_method_15_code 9 = .ok (.ireturn, 1) := by decide +kernel
theorem d_w_within_0 : decode prog_1_method_93_code 0 = .ok (.iload_n 0, 1) := by decide +kernel
theorem d_w_within_1 : decode prog_1_method_93_code 1 = .ok (.iload_n 1, 1) := by decide +kernel
theorem d_w_within_10 : decode prog_1_method_93_code 10 = .ok (.iconst 1, 1) := by decide +kernel
theorem d_w_within_11 : decode prog_1_method_93_code 11 = .ok (.goto 4, 3) := by decide +kernel
theorem d_w_within_14 : decode prog_1_method_93_code 14 = .ok (.iconst 0, 1) := by decide +kernel
theorem d_w_within_15 : decode prog_1_method_93_code 15 = .ok (.ireturn, 1) := by decide +kernel
theorem d_w_within_2 : decode prog_1_method_93_code 2 = .ok (.if_icmp .lt 12, 3) := by decide +kernel
theorem d_w_within_5 : decode prog_1_method_93_code 5 = .ok (.iload_n 0, 1) := by decide +kernel
theorem d_w_within_6 : decode prog_1_method_93_code 6 = .ok (.iload_n 2, 1) := by decide +kernel
theorem d_w_within_7 : decode prog_1_method_93_code 7 = .ok (.if_icmp .gt 7, 3) := by decide +kernel
theorem d_w_witness_0 : decode prog_1_method_76_code 0 = .ok (.iload_n 1, 1) := by decide +kernel
theorem d_w_witness_1 : decode prog_1_method_76_code 1 = .ok (.iconst 0, 1) := by decide +kernel
theorem d_w_witness_101 : decode prog_1_method_76_code 101 = .ok (.ireturn, 1) := by decide +kernel
theorem d_w_witness_11 : decode prog_1_method_76_code 11 = .ok (.iload_n 2, 1) := by decide +kernel
theorem d_w_witness_12 : decode prog_1_method_76_code 12 = .ok (.iconst 0, 1) := by decide +kernel
theorem d_w_witness_13 : decode prog_1_method_76_code 13 = .ok (.sipush 999, 3) := by decide +kernel
theorem d_w_witness_16 : decode prog_1_method_76_code 16 = .ok (.invokestatic 110, 3) := by decide +kernel
theorem d_w_witness_19 : decode prog_1_method_76_code 19 = .ok (.ifCond .ne 6, 3) := by decide +kernel
theorem d_w_witness_2 : decode prog_1_method_76_code 2 = .ok (.ldc_w 396, 3) := by decide +kernel
theorem d_w_witness_22 : decode prog_1_method_76_code 22 = .ok (.bipush (-2), 2) := by decide +kernel
theorem d_w_witness_24 : decode prog_1_method_76_code 24 = .ok (.ireturn, 1) := by decide +kernel
theorem d_w_witness_25 : decode prog_1_method_76_code 25 = .ok (.aload_n 0, 1) := by decide +kernel
theorem d_w_witness_26 : decode prog_1_method_76_code 26 = .ok (.invokevirtual 297, 3) := by decide +kernel
theorem d_w_witness_29 : decode prog_1_method_76_code 29 = .ok (.istore_n 3, 1) := by decide +kernel
theorem d_w_witness_30 : decode prog_1_method_76_code 30 = .ok (.aload_n 0, 1) := by decide +kernel
theorem d_w_witness_31 : decode prog_1_method_76_code 31 = .ok (.invokevirtual 387, 3) := by decide +kernel
theorem d_w_witness_34 : decode prog_1_method_76_code 34 = .ok (.iconst 0, 1) := by decide +kernel
theorem d_w_witness_35 : decode prog_1_method_76_code 35 = .ok (.istore 4, 2) := by decide +kernel
theorem d_w_witness_37 : decode prog_1_method_76_code 37 = .ok (.iconst 0, 1) := by decide +kernel
theorem d_w_witness_38 : decode prog_1_method_76_code 38 = .ok (.istore 5, 2) := by decide +kernel
theorem d_w_witness_40 : decode prog_1_method_76_code 40 = .ok (.iload 5, 2) := by decide +kernel
theorem d_w_witness_42 : decode prog_1_method_76_code 42 = .ok (.aload_n 0, 1) := by decide +kernel
theorem d_w_witness_43 : decode prog_1_method_76_code 43 = .ok (.getfield 136, 3) := by decide +kernel
theorem d_w_witness_46 : decode prog_1_method_76_code 46 = .ok (.if_icmp .ge 53, 3) := by decide +kernel
theorem d_w_witness_49 : decode prog_1_method_76_code 49 = .ok (.iload_n 3, 1) := by decide +kernel
theorem d_w_witness_5 : decode prog_1_method_76_code 5 = .ok (.invokestatic 110, 3) := by decide +kernel
theorem d_w_witness_50 : decode prog_1_method_76_code 50 = .ok (.iload 5, 2) := by decide +kernel
theorem d_w_witness_52 : decode prog_1_method_76_code 52 = .ok (.invokestatic 242, 3) := by decide +kernel
theorem d_w_witness_55 : decode prog_1_method_76_code 55 = .ok (.ifCond .eq 38, 3) := by decide +kernel
theorem d_w_witness_58 : decode prog_1_method_76_code 58 = .ok (.aload_n 0, 1) := by decide +kernel
theorem d_w_witness_59 : decode prog_1_method_76_code 59 = .ok (.aload_n 0, 1) := by decide +kernel
theorem d_w_witness_60 : decode prog_1_method_76_code 60 = .ok (.getfield 133, 3) := by decide +kernel
theorem d_w_witness_63 : decode prog_1_method_76_code 63 = .ok (.invokestatic 130, 3) := by decide +kernel
theorem d_w_witness_66 : decode prog_1_method_76_code 66 = .ok (.aload_n 0, 1) := by decide +kernel
theorem d_w_witness_67 : decode prog_1_method_76_code 67 = .ok (.iload 5, 2) := by decide +kernel
theorem d_w_witness_69 : decode prog_1_method_76_code 69 = .ok (.invokevirtual 223, 3) := by decide +kernel
theorem d_w_witness_72 : decode prog_1_method_76_code 72 = .ok (.invokevirtual 390, 3) := by decide +kernel
theorem d_w_witness_75 : decode prog_1_method_76_code 75 = .ok (.iload_n 1, 1) := by decide +kernel
theorem d_w_witness_76 : decode prog_1_method_76_code 76 = .ok (.isub, 1) := by decide +kernel
theorem d_w_witness_77 : decode prog_1_method_76_code 77 = .ok (.invokestatic 381, 3) := by decide +kernel
theorem d_w_witness_8 : decode prog_1_method_76_code 8 = .ok (.ifCond .eq 14, 3) := by decide +kernel
theorem d_w_witness_80 : decode prog_1_method_76_code 80 = .ok (.iload_n 2, 1) := by decide +kernel
theorem d_w_witness_81 : decode prog_1_method_76_code 81 = .ok (.if_icmp .gt 12, 3) := by decide +kernel
theorem d_w_witness_84 : decode prog_1_method_76_code 84 = .ok (.iload 4, 2) := by decide +kernel
theorem d_w_witness_86 : decode prog_1_method_76_code 86 = .ok (.iconst 1, 1) := by decide +kernel
theorem d_w_witness_87 : decode prog_1_method_76_code 87 = .ok (.iload 5, 2) := by decide +kernel
theorem d_w_witness_89 : decode prog_1_method_76_code 89 = .ok (.ishl, 1) := by decide +kernel
theorem d_w_witness_90 : decode prog_1_method_76_code 90 = .ok (.ior, 1) := by decide +kernel
theorem d_w_witness_91 : decode prog_1_method_76_code 91 = .ok (.istore 4, 2) := by decide +kernel
theorem d_w_witness_93 : decode prog_1_method_76_code 93 = .ok (.iinc 5 1, 3) := by decide +kernel
theorem d_w_witness_96 : decode prog_1_method_76_code 96 = .ok (.goto (-56), 3) := by decide +kernel
theorem d_w_witness_99 : decode prog_1_method_76_code 99 = .ok (.iload 4, 2) := by decide +kernel
theorem d_w_worthiestFuse_0 : decode prog_1_method_85_code 0 = .ok (.iconst 0, 1) := by decide +kernel
theorem d_w_worthiestFuse_1 : decode prog_1_method_85_code 1 = .ok (.istore_n 3, 1) := by decide +kernel
theorem d_w_worthiestFuse_10 : decode prog_1_method_85_code 10 = .ok (.aload_n 0, 1) := by decide +kernel
theorem d_w_worthiestFuse_11 : decode prog_1_method_85_code 11 = .ok (.getfield 114, 3) := by decide +kernel
theorem d_w_worthiestFuse_14 : decode prog_1_method_85_code 14 = .ok (.if_icmp .ge 76, 3) := by decide +kernel
theorem d_w_worthiestFuse_17 : decode prog_1_method_85_code 17 = .ok (.iload_n 2, 1) := by decide +kernel
theorem d_w_worthiestFuse_18 : decode prog_1_method_85_code 18 = .ok (.iload 5, 2) := by decide +kernel
theorem d_w_worthiestFuse_2 : decode prog_1_method_85_code 2 = .ok (.iconst (-1), 1) := by decide +kernel
theorem d_w_worthiestFuse_20 : decode prog_1_method_85_code 20 = .ok (.invokestatic 242, 3) := by decide +kernel
theorem d_w_worthiestFuse_23 : decode prog_1_method_85_code 23 = .ok (.ifCond .eq 61, 3) := by decide +kernel
theorem d_w_worthiestFuse_26 : decode prog_1_method_85_code 26 = .ok (.aload_n 0, 1) := by decide +kernel
theorem d_w_worthiestFuse_27 : decode prog_1_method_85_code 27 = .ok (.aload_n 0, 1) := by decide +kernel
theorem d_w_worthiestFuse_28 : decode prog_1_method_85_code 28 = .ok (.getfield 23, 3) := by decide +kernel
theorem d_w_worthiestFuse_3 : decode prog_1_method_85_code 3 = .ok (.istore 4, 2) := by decide +kernel
theorem d_w_worthiestFuse_31 : decode prog_1_method_85_code 31 = .ok (.iload_n 1, 1) := by decide +kernel
theorem d_w_worthiestFuse_32 : decode prog_1_method_85_code 32 = .ok (.aaload, 1) := by decide +kernel
theorem d_w_worthiestFuse_33 : decode prog_1_method_85_code 33 = .ok (.getfield 245, 3) := by decide +kernel
theorem d_w_worthiestFuse_36 : decode prog_1_method_85_code 36 = .ok (.iload 5, 2) := by decide +kernel
theorem d_w_worthiestFuse_38 : decode prog_1_method_85_code 38 = .ok (.iaload, 1) := by decide +kernel
theorem d_w_worthiestFuse_39 : decode prog_1_method_85_code 39 = .ok (.invokevirtual 345, 3) := by decide +kernel
theorem d_w_worthiestFuse_42 : decode prog_1_method_85_code 42 = .ok (.istore 6, 2) := by decide +kernel
theorem d_w_worthiestFuse_44 : decode prog_1_method_85_code 44 = .ok (.iload 4, 2) := by decide +kernel
theorem d_w_worthiestFuse_46 : decode prog_1_method_85_code 46 = .ok (.ifCond .lt 31, 3) := by decide +kernel
theorem d_w_worthiestFuse_49 : decode prog_1_method_85_code 49 = .ok (.iload 6, 2) := by decide +kernel
theorem d_w_worthiestFuse_5 : decode prog_1_method_85_code 5 = .ok (.iconst 0, 1) := by decide +kernel
theorem d_w_worthiestFuse_51 : decode prog_1_method_85_code 51 = .ok (.aload_n 0, 1) := by decide +kernel
theorem d_w_worthiestFuse_52 : decode prog_1_method_85_code 52 = .ok (.getfield 11, 3) := by decide +kernel
theorem d_w_worthiestFuse_55 : decode prog_1_method_85_code 55 = .ok (.iload_n 3, 1) := by decide +kernel
theorem d_w_worthiestFuse_56 : decode prog_1_method_85_code 56 = .ok (.aaload, 1) := by decide +kernel
theorem d_w_worthiestFuse_57 : decode prog_1_method_85_code 57 = .ok (.getfield 120, 3) := by decide +kernel
theorem d_w_worthiestFuse_6 : decode prog_1_method_85_code 6 = .ok (.istore 5, 2) := by decide +kernel
theorem d_w_worthiestFuse_60 : decode prog_1_method_85_code 60 = .ok (.imul, 1) := by decide +kernel
theorem d_w_worthiestFuse_61 : decode prog_1_method_85_code 61 = .ok (.iload 4, 2) := by decide +kernel
theorem d_w_worthiestFuse_63 : decode prog_1_method_85_code 63 = .ok (.aload_n 0, 1) := by decide +kernel
theorem d_w_worthiestFuse_64 : decode prog_1_method_85_code 64 = .ok (.getfield 11, 3) := by decide +kernel
theorem d_w_worthiestFuse_67 : decode prog_1_method_85_code 67 = .ok (.iload 5, 2) := by decide +kernel
theorem d_w_worthiestFuse_69 : decode prog_1_method_85_code 69 = .ok (.aaload, 1) := by decide +kernel
theorem d_w_worthiestFuse_70 : decode prog_1_method_85_code 70 = .ok (.getfield 120, 3) := by decide +kernel
theorem d_w_worthiestFuse_73 : decode prog_1_method_85_code 73 = .ok (.imul, 1) := by decide +kernel
theorem d_w_worthiestFuse_74 : decode prog_1_method_85_code 74 = .ok (.if_icmp .le 10, 3) := by decide +kernel
theorem d_w_worthiestFuse_77 : decode prog_1_method_85_code 77 = .ok (.iload 5, 2) := by decide +kernel
theorem d_w_worthiestFuse_79 : decode prog_1_method_85_code 79 = .ok (.istore_n 3, 1) := by decide +kernel
theorem d_w_worthiestFuse_8 : decode prog_1_method_85_code 8 = .ok (.iload 5, 2) := by decide +kernel
theorem d_w_worthiestFuse_80 : decode prog_1_method_85_code 80 = .ok (.iload 6, 2) := by decide +kernel
theorem d_w_worthiestFuse_82 : decode prog_1_method_85_code 82 = .ok (.istore 4, 2) := by decide +kernel
theorem d_w_worthiestFuse_84 : decode prog_1_method_85_code 84 = .ok (.iinc 5 1, 3) := by decide +kernel
theorem d_w_worthiestFuse_87 : decode prog_1_method_85_code 87 = .ok (.goto (-79), 3) := by decide +kernel
theorem d_w_worthiestFuse_90 : decode prog_1_method_85_code 90 = .ok (.iload_n 3, 1) := by decide +kernel
theorem d_w_worthiestFuse_91 : decode prog_1_method_85_code 91 = .ok (.ireturn, 1) := by decide +kernel
theorem d_wiring_become_0 : decode prog_11_method_2_code 0 = .ok (.iconst 0, 1) := by decide +kernel
theorem d_wiring_become_1 : decode prog_11_method_2_code 1 = .ok (.istore_n 3, 1) := by decide +kernel
theorem d_wiring_become_10 : decode prog_11_method_2_code 10 = .ok (.if_icmp .ge 48, 3) := by decide +kernel
theorem d_wiring_become_13 : decode prog_11_method_2_code 13 = .ok (.aload_n 1, 1) := by decide +kernel
theorem d_wiring_become_14 : decode prog_11_method_2_code 14 = .ok (.getfield 18, 3) := by decide +kernel
theorem d_wiring_become_17 : decode prog_11_method_2_code 17 = .ok (.iload_n 3, 1) := by decide +kernel
theorem d_wiring_become_18 : decode prog_11_method_2_code 18 = .ok (.iaload, 1) := by decide +kernel
theorem d_wiring_become_19 : decode prog_11_method_2_code 19 = .ok (.istore 4, 2) := by decide +kernel
theorem d_wiring_become_2 : decode prog_11_method_2_code 2 = .ok (.iload_n 3, 1) := by decide +kernel
theorem d_wiring_become_21 : decode prog_11_method_2_code 21 = .ok (.aload_n 0, 1) := by decide +kernel
theorem d_wiring_become_22 : decode prog_11_method_2_code 22 = .ok (.getfield 9, 3) := by decide +kernel
theorem d_wiring_become_25 : decode prog_11_method_2_code 25 = .ok (.iload_n 3, 1) := by decide +kernel
theorem d_wiring_become_26 : decode prog_11_method_2_code 26 = .ok (.iload 4, 2) := by decide +kernel
theorem d_wiring_become_28 : decode prog_11_method_2_code 28 = .ok (.iastore, 1) := by decide +kernel
theorem d_wiring_become_29 : decode prog_11_method_2_code 29 = .ok (.iload 4, 2) := by decide +kernel
theorem d_wiring_become_3 : decode prog_11_method_2_code 3 = .ok (.iload_n 2, 1) := by decide +kernel
theorem d_wiring_become_31 : decode prog_11_method_2_code 31 = .ok (.iconst 0, 1) := by decide +kernel
theorem d_wiring_become_32 : decode prog_11_method_2_code 32 = .ok (.iconst 5, 1) := by decide +kernel
theorem d_wiring_become_33 : decode prog_11_method_2_code 33 = .ok (.invokestatic 23, 3) := by decide +kernel
theorem d_wiring_become_36 : decode prog_11_method_2_code 36 = .ok (.ifCond .eq 16, 3) := by decide +kernel
theorem d_wiring_become_39 : decode prog_11_method_2_code 39 = .ok (.aload_n 0, 1) := by decide +kernel
theorem d_wiring_become_4 : decode prog_11_method_2_code 4 = .ok (.if_icmp .ge 54, 3) := by decide +kernel
theorem d_wiring_become_40 : decode prog_11_method_2_code 40 = .ok (.getfield 15, 3) := by decide +kernel
theorem d_wiring_become_43 : decode prog_11_method_2_code 43 = .ok (.iload 4, 2) := by decide +kernel
theorem d_wiring_become_45 : decode prog_11_method_2_code 45 = .ok (.dup2, 1) := by decide +kernel
theorem d_wiring_become_46 : decode prog_11_method_2_code 46 = .ok (.iaload, 1) := by decide +kernel
theorem d_wiring_become_47 : decode prog_11_method_2_code 47 = .ok (.iconst 1, 1) := by decide +kernel
theorem d_wiring_become_48 : decode prog_11_method_2_code 48 = .ok (.iload_n 3, 1) := by decide +kernel
theorem d_wiring_become_49 : decode prog_11_method_2_code 49 = .ok (.ishl, 1) := by decide +kernel
theorem d_wiring_become_50 : decode prog_11_method_2_code 50 = .ok (.ior, 1) := by decide +kernel
theorem d_wiring_become_51 : decode prog_11_method_2_code 51 = .ok (.iastore, 1) := by decide +kernel
theorem d_wiring_become_52 : decode prog_11_method_2_code 52 = .ok (.iinc 3 1, 3) := by decide +kernel
theorem d_wiring_become_55 : decode prog_11_method_2_code 55 = .ok (.goto (-53), 3) := by decide +kernel
theorem d_wiring_become_58 : decode prog_11_method_2_code 58 = .ok (.return_, 1) := by decide +kernel
theorem d_wiring_become_7 : decode prog_11_method_2_code 7 = .ok (.iload_n 3, 1) := by decide +kernel
theorem d_wiring_become_8 : decode prog_11_method_2_code 8 = .ok (.bipush 10, 2) := by decide +kernel
theorem d_wiring_init_0 : decode prog_11_method_1_code 0 = .ok (.aload_n 0, 1) := by decide +kernel
theorem d_wiring_init_1 : decode prog_11_method_1_code 1 = .ok (.invokespecial 3, 3) := by decide +kernel
theorem d_wiring_init_12 : decode prog_11_method_1_code 12 = .ok (.aload_n 0, 1) := by decide +kernel
theorem d_wiring_init_13 : decode prog_11_method_1_code 13 = .ok (.bipush 6, 2) := by decide +kernel
theorem d_wiring_init_15 : decode prog_11_method_1_code 15 = .ok (.newarray .int, 2) := by decide +kernel
theorem d_wiring_init_17 : decode prog_11_method_1_code 17 = .ok (.putfield 15, 3) := by decide +kernel
theorem d_wiring_init_20 : decode prog_11_method_1_code 20 = .ok (.return_, 1) := by decide +kernel
theorem d_wiring_init_4 : decode prog_11_method_1_code 4 = .ok (.aload_n 0, 1) := by decide +kernel
theorem d_wiring_init_5 : decode prog_11_method_1_code 5 = .ok (.bipush 10, 2) := by decide +kernel
theorem d_wiring_init_7 : decode prog_11_method_1_code 7 = .ok (.newarray .int, 2) := by decide +kernel
theorem d_wiring_init_9 : decode prog_11_method_1_code 9 = .ok (.putfield 9, 3) := by decide +kernel
