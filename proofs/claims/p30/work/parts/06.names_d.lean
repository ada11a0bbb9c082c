theorem dJ9_abs_067f4_0 : decode cJ9_abs_067f4 0 = .ok (.lload_n 0, 1) := by decide +kernel
theorem dJ9_abs_067f4_1 : decode cJ9_abs_067f4 1 = .ok (.lconst 0, 1) := by decide +kernel
theorem dJ9_abs_067f4_2 : decode cJ9_abs_067f4 2 = .ok (.lcmp, 1) := by decide +kernel
theorem dJ9_abs_067f4_3 : decode cJ9_abs_067f4 3 = .ok (.ifCond .ge 8, 3) := by decide +kernel
theorem dJ9_abs_067f4_6 : decode cJ9_abs_067f4 6 = .ok (.lload_n 0, 1) := by decide +kernel
theorem dJ9_abs_067f4_7 : decode cJ9_abs_067f4 7 = .ok (.lneg, 1) := by decide +kernel
theorem dJ9_abs_067f4_8 : decode cJ9_abs_067f4 8 = .ok (.goto 4, 3) := by decide +kernel
theorem dJ9_abs_067f4_11 : decode cJ9_abs_067f4 11 = .ok (.lload_n 0, 1) := by decide +kernel
theorem dJ9_abs_067f4_12 : decode cJ9_abs_067f4 12 = .ok (.lreturn, 1) := by decide +kernel
theorem dJ9_max_7cf53_0 : decode cJ9_max_7cf53 0 = .ok (.iload_n 0, 1) := by decide +kernel
theorem dJ9_max_7cf53_1 : decode cJ9_max_7cf53 1 = .ok (.iload_n 1, 1) := by decide +kernel
theorem dJ9_max_7cf53_2 : decode cJ9_max_7cf53 2 = .ok (.if_icmp .lt 7, 3) := by decide +kernel
theorem dJ9_max_7cf53_5 : decode cJ9_max_7cf53 5 = .ok (.iload_n 0, 1) := by decide +kernel
theorem dJ9_max_7cf53_6 : decode cJ9_max_7cf53 6 = .ok (.goto 4, 3) := by decide +kernel
theorem dJ9_max_7cf53_9 : decode cJ9_max_7cf53 9 = .ok (.iload_n 1, 1) := by decide +kernel
theorem dJ9_max_7cf53_10 : decode cJ9_max_7cf53 10 = .ok (.ireturn, 1) := by decide +kernel
theorem dL_cell_0 : decode cL_cell 0 = .ok (.iload_n 1, 1) := by decide +kernel
theorem dL_cell_1 : decode cL_cell 1 = .ok (.aload_n 0, 1) := by decide +kernel
theorem dL_cell_2 : decode cL_cell 2 = .ok (.arraylength, 1) := by decide +kernel
theorem dL_cell_3 : decode cL_cell 3 = .ok (.if_icmp .ge 9, 3) := by decide +kernel
theorem dL_cell_6 : decode cL_cell 6 = .ok (.aload_n 0, 1) := by decide +kernel
theorem dL_cell_7 : decode cL_cell 7 = .ok (.iload_n 1, 1) := by decide +kernel
theorem dL_cell_8 : decode cL_cell 8 = .ok (.iaload, 1) := by decide +kernel
theorem dL_cell_9 : decode cL_cell 9 = .ok (.goto 10, 3) := by decide +kernel
theorem dL_cell_12 : decode cL_cell 12 = .ok (.ldc 7, 2) := by decide +kernel
theorem dL_cell_14 : decode cL_cell 14 = .ok (.iload_n 1, 1) := by decide +kernel
theorem dL_cell_15 : decode cL_cell 15 = .ok (.imul, 1) := by decide +kernel
theorem dL_cell_16 : decode cL_cell 16 = .ok (.bipush 109, 2) := by decide +kernel
theorem dL_cell_18 : decode cL_cell 18 = .ok (.iadd, 1) := by decide +kernel
theorem dL_cell_19 : decode cL_cell 19 = .ok (.ldc 8, 2) := by decide +kernel
theorem dL_cell_21 : decode cL_cell 21 = .ok (.iand, 1) := by decide +kernel
theorem dL_cell_22 : decode cL_cell 22 = .ok (.ireturn, 1) := by decide +kernel
set_option maxRecDepth 20000 in
theorem ggL_adds_L_cell : GoodIn wsL_adds wsL_cell := goodIn_r _ [4, 5, 6] (by decide +kernel) (by decide +kernel)
set_option maxRecDepth 20000 in
theorem gL_adds_L_cell : GoodIn wsL_adds (va_wsS RL 9 yL_cell wsL_cell) := goodIn_app (goodIn_of _ (by decide +kernel)) ggL_adds_L_cell
set_option maxRecDepth 20000 in
theorem ggL_adds_X7_add : GoodIn wsL_adds wsX7_add := goodIn_r _ [11, 12, 13, 14, 15, 16, 17, 18, 10, 19, 20, 21, 22, 23, 24, 25, 26, 27, 28, 29, 30, 31, 32, 33, 34, 35, 36, 37, 38, 39, 40, 41, 42, 43, 44, 45, 46, 47, 48, 49, 50, 51, 52, 53, 54, 55, 56, 57, 58, 59, 60, 61, 62, 63, 64, 65, 66, 67, 68, 69, 70, 71, 72, 73, 74, 75, 76, 77, 78, 79, 80, 81, 82, 83, 84, 85, 86, 87, 88, 89, 90, 91, 92, 93, 94, 95, 96, 97, 98, 99, 100, 101, 102, 103, 104, 105, 106, 107, 108, 109, 110, 111] (by decide +kernel) (by decide +kernel)
set_option maxRecDepth 20000 in
theorem gL_adds_X7_add : GoodIn wsL_adds (wsV RL 15 RX7 yX7_add wsX7_add) := goodIn_app (goodIn_of _ (by decide +kernel)) ggL_adds_X7_add
theorem dL_adds_0 : decode cL_adds 0 = .ok (.iconst 0, 1) := by decide +kernel
theorem dL_adds_1 : decode cL_adds 1 = .ok (.istore 4, 2) := by decide +kernel
theorem dL_adds_3 : decode cL_adds 3 = .ok (.iload 4, 2) := by decide +kernel
theorem dL_adds_5 : decode cL_adds 5 = .ok (.iload_n 3, 1) := by decide +kernel
theorem dL_adds_6 : decode cL_adds 6 = .ok (.if_icmp .ge 48, 3) := by decide +kernel
theorem dL_adds_9 : decode cL_adds 9 = .ok (.aload_n 1, 1) := by decide +kernel
theorem dL_adds_10 : decode cL_adds 10 = .ok (.iload_n 2, 1) := by decide +kernel
theorem dL_adds_11 : decode cL_adds 11 = .ok (.iload 4, 2) := by decide +kernel
theorem dL_adds_13 : decode cL_adds 13 = .ok (.iadd, 1) := by decide +kernel
theorem dL_adds_14 : decode cL_adds 14 = .ok (.invokestatic 9, 3) := by decide +kernel
theorem dL_adds_17 : decode cL_adds 17 = .ok (.istore 5, 2) := by decide +kernel
theorem dL_adds_19 : decode cL_adds 19 = .ok (.aload_n 0, 1) := by decide +kernel
theorem dL_adds_20 : decode cL_adds 20 = .ok (.iload 5, 2) := by decide +kernel
theorem dL_adds_22 : decode cL_adds 22 = .ok (.bipush 25, 2) := by decide +kernel
theorem dL_adds_24 : decode cL_adds 24 = .ok (.irem, 1) := by decide +kernel
theorem dL_adds_25 : decode cL_adds 25 = .ok (.iload 5, 2) := by decide +kernel
theorem dL_adds_27 : decode cL_adds 27 = .ok (.iconst 5, 1) := by decide +kernel
theorem dL_adds_28 : decode cL_adds 28 = .ok (.ishr, 1) := by decide +kernel
theorem dL_adds_29 : decode cL_adds 29 = .ok (.bipush 41, 2) := by decide +kernel
theorem dL_adds_31 : decode cL_adds 31 = .ok (.irem, 1) := by decide +kernel
theorem dL_adds_32 : decode cL_adds 32 = .ok (.bipush 20, 2) := by decide +kernel
theorem dL_adds_34 : decode cL_adds 34 = .ok (.isub, 1) := by decide +kernel
theorem dL_adds_35 : decode cL_adds 35 = .ok (.iconst 1, 1) := by decide +kernel
theorem dL_adds_36 : decode cL_adds 36 = .ok (.iload 5, 2) := by decide +kernel
theorem dL_adds_38 : decode cL_adds 38 = .ok (.bipush 11, 2) := by decide +kernel
theorem dL_adds_40 : decode cL_adds 40 = .ok (.ishr, 1) := by decide +kernel
theorem dL_adds_41 : decode cL_adds 41 = .ok (.iconst 2, 1) := by decide +kernel
theorem dL_adds_42 : decode cL_adds 42 = .ok (.irem, 1) := by decide +kernel
theorem dL_adds_43 : decode cL_adds 43 = .ok (.iadd, 1) := by decide +kernel
theorem dL_adds_44 : decode cL_adds 44 = .ok (.invokevirtual 15, 3) := by decide +kernel
theorem dL_adds_47 : decode cL_adds 47 = .ok (.pop, 1) := by decide +kernel
theorem dL_adds_48 : decode cL_adds 48 = .ok (.iinc 4 1, 3) := by decide +kernel
theorem dL_adds_51 : decode cL_adds 51 = .ok (.goto (-48), 3) := by decide +kernel
theorem dL_adds_54 : decode cL_adds 54 = .ok (.return_, 1) := by decide +kernel
set_option maxRecDepth 20000 in
theorem ggL_against_X7_fit : GoodIn wsL_against wsX7_fit := goodIn_r _ [5, 6, 7, 8, 9, 10, 4, 11, 12, 13, 14, 15, 16, 17, 18, 19, 20, 21, 22, 23, 24, 25, 26, 27, 28, 29, 30, 31, 32, 33, 34, 35, 36, 37, 38, 39, 40, 41, 42, 43, 44, 45, 46, 47, 48, 49, 50, 51, 52, 53, 54, 55, 56, 57, 58, 59, 60, 61, 62, 63, 64, 65, 66, 67, 68, 69, 70, 71, 72, 73, 74, 75, 76, 77, 78, 79, 80, 81, 82, 83, 84, 85, 86, 87, 88, 89, 90, 91, 92, 93, 94, 95, 96, 97, 98, 99, 100, 101, 102, 103, 104, 105, 106, 107, 108, 109, 110, 111, 112, 113, 114, 115, 116, 117, 118, 119, 120, 121, 122, 123, 124, 125, 126, 127, 128, 129, 130, 131, 132, 133, 134, 135, 136, 137, 138, 139, 140, 141, 142, 143, 144, 145, 146, 147, 148, 149, 150, 151, 152, 153, 154, 155, 156, 157, 158, 159, 160, 161, 162, 163, 164, 165, 166, 167, 168, 169, 181, 182, 183, 184, 185, 186, 187, 188, 189, 190, 191, 192, 193, 194, 195, 196, 197, 198, 199, 200, 201, 202, 203] (by decide +kernel) (by decide +kernel)
set_option maxRecDepth 20000 in
theorem gL_against_X7_fit : GoodIn wsL_against (wsV RL 21 RX7 yX7_fit wsX7_fit) := goodIn_app (goodIn_of _ (by decide +kernel)) ggL_against_X7_fit
set_option maxRecDepth 20000 in
theorem ggL_against_X7_groupInfo : GoodIn wsL_against wsX7_groupInfo := goodIn_r _ [173, 6, 174, 12, 13, 14, 15, 16, 17, 9, 10, 4, 11, 175, 72, 73, 74, 75, 76, 169, 58, 59, 60, 61, 168, 53, 54, 55, 56, 176, 177, 178, 179, 180, 181, 182, 183, 184, 185, 186, 187, 188, 189, 190, 191, 192, 193, 194] (by decide +kernel) (by decide +kernel)
set_option maxRecDepth 20000 in
theorem gL_against_X7_groupInfo : GoodIn wsL_against (wsV RL 25 RX7 yX7_groupInfo wsX7_groupInfo) := goodIn_app (goodIn_of _ (by decide +kernel)) ggL_against_X7_groupInfo
theorem dL_against_0 : decode cL_against 0 = .ok (.aload_n 0, 1) := by decide +kernel
theorem dL_against_1 : decode cL_against 1 = .ok (.iload_n 1, 1) := by decide +kernel
theorem dL_against_2 : decode cL_against 2 = .ok (.iload_n 2, 1) := by decide +kernel
theorem dL_against_3 : decode cL_against 3 = .ok (.iconst 0, 1) := by decide +kernel
theorem dL_against_4 : decode cL_against 4 = .ok (.invokevirtual 21, 3) := by decide +kernel
theorem dL_against_7 : decode cL_against 7 = .ok (.aload_n 0, 1) := by decide +kernel
theorem dL_against_8 : decode cL_against 8 = .ok (.iload_n 2, 1) := by decide +kernel
theorem dL_against_9 : decode cL_against 9 = .ok (.iconst 1, 1) := by decide +kernel
theorem dL_against_10 : decode cL_against 10 = .ok (.invokevirtual 25, 3) := by decide +kernel
theorem dL_against_13 : decode cL_against 13 = .ok (.i2l, 1) := by decide +kernel
theorem dL_against_14 : decode cL_against 14 = .ok (.lmul, 1) := by decide +kernel
theorem dL_against_15 : decode cL_against 15 = .ok (.aload_n 0, 1) := by decide +kernel
theorem dL_against_16 : decode cL_against 16 = .ok (.iload_n 2, 1) := by decide +kernel
theorem dL_against_17 : decode cL_against 17 = .ok (.iconst 2, 1) := by decide +kernel
theorem dL_against_18 : decode cL_against 18 = .ok (.invokevirtual 25, 3) := by decide +kernel
theorem dL_against_21 : decode cL_against 21 = .ok (.i2l, 1) := by decide +kernel
theorem dL_against_22 : decode cL_against 22 = .ok (.aload_n 0, 1) := by decide +kernel
theorem dL_against_23 : decode cL_against 23 = .ok (.iload_n 1, 1) := by decide +kernel
theorem dL_against_24 : decode cL_against 24 = .ok (.iload_n 2, 1) := by decide +kernel
theorem dL_against_25 : decode cL_against 25 = .ok (.iconst 1, 1) := by decide +kernel
theorem dL_against_26 : decode cL_against 26 = .ok (.invokevirtual 21, 3) := by decide +kernel
theorem dL_against_29 : decode cL_against 29 = .ok (.lmul, 1) := by decide +kernel
theorem dL_against_30 : decode cL_against 30 = .ok (.lsub, 1) := by decide +kernel
theorem dL_against_31 : decode cL_against 31 = .ok (.lreturn, 1) := by decide +kernel
set_option maxRecDepth 20000 in
theorem ggL_step_X7_fit : GoodIn wsL_step wsX7_fit := goodIn_r _ [5, 6, 7, 8, 9, 10, 4, 11, 12, 13, 14, 15, 16, 17, 18, 19, 20, 21, 22, 23, 24, 25, 26, 27, 28, 29, 30, 31, 32, 33, 34, 35, 36, 37, 38, 39, 40, 41, 42, 43, 44, 45, 46, 47, 48, 49, 50, 51, 52, 53, 54, 55, 56, 57, 58, 59, 60, 61, 62, 63, 64, 65, 66, 67, 68, 69, 70, 71, 72, 73, 74, 75, 76, 77, 78, 79, 80, 81, 82, 83, 84, 85, 86, 87, 88, 89, 90, 91, 92, 93, 94, 95, 96, 97, 98, 99, 100, 101, 102, 103, 104, 105, 106, 107, 108, 109, 110, 111, 112, 113, 114, 115, 116, 117, 118, 119, 120, 121, 122, 123, 124, 125, 126, 127, 128, 129, 130, 131, 132, 133, 134, 135, 136, 137, 138, 139, 140, 141, 142, 143, 144, 145, 146, 147, 148, 149, 150, 151, 152, 153, 154, 155, 156, 157, 158, 159, 160, 161, 162, 163, 164, 165, 166, 167, 168, 169, 170, 171, 172, 173, 174, 175, 176, 177, 178, 179, 180, 181, 182, 183, 184, 185, 186, 187, 188, 189, 190, 191, 192] (by decide +kernel) (by decide +kernel)
set_option maxRecDepth 20000 in
theorem gL_step_X7_fit : GoodIn wsL_step (wsV RL 21 RX7 yX7_fit wsX7_fit) := goodIn_app (goodIn_of _ (by decide +kernel)) ggL_step_X7_fit
theorem dL_step_0 : decode cL_step 0 = .ok (.aload_n 0, 1) := by decide +kernel
theorem dL_step_1 : decode cL_step 1 = .ok (.iload_n 1, 1) := by decide +kernel
theorem dL_step_2 : decode cL_step 2 = .ok (.iload_n 2, 1) := by decide +kernel
theorem dL_step_3 : decode cL_step 3 = .ok (.iconst 1, 1) := by decide +kernel
theorem dL_step_4 : decode cL_step 4 = .ok (.iadd, 1) := by decide +kernel
theorem dL_step_5 : decode cL_step 5 = .ok (.iconst 0, 1) := by decide +kernel
theorem dL_step_6 : decode cL_step 6 = .ok (.invokevirtual 21, 3) := by decide +kernel
theorem dL_step_9 : decode cL_step 9 = .ok (.aload_n 0, 1) := by decide +kernel
theorem dL_step_10 : decode cL_step 10 = .ok (.iload_n 1, 1) := by decide +kernel
theorem dL_step_11 : decode cL_step 11 = .ok (.iload_n 2, 1) := by decide +kernel
theorem dL_step_12 : decode cL_step 12 = .ok (.iconst 1, 1) := by decide +kernel
theorem dL_step_13 : decode cL_step 13 = .ok (.invokevirtual 21, 3) := by decide +kernel
theorem dL_step_16 : decode cL_step 16 = .ok (.lmul, 1) := by decide +kernel
theorem dL_step_17 : decode cL_step 17 = .ok (.aload_n 0, 1) := by decide +kernel
theorem dL_step_18 : decode cL_step 18 = .ok (.iload_n 1, 1) := by decide +kernel
theorem dL_step_19 : decode cL_step 19 = .ok (.iload_n 2, 1) := by decide +kernel
theorem dL_step_20 : decode cL_step 20 = .ok (.iconst 0, 1) := by decide +kernel
theorem dL_step_21 : decode cL_step 21 = .ok (.invokevirtual 21, 3) := by decide +kernel
theorem dL_step_24 : decode cL_step 24 = .ok (.aload_n 0, 1) := by decide +kernel
theorem dL_step_25 : decode cL_step 25 = .ok (.iload_n 1, 1) := by decide +kernel
theorem dL_step_26 : decode cL_step 26 = .ok (.iload_n 2, 1) := by decide +kernel
theorem dL_step_27 : decode cL_step 27 = .ok (.iconst 1, 1) := by decide +kernel
theorem dL_step_28 : decode cL_step 28 = .ok (.iadd, 1) := by decide +kernel
theorem dL_step_29 : decode cL_step 29 = .ok (.iconst 1, 1) := by decide +kernel
theorem dL_step_30 : decode cL_step 30 = .ok (.invokevirtual 21, 3) := by decide +kernel
theorem dL_step_33 : decode cL_step 33 = .ok (.lmul, 1) := by decide +kernel
theorem dL_step_34 : decode cL_step 34 = .ok (.lsub, 1) := by decide +kernel
theorem dL_step_35 : decode cL_step 35 = .ok (.lreturn, 1) := by decide +kernel
set_option maxRecDepth 20000 in
theorem ggL_isLess_L_floor : GoodIn wsL_isLess wsL_floor := goodIn_r _ [4] (by decide +kernel) (by decide +kernel)
set_option maxRecDepth 20000 in
theorem gL_isLess_L_floor : GoodIn wsL_isLess (va_wsS RL 29 yL_floor wsL_floor) := goodIn_app (goodIn_of _ (by decide +kernel)) ggL_isLess_L_floor
theorem dL_isLess_0 : decode cL_isLess 0 = .ok (.lload_n 0, 1) := by decide +kernel
theorem dL_isLess_1 : decode cL_isLess 1 = .ok (.lload_n 2, 1) := by decide +kernel
theorem dL_isLess_2 : decode cL_isLess 2 = .ok (.invokestatic 29, 3) := by decide +kernel
theorem dL_isLess_5 : decode cL_isLess 5 = .ok (.lstore 8, 2) := by decide +kernel
theorem dL_isLess_7 : decode cL_isLess 7 = .ok (.lload 4, 2) := by decide +kernel
theorem dL_isLess_9 : decode cL_isLess 9 = .ok (.lload 6, 2) := by decide +kernel
theorem dL_isLess_11 : decode cL_isLess 11 = .ok (.invokestatic 29, 3) := by decide +kernel
theorem dL_isLess_14 : decode cL_isLess 14 = .ok (.lstore 10, 2) := by decide +kernel
theorem dL_isLess_16 : decode cL_isLess 16 = .ok (.lload 8, 2) := by decide +kernel
theorem dL_isLess_18 : decode cL_isLess 18 = .ok (.lload 10, 2) := by decide +kernel
theorem dL_isLess_20 : decode cL_isLess 20 = .ok (.lcmp, 1) := by decide +kernel
theorem dL_isLess_21 : decode cL_isLess 21 = .ok (.ifCond .eq 17, 3) := by decide +kernel
theorem dL_isLess_24 : decode cL_isLess 24 = .ok (.lload 8, 2) := by decide +kernel
theorem dL_isLess_26 : decode cL_isLess 26 = .ok (.lload 10, 2) := by decide +kernel
theorem dL_isLess_28 : decode cL_isLess 28 = .ok (.lcmp, 1) := by decide +kernel
theorem dL_isLess_29 : decode cL_isLess 29 = .ok (.ifCond .ge 7, 3) := by decide +kernel
theorem dL_isLess_32 : decode cL_isLess 32 = .ok (.iconst 1, 1) := by decide +kernel
theorem dL_isLess_33 : decode cL_isLess 33 = .ok (.goto 4, 3) := by decide +kernel
theorem dL_isLess_36 : decode cL_isLess 36 = .ok (.iconst 0, 1) := by decide +kernel
theorem dL_isLess_37 : decode cL_isLess 37 = .ok (.ireturn, 1) := by decide +kernel
theorem dL_isLess_38 : decode cL_isLess 38 = .ok (.lload_n 0, 1) := by decide +kernel
theorem dL_isLess_39 : decode cL_isLess 39 = .ok (.lload 8, 2) := by decide +kernel
theorem dL_isLess_41 : decode cL_isLess 41 = .ok (.lload_n 2, 1) := by decide +kernel
theorem dL_isLess_42 : decode cL_isLess 42 = .ok (.lmul, 1) := by decide +kernel
theorem dL_isLess_43 : decode cL_isLess 43 = .ok (.lsub, 1) := by decide +kernel
theorem dL_isLess_44 : decode cL_isLess 44 = .ok (.lstore 12, 2) := by decide +kernel
theorem dL_isLess_46 : decode cL_isLess 46 = .ok (.lload 4, 2) := by decide +kernel
theorem dL_isLess_48 : decode cL_isLess 48 = .ok (.lload 10, 2) := by decide +kernel
theorem dL_isLess_50 : decode cL_isLess 50 = .ok (.lload 6, 2) := by decide +kernel
theorem dL_isLess_52 : decode cL_isLess 52 = .ok (.lmul, 1) := by decide +kernel
theorem dL_isLess_53 : decode cL_isLess 53 = .ok (.lsub, 1) := by decide +kernel
theorem dL_isLess_54 : decode cL_isLess 54 = .ok (.lstore 14, 2) := by decide +kernel
theorem dL_isLess_56 : decode cL_isLess 56 = .ok (.lload 12, 2) := by decide +kernel
theorem dL_isLess_58 : decode cL_isLess 58 = .ok (.lload 6, 2) := by decide +kernel
theorem dL_isLess_60 : decode cL_isLess 60 = .ok (.lmul, 1) := by decide +kernel
theorem dL_isLess_61 : decode cL_isLess 61 = .ok (.lload 14, 2) := by decide +kernel
theorem dL_isLess_63 : decode cL_isLess 63 = .ok (.lload_n 2, 1) := by decide +kernel
theorem dL_isLess_64 : decode cL_isLess 64 = .ok (.lmul, 1) := by decide +kernel
theorem dL_isLess_65 : decode cL_isLess 65 = .ok (.lcmp, 1) := by decide +kernel
theorem dL_isLess_66 : decode cL_isLess 66 = .ok (.ifCond .ge 7, 3) := by decide +kernel
theorem dL_isLess_69 : decode cL_isLess 69 = .ok (.iconst 1, 1) := by decide +kernel
theorem dL_isLess_70 : decode cL_isLess 70 = .ok (.goto 4, 3) := by decide +kernel
theorem dL_isLess_73 : decode cL_isLess 73 = .ok (.iconst 0, 1) := by decide +kernel
theorem dL_isLess_74 : decode cL_isLess 74 = .ok (.ireturn, 1) := by decide +kernel
theorem dL_floor_0 : decode cL_floor 0 = .ok (.lload_n 0, 1) := by decide +kernel
theorem dL_floor_1 : decode cL_floor 1 = .ok (.lload_n 2, 1) := by decide +kernel
theorem dL_floor_2 : decode cL_floor 2 = .ok (.ldiv, 1) := by decide +kernel
theorem dL_floor_3 : decode cL_floor 3 = .ok (.lstore 4, 2) := by decide +kernel
theorem dL_floor_5 : decode cL_floor 5 = .ok (.lload_n 0, 1) := by decide +kernel
theorem dL_floor_6 : decode cL_floor 6 = .ok (.lload_n 2, 1) := by decide +kernel
theorem dL_floor_7 : decode cL_floor 7 = .ok (.lrem, 1) := by decide +kernel
theorem dL_floor_8 : decode cL_floor 8 = .ok (.lconst 0, 1) := by decide +kernel
theorem dL_floor_9 : decode cL_floor 9 = .ok (.lcmp, 1) := by decide +kernel
theorem dL_floor_10 : decode cL_floor 10 = .ok (.ifCond .ge 10, 3) := by decide +kernel
theorem dL_floor_13 : decode cL_floor 13 = .ok (.lload 4, 2) := by decide +kernel
theorem dL_floor_15 : decode cL_floor 15 = .ok (.lconst 1, 1) := by decide +kernel
theorem dL_floor_16 : decode cL_floor 16 = .ok (.lsub, 1) := by decide +kernel
theorem dL_floor_17 : decode cL_floor 17 = .ok (.goto 5, 3) := by decide +kernel
theorem dL_floor_20 : decode cL_floor 20 = .ok (.lload 4, 2) := by decide +kernel
theorem dL_floor_22 : decode cL_floor 22 = .ok (.lreturn, 1) := by decide +kernel
set_option maxRecDepth 20000 in
theorem ggL_turned_X7_turn : GoodIn wsL_turned wsX7_turn := goodIn_r _ [5, 6, 7, 8, 9, 10, 11, 4, 12, 13, 14, 15, 16, 17, 18, 19, 20, 21, 22, 23, 24, 25, 26, 27, 28, 29, 30, 31, 32, 33, 34, 35, 36, 37, 38, 39, 40, 41, 42, 43, 44, 45, 46, 47, 48, 49, 50, 51, 52, 53, 54, 55, 56, 57, 58, 59, 60, 61, 62, 63, 64, 65, 66, 67, 68, 69, 70, 71, 72, 73, 74, 75, 76, 77, 78, 79, 80, 81, 204, 205, 206, 207, 208, 209, 210, 211, 212, 213, 214, 215, 216, 217, 218, 219, 220, 221, 222] (by decide +kernel) (by decide +kernel)
set_option maxRecDepth 20000 in
theorem gL_turned_X7_turn : GoodIn wsL_turned (wsV RL 33 RX7 yX7_turn wsX7_turn) := goodIn_app (goodIn_of _ (by decide +kernel)) ggL_turned_X7_turn
set_option maxRecDepth 20000 in
theorem ggL_turned_X7_groups : GoodIn wsL_turned wsX7_groups := goodIn_r _ [85, 7, 13, 14, 15, 16, 17, 18, 204, 205, 206, 207, 208, 209, 210, 211, 212, 213, 214, 215, 216, 217] (by decide +kernel) (by decide +kernel)
set_option maxRecDepth 20000 in
theorem gL_turned_X7_groups : GoodIn wsL_turned (wsV RL 37 RX7 yX7_groups wsX7_groups) := goodIn_app (goodIn_of _ (by decide +kernel)) ggL_turned_X7_groups
set_option maxRecDepth 20000 in
theorem ggL_turned_L_step : GoodIn wsL_turned wsL_step := goodIn_r _ [89, 90, 91, 92, 4, 93, 7, 94, 9, 10, 11, 12, 95, 96, 97, 16, 98, 18, 99, 100, 101, 102, 103, 104, 105, 106, 107, 108, 109, 110, 111, 112, 113, 114, 115, 116, 14, 15, 17, 117, 118, 119, 120, 121, 122, 123, 124, 125, 126, 38, 39, 40, 41, 42, 43, 44, 45, 46, 47, 48, 49, 50, 127, 128, 129, 130, 131, 132, 133, 134, 135, 136, 137, 138, 139, 140, 141, 142, 143, 144, 145, 146, 147, 148, 149, 150, 151, 152, 153, 154, 155, 156, 157, 158, 159, 160, 161, 162, 163, 164, 165, 166, 167, 168, 169, 170, 171, 172, 173, 174, 175, 22, 176, 24, 30, 25, 177, 20, 21, 23, 26, 27, 28, 29, 31, 32, 33, 34, 35, 36, 37, 51, 52, 53, 54, 55, 56, 57, 58, 59, 60, 61, 62, 63, 64, 65, 66, 67, 68, 69, 70, 71, 72, 73, 74, 75, 76, 77, 78, 79, 80, 81, 178, 179, 180, 181, 182, 183, 184, 185, 204, 205, 206, 207, 208, 209, 210, 211, 212, 213, 214, 215, 216, 217, 223, 224, 225, 226, 218, 219, 220, 221, 222] (by decide +kernel) (by decide +kernel)
set_option maxRecDepth 20000 in
theorem gL_turned_L_step : GoodIn wsL_turned (va_wsS RL 41 yL_step wsL_step) := goodIn_app (goodIn_of _ (by decide +kernel)) ggL_turned_L_step
set_option maxRecDepth 20000 in
theorem ggL_turned_X7_turnError : GoodIn wsL_turned wsX7_turnError := goodIn_r _ [189, 7, 94, 9, 190, 10, 11, 4, 12, 95, 96, 97, 16, 98, 18, 99, 100, 101, 191, 27, 28, 22, 29, 30, 31, 32, 24, 33, 34, 35, 36, 25, 14, 15, 17, 37, 38, 39, 40, 41, 42, 43, 44, 45, 46, 47, 48, 49, 50, 51, 52, 53, 54, 55, 56, 57, 58, 59, 192, 61, 62, 63, 64, 65, 66, 67, 68, 69, 70, 71, 72, 73, 74, 75, 76, 77, 78, 79, 80, 81, 163, 164, 165, 166, 167, 168, 169, 170, 171, 172, 204, 205, 206, 207, 208, 209, 210, 211, 212, 213, 214, 215, 216, 217, 218, 219, 220, 221, 222] (by decide +kernel) (by decide +kernel)
set_option maxRecDepth 20000 in
theorem gL_turned_X7_turnError : GoodIn wsL_turned (wsV RL 45 RX7 yX7_turnError wsX7_turnError) := goodIn_app (goodIn_of _ (by decide +kernel)) ggL_turned_X7_turnError
set_option maxRecDepth 20000 in
theorem ggL_turned_X7_error : GoodIn wsL_turned wsX7_error := goodIn_r _ [196, 94, 7, 197, 9, 190, 10, 11, 4, 12, 99, 100, 101, 13, 14, 15, 16, 17, 18, 173, 174, 175, 22, 176, 24, 30, 25, 177, 20, 21, 23, 26, 27, 28, 29, 31, 32, 33, 34, 35, 36, 37, 38, 39, 40, 41, 42, 43, 44, 45, 46, 47, 48, 49, 50, 51, 52, 53, 54, 55, 56, 57, 58, 59, 60, 61, 62, 63, 64, 65, 66, 67, 68, 69, 70, 71, 72, 73, 74, 75, 76, 77, 78, 79, 80, 81, 192, 163, 164, 165, 166, 167, 168, 169, 170, 171, 172, 204, 205, 206, 207, 208, 209, 210, 211, 212, 213, 214, 215, 216, 217, 218, 219, 220, 221, 222] (by decide +kernel) (by decide +kernel)
set_option maxRecDepth 20000 in
theorem gL_turned_X7_error : GoodIn wsL_turned (wsV RL 48 RX7 yX7_error wsX7_error) := goodIn_app (goodIn_of _ (by decide +kernel)) ggL_turned_X7_error
set_option maxRecDepth 20000 in
theorem ggL_turned_L_isLess : GoodIn wsL_turned wsL_isLess := goodIn_r _ [200, 201, 202, 88, 203] (by decide +kernel) (by decide +kernel)
set_option maxRecDepth 20000 in
theorem gL_turned_L_isLess : GoodIn wsL_turned (va_wsS RL 52 yL_isLess wsL_isLess) := goodIn_app (goodIn_of _ (by decide +kernel)) ggL_turned_L_isLess
theorem dL_turned_0 : decode cL_turned 0 = .ok (.aload_n 0, 1) := by decide +kernel
theorem dL_turned_1 : decode cL_turned 1 = .ok (.iload_n 1, 1) := by decide +kernel
theorem dL_turned_2 : decode cL_turned 2 = .ok (.invokevirtual 33, 3) := by decide +kernel
theorem dL_turned_5 : decode cL_turned 5 = .ok (.istore_n 2, 1) := by decide +kernel
theorem dL_turned_6 : decode cL_turned 6 = .ok (.aload_n 0, 1) := by decide +kernel
theorem dL_turned_7 : decode cL_turned 7 = .ok (.invokevirtual 37, 3) := by decide +kernel
theorem dL_turned_10 : decode cL_turned 10 = .ok (.istore_n 3, 1) := by decide +kernel
theorem dL_turned_11 : decode cL_turned 11 = .ok (.iload_n 2, 1) := by decide +kernel
theorem dL_turned_12 : decode cL_turned 12 = .ok (.ifCond .lt 12, 3) := by decide +kernel
theorem dL_turned_15 : decode cL_turned 15 = .ok (.iload_n 2, 1) := by decide +kernel
theorem dL_turned_16 : decode cL_turned 16 = .ok (.iload_n 3, 1) := by decide +kernel
theorem dL_turned_17 : decode cL_turned 17 = .ok (.if_icmp .ge 7, 3) := by decide +kernel
theorem dL_turned_20 : decode cL_turned 20 = .ok (.iconst 1, 1) := by decide +kernel
theorem dL_turned_21 : decode cL_turned 21 = .ok (.goto 4, 3) := by decide +kernel
theorem dL_turned_24 : decode cL_turned 24 = .ok (.iconst 0, 1) := by decide +kernel
theorem dL_turned_25 : decode cL_turned 25 = .ok (.istore 4, 2) := by decide +kernel
theorem dL_turned_27 : decode cL_turned 27 = .ok (.iconst 0, 1) := by decide +kernel
theorem dL_turned_28 : decode cL_turned 28 = .ok (.istore 5, 2) := by decide +kernel
theorem dL_turned_30 : decode cL_turned 30 = .ok (.iload 5, 2) := by decide +kernel
theorem dL_turned_32 : decode cL_turned 32 = .ok (.iconst 1, 1) := by decide +kernel
theorem dL_turned_33 : decode cL_turned 33 = .ok (.iadd, 1) := by decide +kernel
theorem dL_turned_34 : decode cL_turned 34 = .ok (.iload_n 3, 1) := by decide +kernel
theorem dL_turned_35 : decode cL_turned 35 = .ok (.if_icmp .ge 76, 3) := by decide +kernel
theorem dL_turned_38 : decode cL_turned 38 = .ok (.iload 4, 2) := by decide +kernel
theorem dL_turned_40 : decode cL_turned 40 = .ok (.ifCond .eq 71, 3) := by decide +kernel
theorem dL_turned_43 : decode cL_turned 43 = .ok (.aload_n 0, 1) := by decide +kernel
theorem dL_turned_44 : decode cL_turned 44 = .ok (.iload_n 1, 1) := by decide +kernel
theorem dL_turned_45 : decode cL_turned 45 = .ok (.iload 5, 2) := by decide +kernel
theorem dL_turned_47 : decode cL_turned 47 = .ok (.invokestatic 41, 3) := by decide +kernel
theorem dL_turned_50 : decode cL_turned 50 = .ok (.lstore 6, 2) := by decide +kernel
theorem dL_turned_52 : decode cL_turned 52 = .ok (.iload 5, 2) := by decide +kernel
theorem dL_turned_54 : decode cL_turned 54 = .ok (.iload_n 2, 1) := by decide +kernel
theorem dL_turned_55 : decode cL_turned 55 = .ok (.if_icmp .ge 7, 3) := by decide +kernel
theorem dL_turned_58 : decode cL_turned 58 = .ok (.iconst 1, 1) := by decide +kernel
theorem dL_turned_59 : decode cL_turned 59 = .ok (.goto 4, 3) := by decide +kernel
theorem dL_turned_62 : decode cL_turned 62 = .ok (.iconst 0, 1) := by decide +kernel
theorem dL_turned_63 : decode cL_turned 63 = .ok (.iload_n 1, 1) := by decide +kernel
theorem dL_turned_64 : decode cL_turned 64 = .ok (.iconst 2, 1) := by decide +kernel
theorem dL_turned_65 : decode cL_turned 65 = .ok (.if_icmp .ne 7, 3) := by decide +kernel
theorem dL_turned_68 : decode cL_turned 68 = .ok (.iconst 1, 1) := by decide +kernel
theorem dL_turned_69 : decode cL_turned 69 = .ok (.goto 4, 3) := by decide +kernel
theorem dL_turned_72 : decode cL_turned 72 = .ok (.iconst 0, 1) := by decide +kernel
theorem dL_turned_73 : decode cL_turned 73 = .ok (.if_icmp .ne 18, 3) := by decide +kernel
theorem dL_turned_76 : decode cL_turned 76 = .ok (.lload 6, 2) := by decide +kernel
theorem dL_turned_78 : decode cL_turned 78 = .ok (.lconst 0, 1) := by decide +kernel
theorem dL_turned_79 : decode cL_turned 79 = .ok (.lcmp, 1) := by decide +kernel
theorem dL_turned_80 : decode cL_turned 80 = .ok (.ifCond .lt 7, 3) := by decide +kernel
theorem dL_turned_83 : decode cL_turned 83 = .ok (.iconst 1, 1) := by decide +kernel
theorem dL_turned_84 : decode cL_turned 84 = .ok (.goto 19, 3) := by decide +kernel
theorem dL_turned_87 : decode cL_turned 87 = .ok (.iconst 0, 1) := by decide +kernel
theorem dL_turned_88 : decode cL_turned 88 = .ok (.goto 15, 3) := by decide +kernel
theorem dL_turned_91 : decode cL_turned 91 = .ok (.lload 6, 2) := by decide +kernel
theorem dL_turned_93 : decode cL_turned 93 = .ok (.lconst 0, 1) := by decide +kernel
theorem dL_turned_94 : decode cL_turned 94 = .ok (.lcmp, 1) := by decide +kernel
theorem dL_turned_95 : decode cL_turned 95 = .ok (.ifCond .gt 7, 3) := by decide +kernel
theorem dL_turned_98 : decode cL_turned 98 = .ok (.iconst 1, 1) := by decide +kernel
theorem dL_turned_99 : decode cL_turned 99 = .ok (.goto 4, 3) := by decide +kernel
theorem dL_turned_102 : decode cL_turned 102 = .ok (.iconst 0, 1) := by decide +kernel
theorem dL_turned_103 : decode cL_turned 103 = .ok (.istore 4, 2) := by decide +kernel
theorem dL_turned_105 : decode cL_turned 105 = .ok (.iinc 5 1, 3) := by decide +kernel
theorem dL_turned_108 : decode cL_turned 108 = .ok (.goto (-78), 3) := by decide +kernel
theorem dL_turned_111 : decode cL_turned 111 = .ok (.iload 4, 2) := by decide +kernel
theorem dL_turned_113 : decode cL_turned 113 = .ok (.ifCond .eq 41, 3) := by decide +kernel
theorem dL_turned_116 : decode cL_turned 116 = .ok (.aload_n 0, 1) := by decide +kernel
theorem dL_turned_117 : decode cL_turned 117 = .ok (.iload_n 1, 1) := by decide +kernel
theorem dL_turned_118 : decode cL_turned 118 = .ok (.iload_n 2, 1) := by decide +kernel
theorem dL_turned_119 : decode cL_turned 119 = .ok (.iconst 0, 1) := by decide +kernel
theorem dL_turned_120 : decode cL_turned 120 = .ok (.invokevirtual 45, 3) := by decide +kernel
theorem dL_turned_123 : decode cL_turned 123 = .ok (.aload_n 0, 1) := by decide +kernel
theorem dL_turned_124 : decode cL_turned 124 = .ok (.iload_n 1, 1) := by decide +kernel
theorem dL_turned_125 : decode cL_turned 125 = .ok (.iconst 0, 1) := by decide +kernel
theorem dL_turned_126 : decode cL_turned 126 = .ok (.invokevirtual 48, 3) := by decide +kernel
theorem dL_turned_129 : decode cL_turned 129 = .ok (.lcmp, 1) := by decide +kernel
theorem dL_turned_130 : decode cL_turned 130 = .ok (.ifCond .ne 24, 3) := by decide +kernel
theorem dL_turned_133 : decode cL_turned 133 = .ok (.aload_n 0, 1) := by decide +kernel
theorem dL_turned_134 : decode cL_turned 134 = .ok (.iload_n 1, 1) := by decide +kernel
theorem dL_turned_135 : decode cL_turned 135 = .ok (.iload_n 2, 1) := by decide +kernel
theorem dL_turned_136 : decode cL_turned 136 = .ok (.iconst 1, 1) := by decide +kernel
theorem dL_turned_137 : decode cL_turned 137 = .ok (.invokevirtual 45, 3) := by decide +kernel
theorem dL_turned_140 : decode cL_turned 140 = .ok (.aload_n 0, 1) := by decide +kernel
theorem dL_turned_141 : decode cL_turned 141 = .ok (.iload_n 1, 1) := by decide +kernel
theorem dL_turned_142 : decode cL_turned 142 = .ok (.iconst 1, 1) := by decide +kernel
theorem dL_turned_143 : decode cL_turned 143 = .ok (.invokevirtual 48, 3) := by decide +kernel
theorem dL_turned_146 : decode cL_turned 146 = .ok (.lcmp, 1) := by decide +kernel
theorem dL_turned_147 : decode cL_turned 147 = .ok (.ifCond .ne 7, 3) := by decide +kernel
theorem dL_turned_150 : decode cL_turned 150 = .ok (.iconst 1, 1) := by decide +kernel
theorem dL_turned_151 : decode cL_turned 151 = .ok (.goto 4, 3) := by decide +kernel
theorem dL_turned_154 : decode cL_turned 154 = .ok (.iconst 0, 1) := by decide +kernel
theorem dL_turned_155 : decode cL_turned 155 = .ok (.istore 4, 2) := by decide +kernel
theorem dL_turned_157 : decode cL_turned 157 = .ok (.iconst 0, 1) := by decide +kernel
theorem dL_turned_158 : decode cL_turned 158 = .ok (.istore 5, 2) := by decide +kernel
theorem dL_turned_160 : decode cL_turned 160 = .ok (.iload 5, 2) := by decide +kernel
theorem dL_turned_162 : decode cL_turned 162 = .ok (.iload_n 3, 1) := by decide +kernel
theorem dL_turned_163 : decode cL_turned 163 = .ok (.if_icmp .ge 105, 3) := by decide +kernel
theorem dL_turned_166 : decode cL_turned 166 = .ok (.iload 4, 2) := by decide +kernel
theorem dL_turned_168 : decode cL_turned 168 = .ok (.ifCond .eq 100, 3) := by decide +kernel
theorem dL_turned_171 : decode cL_turned 171 = .ok (.aload_n 0, 1) := by decide +kernel
theorem dL_turned_172 : decode cL_turned 172 = .ok (.iload_n 1, 1) := by decide +kernel
theorem dL_turned_173 : decode cL_turned 173 = .ok (.iload 5, 2) := by decide +kernel
theorem dL_turned_175 : decode cL_turned 175 = .ok (.iconst 0, 1) := by decide +kernel
theorem dL_turned_176 : decode cL_turned 176 = .ok (.invokevirtual 45, 3) := by decide +kernel
theorem dL_turned_179 : decode cL_turned 179 = .ok (.lstore 6, 2) := by decide +kernel
theorem dL_turned_181 : decode cL_turned 181 = .ok (.aload_n 0, 1) := by decide +kernel
theorem dL_turned_182 : decode cL_turned 182 = .ok (.iload_n 1, 1) := by decide +kernel
theorem dL_turned_183 : decode cL_turned 183 = .ok (.iload 5, 2) := by decide +kernel
theorem dL_turned_185 : decode cL_turned 185 = .ok (.iconst 1, 1) := by decide +kernel
theorem dL_turned_186 : decode cL_turned 186 = .ok (.invokevirtual 45, 3) := by decide +kernel
theorem dL_turned_189 : decode cL_turned 189 = .ok (.lstore 8, 2) := by decide +kernel
theorem dL_turned_191 : decode cL_turned 191 = .ok (.lload 6, 2) := by decide +kernel
theorem dL_turned_193 : decode cL_turned 193 = .ok (.lconst 0, 1) := by decide +kernel
theorem dL_turned_194 : decode cL_turned 194 = .ok (.lcmp, 1) := by decide +kernel
theorem dL_turned_195 : decode cL_turned 195 = .ok (.ifCond .lt 64, 3) := by decide +kernel
theorem dL_turned_198 : decode cL_turned 198 = .ok (.lload 8, 2) := by decide +kernel
theorem dL_turned_200 : decode cL_turned 200 = .ok (.lconst 0, 1) := by decide +kernel
theorem dL_turned_201 : decode cL_turned 201 = .ok (.lcmp, 1) := by decide +kernel
theorem dL_turned_202 : decode cL_turned 202 = .ok (.ifCond .le 57, 3) := by decide +kernel
theorem dL_turned_205 : decode cL_turned 205 = .ok (.lload 6, 2) := by decide +kernel
theorem dL_turned_207 : decode cL_turned 207 = .ok (.lload 8, 2) := by decide +kernel
theorem dL_turned_209 : decode cL_turned 209 = .ok (.aload_n 0, 1) := by decide +kernel
theorem dL_turned_210 : decode cL_turned 210 = .ok (.iload_n 1, 1) := by decide +kernel
theorem dL_turned_211 : decode cL_turned 211 = .ok (.iconst 0, 1) := by decide +kernel
theorem dL_turned_212 : decode cL_turned 212 = .ok (.invokevirtual 48, 3) := by decide +kernel
theorem dL_turned_215 : decode cL_turned 215 = .ok (.aload_n 0, 1) := by decide +kernel
theorem dL_turned_216 : decode cL_turned 216 = .ok (.iload_n 1, 1) := by decide +kernel
theorem dL_turned_217 : decode cL_turned 217 = .ok (.iconst 1, 1) := by decide +kernel
theorem dL_turned_218 : decode cL_turned 218 = .ok (.invokevirtual 48, 3) := by decide +kernel
theorem dL_turned_221 : decode cL_turned 221 = .ok (.invokestatic 52, 3) := by decide +kernel
theorem dL_turned_224 : decode cL_turned 224 = .ok (.ifCond .ne 35, 3) := by decide +kernel
theorem dL_turned_227 : decode cL_turned 227 = .ok (.iload 5, 2) := by decide +kernel
theorem dL_turned_229 : decode cL_turned 229 = .ok (.iload_n 2, 1) := by decide +kernel
theorem dL_turned_230 : decode cL_turned 230 = .ok (.if_icmp .ge 25, 3) := by decide +kernel
theorem dL_turned_233 : decode cL_turned 233 = .ok (.aload_n 0, 1) := by decide +kernel
theorem dL_turned_234 : decode cL_turned 234 = .ok (.iload_n 1, 1) := by decide +kernel
theorem dL_turned_235 : decode cL_turned 235 = .ok (.iconst 0, 1) := by decide +kernel
theorem dL_turned_236 : decode cL_turned 236 = .ok (.invokevirtual 48, 3) := by decide +kernel
theorem dL_turned_239 : decode cL_turned 239 = .ok (.aload_n 0, 1) := by decide +kernel
theorem dL_turned_240 : decode cL_turned 240 = .ok (.iload_n 1, 1) := by decide +kernel
theorem dL_turned_241 : decode cL_turned 241 = .ok (.iconst 1, 1) := by decide +kernel
theorem dL_turned_242 : decode cL_turned 242 = .ok (.invokevirtual 48, 3) := by decide +kernel
theorem dL_turned_245 : decode cL_turned 245 = .ok (.lload 6, 2) := by decide +kernel
theorem dL_turned_247 : decode cL_turned 247 = .ok (.lload 8, 2) := by decide +kernel
theorem dL_turned_249 : decode cL_turned 249 = .ok (.invokestatic 52, 3) := by decide +kernel
theorem dL_turned_252 : decode cL_turned 252 = .ok (.ifCond .eq 7, 3) := by decide +kernel
theorem dL_turned_255 : decode cL_turned 255 = .ok (.iconst 1, 1) := by decide +kernel
theorem dL_turned_256 : decode cL_turned 256 = .ok (.goto 4, 3) := by decide +kernel
theorem dL_turned_259 : decode cL_turned 259 = .ok (.iconst 0, 1) := by decide +kernel
theorem dL_turned_260 : decode cL_turned 260 = .ok (.istore 4, 2) := by decide +kernel
theorem dL_turned_262 : decode cL_turned 262 = .ok (.iinc 5 1, 3) := by decide +kernel
theorem dL_turned_265 : decode cL_turned 265 = .ok (.goto (-105), 3) := by decide +kernel
theorem dL_turned_268 : decode cL_turned 268 = .ok (.iload 4, 2) := by decide +kernel
theorem dL_turned_270 : decode cL_turned 270 = .ok (.ifCond .eq 67, 3) := by decide +kernel
theorem dL_turned_273 : decode cL_turned 273 = .ok (.aload_n 0, 1) := by decide +kernel
theorem dL_turned_274 : decode cL_turned 274 = .ok (.iconst 0, 1) := by decide +kernel
theorem dL_turned_275 : decode cL_turned 275 = .ok (.iconst 0, 1) := by decide +kernel
theorem dL_turned_276 : decode cL_turned 276 = .ok (.invokevirtual 48, 3) := by decide +kernel
theorem dL_turned_279 : decode cL_turned 279 = .ok (.aload_n 0, 1) := by decide +kernel
theorem dL_turned_280 : decode cL_turned 280 = .ok (.iconst 0, 1) := by decide +kernel
theorem dL_turned_281 : decode cL_turned 281 = .ok (.iconst 1, 1) := by decide +kernel
theorem dL_turned_282 : decode cL_turned 282 = .ok (.invokevirtual 48, 3) := by decide +kernel
theorem dL_turned_285 : decode cL_turned 285 = .ok (.aload_n 0, 1) := by decide +kernel
theorem dL_turned_286 : decode cL_turned 286 = .ok (.iload_n 1, 1) := by decide +kernel
theorem dL_turned_287 : decode cL_turned 287 = .ok (.iconst 0, 1) := by decide +kernel
theorem dL_turned_288 : decode cL_turned 288 = .ok (.invokevirtual 48, 3) := by decide +kernel
theorem dL_turned_291 : decode cL_turned 291 = .ok (.aload_n 0, 1) := by decide +kernel
theorem dL_turned_292 : decode cL_turned 292 = .ok (.iload_n 1, 1) := by decide +kernel
theorem dL_turned_293 : decode cL_turned 293 = .ok (.iconst 1, 1) := by decide +kernel
theorem dL_turned_294 : decode cL_turned 294 = .ok (.invokevirtual 48, 3) := by decide +kernel
theorem dL_turned_297 : decode cL_turned 297 = .ok (.invokestatic 52, 3) := by decide +kernel
theorem dL_turned_300 : decode cL_turned 300 = .ok (.ifCond .ne 37, 3) := by decide +kernel
theorem dL_turned_303 : decode cL_turned 303 = .ok (.aload_n 0, 1) := by decide +kernel
theorem dL_turned_304 : decode cL_turned 304 = .ok (.iconst 1, 1) := by decide +kernel
theorem dL_turned_305 : decode cL_turned 305 = .ok (.iconst 0, 1) := by decide +kernel
theorem dL_turned_306 : decode cL_turned 306 = .ok (.invokevirtual 48, 3) := by decide +kernel
theorem dL_turned_309 : decode cL_turned 309 = .ok (.aload_n 0, 1) := by decide +kernel
theorem dL_turned_310 : decode cL_turned 310 = .ok (.iconst 1, 1) := by decide +kernel
theorem dL_turned_311 : decode cL_turned 311 = .ok (.iconst 1, 1) := by decide +kernel
theorem dL_turned_312 : decode cL_turned 312 = .ok (.invokevirtual 48, 3) := by decide +kernel
theorem dL_turned_315 : decode cL_turned 315 = .ok (.aload_n 0, 1) := by decide +kernel
theorem dL_turned_316 : decode cL_turned 316 = .ok (.iload_n 1, 1) := by decide +kernel
theorem dL_turned_317 : decode cL_turned 317 = .ok (.iconst 0, 1) := by decide +kernel
theorem dL_turned_318 : decode cL_turned 318 = .ok (.invokevirtual 48, 3) := by decide +kernel
theorem dL_turned_321 : decode cL_turned 321 = .ok (.aload_n 0, 1) := by decide +kernel
theorem dL_turned_322 : decode cL_turned 322 = .ok (.iload_n 1, 1) := by decide +kernel
theorem dL_turned_323 : decode cL_turned 323 = .ok (.iconst 1, 1) := by decide +kernel
theorem dL_turned_324 : decode cL_turned 324 = .ok (.invokevirtual 48, 3) := by decide +kernel
theorem dL_turned_327 : decode cL_turned 327 = .ok (.invokestatic 52, 3) := by decide +kernel
theorem dL_turned_330 : decode cL_turned 330 = .ok (.ifCond .ne 7, 3) := by decide +kernel
theorem dL_turned_333 : decode cL_turned 333 = .ok (.iconst 1, 1) := by decide +kernel
theorem dL_turned_334 : decode cL_turned 334 = .ok (.goto 4, 3) := by decide +kernel
theorem dL_turned_337 : decode cL_turned 337 = .ok (.iconst 0, 1) := by decide +kernel
theorem dL_turned_338 : decode cL_turned 338 = .ok (.ireturn, 1) := by decide +kernel
set_option maxRecDepth 20000 in
theorem ggL_bent_X7_groups : GoodIn wsL_bent wsX7_groups := goodIn_r _ [6, 7, 8, 9, 10, 11, 12, 13, 215, 216, 217, 218, 219, 220, 221, 222, 223, 224, 225, 226, 227, 228] (by decide +kernel) (by decide +kernel)
set_option maxRecDepth 20000 in
theorem gL_bent_X7_groups : GoodIn wsL_bent (wsV RL 37 RX7 yX7_groups wsX7_groups) := goodIn_app (goodIn_of _ (by decide +kernel)) ggL_bent_X7_groups
set_option maxRecDepth 20000 in
theorem ggL_bent_X7_kinks : GoodIn wsL_bent wsX7_kinks := goodIn_r _ [17, 18, 19, 20, 5, 21, 22, 23, 24, 25, 26, 27, 28, 29, 30, 31, 32, 33, 34, 35, 36, 9, 10, 11, 12, 13, 37, 38, 39, 40, 41, 42, 43, 44, 45, 46, 47, 48, 49, 50, 51, 52, 53, 54, 55, 56, 57, 58, 59, 60, 61, 62, 63, 64, 65, 66, 67, 68, 69, 70, 71, 72, 73, 74, 75, 76, 77, 78, 79, 80, 81, 82, 83, 84, 85, 215, 216, 217, 218, 219, 220, 221, 222, 229, 230, 231, 232, 223, 224, 225, 226, 227, 228] (by decide +kernel) (by decide +kernel)
set_option maxRecDepth 20000 in
theorem gL_bent_X7_kinks : GoodIn wsL_bent (wsV RL 56 RX7 yX7_kinks wsX7_kinks) := goodIn_app (goodIn_of _ (by decide +kernel)) ggL_bent_X7_kinks
set_option maxRecDepth 20000 in
theorem ggL_bent_X7_kinkAt : GoodIn wsL_bent wsX7_kinkAt := goodIn_r _ [89, 18, 90, 19, 20, 5, 21, 22, 23, 24, 25, 26, 27, 28, 29, 30, 31, 32, 33, 34, 35, 36, 9, 10, 11, 12, 13, 37, 38, 39, 40, 41, 42, 43, 44, 45, 46, 47, 48, 49, 50, 51, 52, 53, 54, 55, 56, 57, 58, 59, 60, 61, 62, 63, 64, 65, 66, 67, 68, 69, 70, 71, 72, 73, 74, 75, 76, 77, 78, 79, 80, 81, 82, 83, 84, 85, 91, 92, 93, 94, 95, 215, 216, 217, 218, 219, 220, 221, 222, 229, 230, 231, 232, 223, 224, 225, 226, 227, 228] (by decide +kernel) (by decide +kernel)
set_option maxRecDepth 20000 in
theorem gL_bent_X7_kinkAt : GoodIn wsL_bent (wsV RL 59 RX7 yX7_kinkAt wsX7_kinkAt) := goodIn_app (goodIn_of _ (by decide +kernel)) ggL_bent_X7_kinkAt
set_option maxRecDepth 20000 in
theorem ggL_bent_L_against : GoodIn wsL_bent wsL_against := goodIn_r _ [99, 100, 101, 102, 5, 103, 7, 104, 105, 19, 20, 21, 106, 75, 76, 11, 77, 13, 107, 108, 109, 22, 23, 24, 25, 26, 27, 28, 29, 30, 31, 32, 33, 34, 35, 36, 9, 10, 12, 37, 38, 39, 40, 41, 42, 43, 44, 45, 46, 47, 48, 49, 50, 51, 52, 53, 54, 55, 56, 57, 58, 59, 60, 61, 62, 63, 64, 65, 66, 67, 68, 69, 70, 71, 72, 73, 74, 110, 111, 112, 113, 114, 115, 116, 117, 118, 119, 120, 121, 122, 123, 124, 125, 126, 127, 128, 129, 130, 131, 132, 133, 134, 135, 84, 136, 137, 138, 139, 140, 141, 142, 143, 144, 145, 146, 147, 148, 149, 150, 151, 152, 153, 154, 155, 156, 157, 158, 159, 160, 161, 162, 163, 164, 165, 166, 167, 168, 169, 170, 171, 172, 173, 174, 175, 176, 177, 178, 179, 180, 181, 182, 183, 184, 185, 186, 187, 188, 189, 190, 191, 192, 193, 194, 195, 196, 197, 198, 199, 200, 201, 202, 203, 204, 205, 18, 206, 207, 208, 209, 210, 211, 215, 216, 217, 218, 219, 220, 221, 222, 223, 224, 225, 226, 227, 228, 229, 230, 231, 232, 233, 234, 235, 236, 237] (by decide +kernel) (by decide +kernel)
set_option maxRecDepth 20000 in
theorem gL_bent_L_against : GoodIn wsL_bent (va_wsS RL 63 yL_against wsL_against) := goodIn_app (goodIn_of _ (by decide +kernel)) ggL_bent_L_against
set_option maxRecDepth 20000 in
theorem ggL_bent_L_step : GoodIn wsL_bent wsL_step := goodIn_r _ [214, 100, 101, 102, 5, 103, 7, 104, 105, 19, 20, 21, 106, 75, 76, 11, 77, 13, 107, 108, 109, 22, 23, 24, 25, 26, 27, 28, 29, 30, 31, 32, 33, 34, 35, 36, 9, 10, 12, 37, 38, 39, 40, 41, 42, 43, 44, 45, 46, 47, 48, 49, 50, 51, 52, 53, 54, 55, 56, 57, 58, 59, 60, 61, 62, 63, 64, 65, 66, 67, 68, 69, 70, 71, 72, 73, 74, 110, 111, 112, 113, 114, 115, 116, 117, 118, 119, 120, 121, 122, 123, 124, 125, 126, 127, 128, 129, 130, 131, 132, 133, 134, 135, 84, 136, 137, 138, 139, 140, 141, 142, 143, 144, 145, 146, 147, 148, 149, 150, 151, 152, 153, 154, 155, 156, 157, 158, 159, 160, 161, 162, 163, 164, 165, 166, 167, 168, 169, 170, 171, 172, 173, 174, 175, 176, 177, 178, 179, 180, 181, 182, 183, 184, 185, 186, 187, 188, 189, 190, 191, 192, 193, 194, 195, 196, 197, 198, 199, 200, 201, 215, 216, 217, 218, 219, 220, 221, 222, 223, 224, 225, 226, 227, 228, 229, 230, 231, 232, 233, 234, 235, 236, 237] (by decide +kernel) (by decide +kernel)
set_option maxRecDepth 20000 in
theorem gL_bent_L_step : GoodIn wsL_bent (va_wsS RL 41 yL_step wsL_step) := goodIn_app (goodIn_of _ (by decide +kernel)) ggL_bent_L_step
set_option maxRecDepth 20000 in
theorem ggL_bent_X7_groupInfo : GoodIn wsL_bent wsX7_groupInfo := goodIn_r _ [205, 7, 18, 106, 75, 76, 11, 77, 13, 19, 20, 5, 21, 206, 70, 71, 72, 73, 74, 201, 56, 57, 58, 59, 200, 51, 52, 53, 54, 207, 208, 209, 210, 211, 215, 216, 217, 218, 219, 220, 221, 222, 223, 224, 225, 226, 227, 228] (by decide +kernel) (by decide +kernel)
set_option maxRecDepth 20000 in
theorem gL_bent_X7_groupInfo : GoodIn wsL_bent (wsV RL 25 RX7 yX7_groupInfo wsX7_groupInfo) := goodIn_app (goodIn_of _ (by decide +kernel)) ggL_bent_X7_groupInfo
set_option maxRecDepth 20000 in
theorem ggL_bent_X7_fit : GoodIn wsL_bent wsX7_fit := goodIn_r _ [103, 7, 104, 105, 19, 20, 5, 21, 106, 75, 76, 11, 77, 13, 107, 108, 109, 22, 23, 24, 25, 26, 27, 28, 29, 30, 31, 32, 33, 34, 35, 36, 9, 10, 12, 37, 38, 39, 40, 41, 42, 43, 44, 45, 46, 47, 48, 49, 50, 51, 52, 53, 54, 55, 56, 57, 58, 59, 60, 61, 62, 63, 64, 65, 66, 67, 68, 69, 70, 71, 72, 73, 74, 110, 111, 112, 113, 114, 115, 116, 117, 118, 119, 120, 121, 122, 123, 124, 125, 126, 127, 128, 129, 130, 131, 132, 133, 134, 135, 84, 136, 137, 138, 139, 140, 141, 142, 143, 144, 145, 146, 147, 148, 149, 150, 151, 152, 153, 154, 155, 156, 157, 158, 159, 160, 161, 162, 163, 164, 165, 166, 167, 168, 169, 170, 171, 172, 173, 174, 175, 176, 177, 178, 179, 180, 181, 182, 183, 184, 185, 186, 187, 188, 189, 190, 191, 192, 193, 194, 195, 196, 197, 198, 199, 200, 201, 215, 216, 217, 218, 219, 220, 221, 222, 223, 224, 225, 226, 227, 228, 229, 230, 231, 232, 233, 234, 235, 236, 237] (by decide +kernel) (by decide +kernel)
set_option maxRecDepth 20000 in
theorem gL_bent_X7_fit : GoodIn wsL_bent (wsV RL 21 RX7 yX7_fit wsX7_fit) := goodIn_app (goodIn_of _ (by decide +kernel)) ggL_bent_X7_fit
theorem dL_bent_0 : decode cL_bent 0 = .ok (.aload_n 0, 1) := by decide +kernel
theorem dL_bent_1 : decode cL_bent 1 = .ok (.invokevirtual 37, 3) := by decide +kernel
theorem dL_bent_4 : decode cL_bent 4 = .ok (.istore_n 2, 1) := by decide +kernel
theorem dL_bent_5 : decode cL_bent 5 = .ok (.aload_n 0, 1) := by decide +kernel
theorem dL_bent_6 : decode cL_bent 6 = .ok (.iload_n 1, 1) := by decide +kernel
theorem dL_bent_7 : decode cL_bent 7 = .ok (.invokevirtual 56, 3) := by decide +kernel
theorem dL_bent_10 : decode cL_bent 10 = .ok (.istore_n 3, 1) := by decide +kernel
theorem dL_bent_11 : decode cL_bent 11 = .ok (.iload_n 1, 1) := by decide +kernel
theorem dL_bent_12 : decode cL_bent 12 = .ok (.iconst 4, 1) := by decide +kernel
theorem dL_bent_13 : decode cL_bent 13 = .ok (.if_icmp .ne 7, 3) := by decide +kernel
theorem dL_bent_16 : decode cL_bent 16 = .ok (.iconst 1, 1) := by decide +kernel
theorem dL_bent_17 : decode cL_bent 17 = .ok (.goto 4, 3) := by decide +kernel
theorem dL_bent_20 : decode cL_bent 20 = .ok (.iconst (-1), 1) := by decide +kernel
theorem dL_bent_21 : decode cL_bent 21 = .ok (.istore 4, 2) := by decide +kernel
theorem dL_bent_23 : decode cL_bent 23 = .ok (.iload_n 3, 1) := by decide +kernel
theorem dL_bent_24 : decode cL_bent 24 = .ok (.ifCond .lt 34, 3) := by decide +kernel
theorem dL_bent_27 : decode cL_bent 27 = .ok (.iload_n 3, 1) := by decide +kernel
theorem dL_bent_28 : decode cL_bent 28 = .ok (.iload_n 2, 1) := by decide +kernel
theorem dL_bent_29 : decode cL_bent 29 = .ok (.iconst 2, 1) := by decide +kernel
theorem dL_bent_30 : decode cL_bent 30 = .ok (.if_icmp .le 9, 3) := by decide +kernel
theorem dL_bent_33 : decode cL_bent 33 = .ok (.iload_n 2, 1) := by decide +kernel
theorem dL_bent_34 : decode cL_bent 34 = .ok (.iconst 2, 1) := by decide +kernel
theorem dL_bent_35 : decode cL_bent 35 = .ok (.isub, 1) := by decide +kernel
theorem dL_bent_36 : decode cL_bent 36 = .ok (.goto 4, 3) := by decide +kernel
theorem dL_bent_39 : decode cL_bent 39 = .ok (.iconst 0, 1) := by decide +kernel
theorem dL_bent_40 : decode cL_bent 40 = .ok (.if_icmp .gt 18, 3) := by decide +kernel
theorem dL_bent_43 : decode cL_bent 43 = .ok (.aload_n 0, 1) := by decide +kernel
theorem dL_bent_44 : decode cL_bent 44 = .ok (.iload_n 1, 1) := by decide +kernel
theorem dL_bent_45 : decode cL_bent 45 = .ok (.iload_n 3, 1) := by decide +kernel
theorem dL_bent_46 : decode cL_bent 46 = .ok (.invokevirtual 59, 3) := by decide +kernel
theorem dL_bent_49 : decode cL_bent 49 = .ok (.ldc 62, 2) := by decide +kernel
theorem dL_bent_51 : decode cL_bent 51 = .ok (.if_icmp .ne 7, 3) := by decide +kernel
theorem dL_bent_54 : decode cL_bent 54 = .ok (.iconst 1, 1) := by decide +kernel
theorem dL_bent_55 : decode cL_bent 55 = .ok (.goto 4, 3) := by decide +kernel
theorem dL_bent_58 : decode cL_bent 58 = .ok (.iconst 0, 1) := by decide +kernel
theorem dL_bent_59 : decode cL_bent 59 = .ok (.istore 5, 2) := by decide +kernel
theorem dL_bent_61 : decode cL_bent 61 = .ok (.iconst 0, 1) := by decide +kernel
theorem dL_bent_62 : decode cL_bent 62 = .ok (.istore 6, 2) := by decide +kernel
theorem dL_bent_64 : decode cL_bent 64 = .ok (.iconst 0, 1) := by decide +kernel
theorem dL_bent_65 : decode cL_bent 65 = .ok (.istore 7, 2) := by decide +kernel
theorem dL_bent_67 : decode cL_bent 67 = .ok (.iload 7, 2) := by decide +kernel
theorem dL_bent_69 : decode cL_bent 69 = .ok (.iload_n 2, 1) := by decide +kernel
theorem dL_bent_70 : decode cL_bent 70 = .ok (.if_icmp .ge 246, 3) := by decide +kernel
theorem dL_bent_73 : decode cL_bent 73 = .ok (.iload 5, 2) := by decide +kernel
theorem dL_bent_75 : decode cL_bent 75 = .ok (.ifCond .eq 241, 3) := by decide +kernel
theorem dL_bent_78 : decode cL_bent 78 = .ok (.aload_n 0, 1) := by decide +kernel
theorem dL_bent_79 : decode cL_bent 79 = .ok (.iload_n 1, 1) := by decide +kernel
theorem dL_bent_80 : decode cL_bent 80 = .ok (.iload 7, 2) := by decide +kernel
theorem dL_bent_82 : decode cL_bent 82 = .ok (.invokestatic 63, 3) := by decide +kernel
theorem dL_bent_85 : decode cL_bent 85 = .ok (.lstore 8, 2) := by decide +kernel
theorem dL_bent_87 : decode cL_bent 87 = .ok (.iload 6, 2) := by decide +kernel
theorem dL_bent_89 : decode cL_bent 89 = .ok (.iload_n 3, 1) := by decide +kernel
theorem dL_bent_90 : decode cL_bent 90 = .ok (.if_icmp .ge 19, 3) := by decide +kernel
theorem dL_bent_93 : decode cL_bent 93 = .ok (.aload_n 0, 1) := by decide +kernel
theorem dL_bent_94 : decode cL_bent 94 = .ok (.iload_n 1, 1) := by decide +kernel
theorem dL_bent_95 : decode cL_bent 95 = .ok (.iload 6, 2) := by decide +kernel
theorem dL_bent_97 : decode cL_bent 97 = .ok (.invokevirtual 59, 3) := by decide +kernel
theorem dL_bent_100 : decode cL_bent 100 = .ok (.iload 7, 2) := by decide +kernel
theorem dL_bent_102 : decode cL_bent 102 = .ok (.if_icmp .ne 7, 3) := by decide +kernel
theorem dL_bent_105 : decode cL_bent 105 = .ok (.iconst 1, 1) := by decide +kernel
theorem dL_bent_106 : decode cL_bent 106 = .ok (.goto 4, 3) := by decide +kernel
theorem dL_bent_109 : decode cL_bent 109 = .ok (.iconst 0, 1) := by decide +kernel
theorem dL_bent_110 : decode cL_bent 110 = .ok (.istore 10, 2) := by decide +kernel
theorem dL_bent_112 : decode cL_bent 112 = .ok (.iload 4, 2) := by decide +kernel
theorem dL_bent_114 : decode cL_bent 114 = .ok (.i2l, 1) := by decide +kernel
theorem dL_bent_115 : decode cL_bent 115 = .ok (.lload 8, 2) := by decide +kernel
theorem dL_bent_117 : decode cL_bent 117 = .ok (.lmul, 1) := by decide +kernel
theorem dL_bent_118 : decode cL_bent 118 = .ok (.lconst 0, 1) := by decide +kernel
theorem dL_bent_119 : decode cL_bent 119 = .ok (.lcmp, 1) := by decide +kernel
theorem dL_bent_120 : decode cL_bent 120 = .ok (.ifCond .gt 32, 3) := by decide +kernel
theorem dL_bent_123 : decode cL_bent 123 = .ok (.lload 8, 2) := by decide +kernel
theorem dL_bent_125 : decode cL_bent 125 = .ok (.lconst 0, 1) := by decide +kernel
theorem dL_bent_126 : decode cL_bent 126 = .ok (.lcmp, 1) := by decide +kernel
theorem dL_bent_127 : decode cL_bent 127 = .ok (.ifCond .eq 21, 3) := by decide +kernel
theorem dL_bent_130 : decode cL_bent 130 = .ok (.iload 7, 2) := by decide +kernel
theorem dL_bent_132 : decode cL_bent 132 = .ok (.ifCond .le 20, 3) := by decide +kernel
theorem dL_bent_135 : decode cL_bent 135 = .ok (.iload 7, 2) := by decide +kernel
theorem dL_bent_137 : decode cL_bent 137 = .ok (.iload_n 2, 1) := by decide +kernel
theorem dL_bent_138 : decode cL_bent 138 = .ok (.iconst 1, 1) := by decide +kernel
theorem dL_bent_139 : decode cL_bent 139 = .ok (.isub, 1) := by decide +kernel
theorem dL_bent_140 : decode cL_bent 140 = .ok (.if_icmp .ge 12, 3) := by decide +kernel
theorem dL_bent_143 : decode cL_bent 143 = .ok (.iload 10, 2) := by decide +kernel
theorem dL_bent_145 : decode cL_bent 145 = .ok (.ifCond .ne 7, 3) := by decide +kernel
theorem dL_bent_148 : decode cL_bent 148 = .ok (.iconst 1, 1) := by decide +kernel
theorem dL_bent_149 : decode cL_bent 149 = .ok (.goto 4, 3) := by decide +kernel
theorem dL_bent_152 : decode cL_bent 152 = .ok (.iconst 0, 1) := by decide +kernel
theorem dL_bent_153 : decode cL_bent 153 = .ok (.istore 5, 2) := by decide +kernel
theorem dL_bent_155 : decode cL_bent 155 = .ok (.iload 5, 2) := by decide +kernel
theorem dL_bent_157 : decode cL_bent 157 = .ok (.ifCond .eq 138, 3) := by decide +kernel
theorem dL_bent_160 : decode cL_bent 160 = .ok (.iload 7, 2) := by decide +kernel
theorem dL_bent_162 : decode cL_bent 162 = .ok (.ifCond .le 133, 3) := by decide +kernel
theorem dL_bent_165 : decode cL_bent 165 = .ok (.iload 7, 2) := by decide +kernel
theorem dL_bent_167 : decode cL_bent 167 = .ok (.iload_n 2, 1) := by decide +kernel
theorem dL_bent_168 : decode cL_bent 168 = .ok (.iconst 1, 1) := by decide +kernel
theorem dL_bent_169 : decode cL_bent 169 = .ok (.isub, 1) := by decide +kernel
theorem dL_bent_170 : decode cL_bent 170 = .ok (.if_icmp .ge 125, 3) := by decide +kernel
theorem dL_bent_173 : decode cL_bent 173 = .ok (.aload_n 0, 1) := by decide +kernel
theorem dL_bent_174 : decode cL_bent 174 = .ok (.iload_n 1, 1) := by decide +kernel
theorem dL_bent_175 : decode cL_bent 175 = .ok (.iload 7, 2) := by decide +kernel
theorem dL_bent_177 : decode cL_bent 177 = .ok (.iconst 1, 1) := by decide +kernel
theorem dL_bent_178 : decode cL_bent 178 = .ok (.isub, 1) := by decide +kernel
theorem dL_bent_179 : decode cL_bent 179 = .ok (.invokestatic 41, 3) := by decide +kernel
theorem dL_bent_182 : decode cL_bent 182 = .ok (.aload_n 0, 1) := by decide +kernel
theorem dL_bent_183 : decode cL_bent 183 = .ok (.iload 7, 2) := by decide +kernel
theorem dL_bent_185 : decode cL_bent 185 = .ok (.iconst 1, 1) := by decide +kernel
theorem dL_bent_186 : decode cL_bent 186 = .ok (.iadd, 1) := by decide +kernel
theorem dL_bent_187 : decode cL_bent 187 = .ok (.iconst 0, 1) := by decide +kernel
theorem dL_bent_188 : decode cL_bent 188 = .ok (.invokevirtual 25, 3) := by decide +kernel
theorem dL_bent_191 : decode cL_bent 191 = .ok (.aload_n 0, 1) := by decide +kernel
theorem dL_bent_192 : decode cL_bent 192 = .ok (.iload 7, 2) := by decide +kernel
theorem dL_bent_194 : decode cL_bent 194 = .ok (.iconst 0, 1) := by decide +kernel
theorem dL_bent_195 : decode cL_bent 195 = .ok (.invokevirtual 25, 3) := by decide +kernel
theorem dL_bent_198 : decode cL_bent 198 = .ok (.isub, 1) := by decide +kernel
theorem dL_bent_199 : decode cL_bent 199 = .ok (.i2l, 1) := by decide +kernel
theorem dL_bent_200 : decode cL_bent 200 = .ok (.lmul, 1) := by decide +kernel
theorem dL_bent_201 : decode cL_bent 201 = .ok (.aload_n 0, 1) := by decide +kernel
theorem dL_bent_202 : decode cL_bent 202 = .ok (.iload_n 1, 1) := by decide +kernel
theorem dL_bent_203 : decode cL_bent 203 = .ok (.iload 7, 2) := by decide +kernel
theorem dL_bent_205 : decode cL_bent 205 = .ok (.iconst 1, 1) := by decide +kernel
theorem dL_bent_206 : decode cL_bent 206 = .ok (.iadd, 1) := by decide +kernel
theorem dL_bent_207 : decode cL_bent 207 = .ok (.iconst 1, 1) := by decide +kernel
theorem dL_bent_208 : decode cL_bent 208 = .ok (.invokevirtual 21, 3) := by decide +kernel
theorem dL_bent_211 : decode cL_bent 211 = .ok (.lmul, 1) := by decide +kernel
theorem dL_bent_212 : decode cL_bent 212 = .ok (.lstore 11, 2) := by decide +kernel
theorem dL_bent_214 : decode cL_bent 214 = .ok (.aload_n 0, 1) := by decide +kernel
theorem dL_bent_215 : decode cL_bent 215 = .ok (.iload_n 1, 1) := by decide +kernel
theorem dL_bent_216 : decode cL_bent 216 = .ok (.iload 7, 2) := by decide +kernel
theorem dL_bent_218 : decode cL_bent 218 = .ok (.invokestatic 41, 3) := by decide +kernel
theorem dL_bent_221 : decode cL_bent 221 = .ok (.aload_n 0, 1) := by decide +kernel
theorem dL_bent_222 : decode cL_bent 222 = .ok (.iload 7, 2) := by decide +kernel
theorem dL_bent_224 : decode cL_bent 224 = .ok (.iconst 0, 1) := by decide +kernel
theorem dL_bent_225 : decode cL_bent 225 = .ok (.invokevirtual 25, 3) := by decide +kernel
theorem dL_bent_228 : decode cL_bent 228 = .ok (.aload_n 0, 1) := by decide +kernel
theorem dL_bent_229 : decode cL_bent 229 = .ok (.iload 7, 2) := by decide +kernel
theorem dL_bent_231 : decode cL_bent 231 = .ok (.iconst 1, 1) := by decide +kernel
theorem dL_bent_232 : decode cL_bent 232 = .ok (.isub, 1) := by decide +kernel
theorem dL_bent_233 : decode cL_bent 233 = .ok (.iconst 0, 1) := by decide +kernel
theorem dL_bent_234 : decode cL_bent 234 = .ok (.invokevirtual 25, 3) := by decide +kernel
theorem dL_bent_237 : decode cL_bent 237 = .ok (.isub, 1) := by decide +kernel
theorem dL_bent_238 : decode cL_bent 238 = .ok (.i2l, 1) := by decide +kernel
theorem dL_bent_239 : decode cL_bent 239 = .ok (.lmul, 1) := by decide +kernel
theorem dL_bent_240 : decode cL_bent 240 = .ok (.aload_n 0, 1) := by decide +kernel
theorem dL_bent_241 : decode cL_bent 241 = .ok (.iload_n 1, 1) := by decide +kernel
theorem dL_bent_242 : decode cL_bent 242 = .ok (.iload 7, 2) := by decide +kernel
theorem dL_bent_244 : decode cL_bent 244 = .ok (.iconst 1, 1) := by decide +kernel
theorem dL_bent_245 : decode cL_bent 245 = .ok (.isub, 1) := by decide +kernel
theorem dL_bent_246 : decode cL_bent 246 = .ok (.iconst 1, 1) := by decide +kernel
theorem dL_bent_247 : decode cL_bent 247 = .ok (.invokevirtual 21, 3) := by decide +kernel
theorem dL_bent_250 : decode cL_bent 250 = .ok (.lmul, 1) := by decide +kernel
theorem dL_bent_251 : decode cL_bent 251 = .ok (.lstore 13, 2) := by decide +kernel
theorem dL_bent_253 : decode cL_bent 253 = .ok (.iload 10, 2) := by decide +kernel
theorem dL_bent_255 : decode cL_bent 255 = .ok (.ifCond .eq 25, 3) := by decide +kernel
theorem dL_bent_258 : decode cL_bent 258 = .ok (.iload 4, 2) := by decide +kernel
theorem dL_bent_260 : decode cL_bent 260 = .ok (.i2l, 1) := by decide +kernel
theorem dL_bent_261 : decode cL_bent 261 = .ok (.lload 13, 2) := by decide +kernel
theorem dL_bent_263 : decode cL_bent 263 = .ok (.lload 11, 2) := by decide +kernel
theorem dL_bent_265 : decode cL_bent 265 = .ok (.lsub, 1) := by decide +kernel
theorem dL_bent_266 : decode cL_bent 266 = .ok (.lmul, 1) := by decide +kernel
theorem dL_bent_267 : decode cL_bent 267 = .ok (.lconst 0, 1) := by decide +kernel
theorem dL_bent_268 : decode cL_bent 268 = .ok (.lcmp, 1) := by decide +kernel
theorem dL_bent_269 : decode cL_bent 269 = .ok (.ifCond .le 7, 3) := by decide +kernel
theorem dL_bent_272 : decode cL_bent 272 = .ok (.iconst 1, 1) := by decide +kernel
theorem dL_bent_273 : decode cL_bent 273 = .ok (.goto 20, 3) := by decide +kernel
theorem dL_bent_276 : decode cL_bent 276 = .ok (.iconst 0, 1) := by decide +kernel
theorem dL_bent_277 : decode cL_bent 277 = .ok (.goto 16, 3) := by decide +kernel
theorem dL_bent_280 : decode cL_bent 280 = .ok (.lload 13, 2) := by decide +kernel
theorem dL_bent_282 : decode cL_bent 282 = .ok (.lload 11, 2) := by decide +kernel
theorem dL_bent_284 : decode cL_bent 284 = .ok (.lcmp, 1) := by decide +kernel
theorem dL_bent_285 : decode cL_bent 285 = .ok (.ifCond .ne 7, 3) := by decide +kernel
theorem dL_bent_288 : decode cL_bent 288 = .ok (.iconst 1, 1) := by decide +kernel
theorem dL_bent_289 : decode cL_bent 289 = .ok (.goto 4, 3) := by decide +kernel
theorem dL_bent_292 : decode cL_bent 292 = .ok (.iconst 0, 1) := by decide +kernel
theorem dL_bent_293 : decode cL_bent 293 = .ok (.istore 5, 2) := by decide +kernel
theorem dL_bent_295 : decode cL_bent 295 = .ok (.iload 6, 2) := by decide +kernel
theorem dL_bent_297 : decode cL_bent 297 = .ok (.iload 10, 2) := by decide +kernel
theorem dL_bent_299 : decode cL_bent 299 = .ok (.ifCond .eq 7, 3) := by decide +kernel
theorem dL_bent_302 : decode cL_bent 302 = .ok (.iconst 1, 1) := by decide +kernel
theorem dL_bent_303 : decode cL_bent 303 = .ok (.goto 4, 3) := by decide +kernel
theorem dL_bent_306 : decode cL_bent 306 = .ok (.iconst 0, 1) := by decide +kernel
theorem dL_bent_307 : decode cL_bent 307 = .ok (.iadd, 1) := by decide +kernel
theorem dL_bent_308 : decode cL_bent 308 = .ok (.istore 6, 2) := by decide +kernel
theorem dL_bent_310 : decode cL_bent 310 = .ok (.iinc 7 1, 3) := by decide +kernel
theorem dL_bent_313 : decode cL_bent 313 = .ok (.goto (-246), 3) := by decide +kernel
theorem dL_bent_316 : decode cL_bent 316 = .ok (.iload 5, 2) := by decide +kernel
theorem dL_bent_318 : decode cL_bent 318 = .ok (.ifCond .eq 13, 3) := by decide +kernel
theorem dL_bent_321 : decode cL_bent 321 = .ok (.iload 6, 2) := by decide +kernel
theorem dL_bent_323 : decode cL_bent 323 = .ok (.iload_n 3, 1) := by decide +kernel
theorem dL_bent_324 : decode cL_bent 324 = .ok (.if_icmp .ne 7, 3) := by decide +kernel
theorem dL_bent_327 : decode cL_bent 327 = .ok (.iconst 1, 1) := by decide +kernel
theorem dL_bent_328 : decode cL_bent 328 = .ok (.goto 4, 3) := by decide +kernel
theorem dL_bent_331 : decode cL_bent 331 = .ok (.iconst 0, 1) := by decide +kernel
theorem dL_bent_332 : decode cL_bent 332 = .ok (.ireturn, 1) := by decide +kernel
set_option maxRecDepth 20000 in
theorem ggL_gap_X7_gap : GoodIn wsL_gap wsX7_gap := goodIn_r _ [5, 6, 7, 8, 9, 10, 11, 12, 4, 13, 14, 15, 16, 17, 18, 19, 20, 21, 22, 23, 24, 25, 26, 27, 28, 29, 30, 31, 32, 33, 34, 35, 36, 37, 38, 39, 40, 41, 42, 43, 44, 45, 46, 47, 48, 49, 50, 51, 52, 53, 54, 55, 56, 57, 58, 59, 60, 61, 62, 63, 64, 65, 66, 67, 68, 69, 70, 71, 72, 73, 74, 75, 76, 77, 78, 79, 80, 81, 82, 83, 84, 85, 86, 87, 88, 89, 90, 91, 92, 93, 94, 95, 96, 97, 98, 99, 100, 101, 102, 103, 104, 105, 106, 107, 108, 109, 110, 111, 112, 199, 200, 201, 202, 203, 204, 205, 206, 207, 208, 209, 210, 211, 212, 213, 214, 215, 216] (by decide +kernel) (by decide +kernel)
set_option maxRecDepth 20000 in
theorem gL_gap_X7_gap : GoodIn wsL_gap (wsV RL 66 RX7 yX7_gap wsX7_gap) := goodIn_app (goodIn_of _ (by decide +kernel)) ggL_gap_X7_gap
set_option maxRecDepth 20000 in
theorem ggL_gap_X7_groups : GoodIn wsL_gap wsX7_groups := goodIn_r _ [116, 7, 14, 15, 16, 17, 18, 19, 199, 200, 201, 202, 203, 204, 205, 206, 207, 208, 209, 210, 211, 212] (by decide +kernel) (by decide +kernel)
set_option maxRecDepth 20000 in
theorem gL_gap_X7_groups : GoodIn wsL_gap (wsV RL 37 RX7 yX7_groups wsX7_groups) := goodIn_app (goodIn_of _ (by decide +kernel)) ggL_gap_X7_groups
set_option maxRecDepth 20000 in
theorem ggL_gap_X7_fit : GoodIn wsL_gap wsX7_fit := goodIn_r _ [120, 7, 6, 121, 11, 12, 4, 13, 122, 67, 68, 17, 69, 19, 123, 124, 125, 126, 127, 128, 129, 9, 10, 20, 21, 22, 23, 24, 25, 26, 27, 28, 15, 16, 18, 29, 30, 31, 32, 33, 34, 35, 36, 37, 38, 39, 40, 41, 42, 43, 44, 45, 46, 47, 48, 49, 50, 51, 52, 53, 54, 55, 56, 57, 58, 59, 60, 61, 62, 63, 64, 65, 66, 78, 79, 80, 81, 82, 83, 84, 85, 86, 87, 88, 89, 90, 91, 92, 93, 94, 95, 96, 97, 98, 103, 104, 105, 106, 107, 108, 109, 110, 111, 112, 130, 131, 132, 133, 134, 135, 136, 137, 138, 139, 140, 141, 142, 143, 144, 145, 146, 147, 148, 149, 150, 151, 152, 153, 154, 155, 156, 157, 158, 159, 160, 161, 162, 163, 164, 165, 166, 167, 168, 169, 170, 171, 172, 173, 174, 175, 176, 177, 178, 179, 180, 181, 182, 183, 184, 185, 186, 187, 188, 189, 190, 191, 199, 200, 201, 202, 203, 204, 205, 206, 207, 208, 209, 210, 211, 212, 213, 214, 215, 216, 217, 218, 219, 220, 221] (by decide +kernel) (by decide +kernel)
set_option maxRecDepth 20000 in
theorem gL_gap_X7_fit : GoodIn wsL_gap (wsV RL 21 RX7 yX7_fit wsX7_fit) := goodIn_app (goodIn_of _ (by decide +kernel)) ggL_gap_X7_fit
set_option maxRecDepth 20000 in
theorem ggL_gap_L_isLess : GoodIn wsL_gap wsL_isLess := goodIn_r _ [195, 196, 197, 194, 198] (by decide +kernel) (by decide +kernel)
set_option maxRecDepth 20000 in
theorem gL_gap_L_isLess : GoodIn wsL_gap (va_wsS RL 52 yL_isLess wsL_isLess) := goodIn_app (goodIn_of _ (by decide +kernel)) ggL_gap_L_isLess
theorem dL_gap_0 : decode cL_gap 0 = .ok (.aload_n 0, 1) := by decide +kernel
theorem dL_gap_1 : decode cL_gap 1 = .ok (.iconst 2, 1) := by decide +kernel
theorem dL_gap_2 : decode cL_gap 2 = .ok (.invokevirtual 66, 3) := by decide +kernel
theorem dL_gap_5 : decode cL_gap 5 = .ok (.l2i, 1) := by decide +kernel
theorem dL_gap_6 : decode cL_gap 6 = .ok (.istore_n 1, 1) := by decide +kernel
theorem dL_gap_7 : decode cL_gap 7 = .ok (.iload_n 1, 1) := by decide +kernel
theorem dL_gap_8 : decode cL_gap 8 = .ok (.ifCond .lt 15, 3) := by decide +kernel
theorem dL_gap_11 : decode cL_gap 11 = .ok (.iload_n 1, 1) := by decide +kernel
theorem dL_gap_12 : decode cL_gap 12 = .ok (.aload_n 0, 1) := by decide +kernel
theorem dL_gap_13 : decode cL_gap 13 = .ok (.invokevirtual 37, 3) := by decide +kernel
theorem dL_gap_16 : decode cL_gap 16 = .ok (.if_icmp .ge 7, 3) := by decide +kernel
theorem dL_gap_19 : decode cL_gap 19 = .ok (.iconst 1, 1) := by decide +kernel
theorem dL_gap_20 : decode cL_gap 20 = .ok (.goto 4, 3) := by decide +kernel
theorem dL_gap_23 : decode cL_gap 23 = .ok (.iconst 0, 1) := by decide +kernel
theorem dL_gap_24 : decode cL_gap 24 = .ok (.istore_n 2, 1) := by decide +kernel
theorem dL_gap_25 : decode cL_gap 25 = .ok (.iconst 0, 1) := by decide +kernel
theorem dL_gap_26 : decode cL_gap 26 = .ok (.istore_n 3, 1) := by decide +kernel
theorem dL_gap_27 : decode cL_gap 27 = .ok (.iload_n 3, 1) := by decide +kernel
theorem dL_gap_28 : decode cL_gap 28 = .ok (.aload_n 0, 1) := by decide +kernel
theorem dL_gap_29 : decode cL_gap 29 = .ok (.invokevirtual 37, 3) := by decide +kernel
theorem dL_gap_32 : decode cL_gap 32 = .ok (.if_icmp .ge 132, 3) := by decide +kernel
theorem dL_gap_35 : decode cL_gap 35 = .ok (.iload_n 2, 1) := by decide +kernel
theorem dL_gap_36 : decode cL_gap 36 = .ok (.ifCond .eq 128, 3) := by decide +kernel
theorem dL_gap_39 : decode cL_gap 39 = .ok (.aload_n 0, 1) := by decide +kernel
theorem dL_gap_40 : decode cL_gap 40 = .ok (.iconst 5, 1) := by decide +kernel
theorem dL_gap_41 : decode cL_gap 41 = .ok (.iload_n 3, 1) := by decide +kernel
theorem dL_gap_42 : decode cL_gap 42 = .ok (.iconst 0, 1) := by decide +kernel
theorem dL_gap_43 : decode cL_gap 43 = .ok (.invokevirtual 21, 3) := by decide +kernel
theorem dL_gap_46 : decode cL_gap 46 = .ok (.aload_n 0, 1) := by decide +kernel
theorem dL_gap_47 : decode cL_gap 47 = .ok (.iconst 4, 1) := by decide +kernel
theorem dL_gap_48 : decode cL_gap 48 = .ok (.iload_n 3, 1) := by decide +kernel
theorem dL_gap_49 : decode cL_gap 49 = .ok (.iconst 1, 1) := by decide +kernel
theorem dL_gap_50 : decode cL_gap 50 = .ok (.invokevirtual 21, 3) := by decide +kernel
theorem dL_gap_53 : decode cL_gap 53 = .ok (.lmul, 1) := by decide +kernel
theorem dL_gap_54 : decode cL_gap 54 = .ok (.aload_n 0, 1) := by decide +kernel
theorem dL_gap_55 : decode cL_gap 55 = .ok (.iconst 4, 1) := by decide +kernel
theorem dL_gap_56 : decode cL_gap 56 = .ok (.iload_n 3, 1) := by decide +kernel
theorem dL_gap_57 : decode cL_gap 57 = .ok (.iconst 0, 1) := by decide +kernel
theorem dL_gap_58 : decode cL_gap 58 = .ok (.invokevirtual 21, 3) := by decide +kernel
theorem dL_gap_61 : decode cL_gap 61 = .ok (.aload_n 0, 1) := by decide +kernel
theorem dL_gap_62 : decode cL_gap 62 = .ok (.iconst 5, 1) := by decide +kernel
theorem dL_gap_63 : decode cL_gap 63 = .ok (.iload_n 3, 1) := by decide +kernel
theorem dL_gap_64 : decode cL_gap 64 = .ok (.iconst 1, 1) := by decide +kernel
theorem dL_gap_65 : decode cL_gap 65 = .ok (.invokevirtual 21, 3) := by decide +kernel
theorem dL_gap_68 : decode cL_gap 68 = .ok (.lmul, 1) := by decide +kernel
theorem dL_gap_69 : decode cL_gap 69 = .ok (.lsub, 1) := by decide +kernel
theorem dL_gap_70 : decode cL_gap 70 = .ok (.lstore 4, 2) := by decide +kernel
theorem dL_gap_72 : decode cL_gap 72 = .ok (.aload_n 0, 1) := by decide +kernel
theorem dL_gap_73 : decode cL_gap 73 = .ok (.iconst 5, 1) := by decide +kernel
theorem dL_gap_74 : decode cL_gap 74 = .ok (.iload_n 3, 1) := by decide +kernel
theorem dL_gap_75 : decode cL_gap 75 = .ok (.iconst 1, 1) := by decide +kernel
theorem dL_gap_76 : decode cL_gap 76 = .ok (.invokevirtual 21, 3) := by decide +kernel
theorem dL_gap_79 : decode cL_gap 79 = .ok (.aload_n 0, 1) := by decide +kernel
theorem dL_gap_80 : decode cL_gap 80 = .ok (.iconst 4, 1) := by decide +kernel
theorem dL_gap_81 : decode cL_gap 81 = .ok (.iload_n 3, 1) := by decide +kernel
theorem dL_gap_82 : decode cL_gap 82 = .ok (.iconst 1, 1) := by decide +kernel
theorem dL_gap_83 : decode cL_gap 83 = .ok (.invokevirtual 21, 3) := by decide +kernel
theorem dL_gap_86 : decode cL_gap 86 = .ok (.lmul, 1) := by decide +kernel
theorem dL_gap_87 : decode cL_gap 87 = .ok (.lstore 6, 2) := by decide +kernel
theorem dL_gap_89 : decode cL_gap 89 = .ok (.lload 4, 2) := by decide +kernel
theorem dL_gap_91 : decode cL_gap 91 = .ok (.lload 6, 2) := by decide +kernel
theorem dL_gap_93 : decode cL_gap 93 = .ok (.aload_n 0, 1) := by decide +kernel
theorem dL_gap_94 : decode cL_gap 94 = .ok (.iconst 0, 1) := by decide +kernel
theorem dL_gap_95 : decode cL_gap 95 = .ok (.invokevirtual 66, 3) := by decide +kernel
theorem dL_gap_98 : decode cL_gap 98 = .ok (.aload_n 0, 1) := by decide +kernel
theorem dL_gap_99 : decode cL_gap 99 = .ok (.iconst 1, 1) := by decide +kernel
theorem dL_gap_100 : decode cL_gap 100 = .ok (.invokevirtual 66, 3) := by decide +kernel
theorem dL_gap_103 : decode cL_gap 103 = .ok (.invokestatic 52, 3) := by decide +kernel
theorem dL_gap_106 : decode cL_gap 106 = .ok (.istore 8, 2) := by decide +kernel
theorem dL_gap_108 : decode cL_gap 108 = .ok (.aload_n 0, 1) := by decide +kernel
theorem dL_gap_109 : decode cL_gap 109 = .ok (.iconst 0, 1) := by decide +kernel
theorem dL_gap_110 : decode cL_gap 110 = .ok (.invokevirtual 66, 3) := by decide +kernel
theorem dL_gap_113 : decode cL_gap 113 = .ok (.aload_n 0, 1) := by decide +kernel
theorem dL_gap_114 : decode cL_gap 114 = .ok (.iconst 1, 1) := by decide +kernel
theorem dL_gap_115 : decode cL_gap 115 = .ok (.invokevirtual 66, 3) := by decide +kernel
theorem dL_gap_118 : decode cL_gap 118 = .ok (.lload 4, 2) := by decide +kernel
theorem dL_gap_120 : decode cL_gap 120 = .ok (.lload 6, 2) := by decide +kernel
theorem dL_gap_122 : decode cL_gap 122 = .ok (.invokestatic 52, 3) := by decide +kernel
theorem dL_gap_125 : decode cL_gap 125 = .ok (.istore 9, 2) := by decide +kernel
theorem dL_gap_127 : decode cL_gap 127 = .ok (.iload 9, 2) := by decide +kernel
theorem dL_gap_129 : decode cL_gap 129 = .ok (.ifCond .ne 27, 3) := by decide +kernel
theorem dL_gap_132 : decode cL_gap 132 = .ok (.iload_n 3, 1) := by decide +kernel
theorem dL_gap_133 : decode cL_gap 133 = .ok (.iload_n 1, 1) := by decide +kernel
theorem dL_gap_134 : decode cL_gap 134 = .ok (.if_icmp .ne 8, 3) := by decide +kernel
theorem dL_gap_137 : decode cL_gap 137 = .ok (.iload 8, 2) := by decide +kernel
theorem dL_gap_139 : decode cL_gap 139 = .ok (.ifCond .ne 17, 3) := by decide +kernel
theorem dL_gap_142 : decode cL_gap 142 = .ok (.iload_n 3, 1) := by decide +kernel
theorem dL_gap_143 : decode cL_gap 143 = .ok (.iload_n 1, 1) := by decide +kernel
theorem dL_gap_144 : decode cL_gap 144 = .ok (.if_icmp .ge 8, 3) := by decide +kernel
theorem dL_gap_147 : decode cL_gap 147 = .ok (.iload 8, 2) := by decide +kernel
theorem dL_gap_149 : decode cL_gap 149 = .ok (.ifCond .eq 7, 3) := by decide +kernel
theorem dL_gap_152 : decode cL_gap 152 = .ok (.iconst 1, 1) := by decide +kernel
theorem dL_gap_153 : decode cL_gap 153 = .ok (.goto 4, 3) := by decide +kernel
theorem dL_gap_156 : decode cL_gap 156 = .ok (.iconst 0, 1) := by decide +kernel
theorem dL_gap_157 : decode cL_gap 157 = .ok (.istore_n 2, 1) := by decide +kernel
theorem dL_gap_158 : decode cL_gap 158 = .ok (.iinc 3 1, 3) := by decide +kernel
theorem dL_gap_161 : decode cL_gap 161 = .ok (.goto (-134), 3) := by decide +kernel
theorem dL_gap_164 : decode cL_gap 164 = .ok (.iload_n 2, 1) := by decide +kernel
theorem dL_gap_165 : decode cL_gap 165 = .ok (.ireturn, 1) := by decide +kernel
theorem dL_law_0 : decode cL_law 0 = .ok (.new 16, 3) := by decide +kernel
theorem dL_law_3 : decode cL_law 3 = .ok (.dup, 1) := by decide +kernel
theorem dL_law_4 : decode cL_law 4 = .ok (.invokespecial 70, 3) := by decide +kernel
theorem dL_law_7 : decode cL_law 7 = .ok (.astore_n 1, 1) := by decide +kernel
theorem dL_law_8 : decode cL_law 8 = .ok (.aload_n 1, 1) := by decide +kernel
theorem dL_law_9 : decode cL_law 9 = .ok (.iconst 2, 1) := by decide +kernel
theorem dL_law_10 : decode cL_law 10 = .ok (.invokevirtual 33, 3) := by decide +kernel
theorem dL_law_13 : decode cL_law 13 = .ok (.ldc 71, 2) := by decide +kernel
theorem dL_law_15 : decode cL_law 15 = .ok (.if_icmp .ne 35, 3) := by decide +kernel
theorem dL_law_18 : decode cL_law 18 = .ok (.aload_n 1, 1) := by decide +kernel
theorem dL_law_19 : decode cL_law 19 = .ok (.iconst 0, 1) := by decide +kernel
theorem dL_law_20 : decode cL_law 20 = .ok (.invokevirtual 66, 3) := by decide +kernel
theorem dL_law_23 : decode cL_law 23 = .ok (.ldc2_w 72, 3) := by decide +kernel
theorem dL_law_26 : decode cL_law 26 = .ok (.lcmp, 1) := by decide +kernel
theorem dL_law_27 : decode cL_law 27 = .ok (.ifCond .ne 23, 3) := by decide +kernel
theorem dL_law_30 : decode cL_law 30 = .ok (.aload_n 1, 1) := by decide +kernel
theorem dL_law_31 : decode cL_law 31 = .ok (.iconst 4, 1) := by decide +kernel
theorem dL_law_32 : decode cL_law 32 = .ok (.invokevirtual 56, 3) := by decide +kernel
theorem dL_law_35 : decode cL_law 35 = .ok (.ifCond .ne 15, 3) := by decide +kernel
theorem dL_law_38 : decode cL_law 38 = .ok (.aload_n 1, 1) := by decide +kernel
theorem dL_law_39 : decode cL_law 39 = .ok (.iconst 2, 1) := by decide +kernel
theorem dL_law_40 : decode cL_law 40 = .ok (.invokevirtual 74, 3) := by decide +kernel
theorem dL_law_43 : decode cL_law 43 = .ok (.ifCond .ne 7, 3) := by decide +kernel
theorem dL_law_46 : decode cL_law 46 = .ok (.iconst 1, 1) := by decide +kernel
theorem dL_law_47 : decode cL_law 47 = .ok (.goto 4, 3) := by decide +kernel
theorem dL_law_50 : decode cL_law 50 = .ok (.iconst 0, 1) := by decide +kernel
theorem dL_law_51 : decode cL_law 51 = .ok (.istore_n 2, 1) := by decide +kernel
theorem dL_law_52 : decode cL_law 52 = .ok (.iconst 0, 1) := by decide +kernel
theorem dL_law_53 : decode cL_law 53 = .ok (.istore_n 3, 1) := by decide +kernel
theorem dL_law_54 : decode cL_law 54 = .ok (.iload_n 3, 1) := by decide +kernel
theorem dL_law_55 : decode cL_law 55 = .ok (.iconst 4, 1) := by decide +kernel
theorem dL_law_56 : decode cL_law 56 = .ok (.if_icmp .ge 399, 3) := by decide +kernel
theorem dL_law_59 : decode cL_law 59 = .ok (.iload_n 2, 1) := by decide +kernel
theorem dL_law_60 : decode cL_law 60 = .ok (.ifCond .eq 395, 3) := by decide +kernel
theorem dL_law_63 : decode cL_law 63 = .ok (.aload_n 1, 1) := by decide +kernel
theorem dL_law_64 : decode cL_law 64 = .ok (.invokevirtual 77, 3) := by decide +kernel
theorem dL_law_67 : decode cL_law 67 = .ok (.ifCond .le 12, 3) := by decide +kernel
theorem dL_law_70 : decode cL_law 70 = .ok (.aload_n 1, 1) := by decide +kernel
theorem dL_law_71 : decode cL_law 71 = .ok (.iconst 0, 1) := by decide +kernel
theorem dL_law_72 : decode cL_law 72 = .ok (.invokevirtual 80, 3) := by decide +kernel
theorem dL_law_75 : decode cL_law 75 = .ok (.pop, 1) := by decide +kernel
theorem dL_law_76 : decode cL_law 76 = .ok (.goto (-13), 3) := by decide +kernel
theorem dL_law_79 : decode cL_law 79 = .ok (.aload_n 1, 1) := by decide +kernel
theorem dL_law_80 : decode cL_law 80 = .ok (.aload_n 0, 1) := by decide +kernel
theorem dL_law_81 : decode cL_law 81 = .ok (.bipush 12, 2) := by decide +kernel
theorem dL_law_83 : decode cL_law 83 = .ok (.iload_n 3, 1) := by decide +kernel
theorem dL_law_84 : decode cL_law 84 = .ok (.imul, 1) := by decide +kernel
theorem dL_law_85 : decode cL_law 85 = .ok (.iconst 2, 1) := by decide +kernel
theorem dL_law_86 : decode cL_law 86 = .ok (.aload_n 0, 1) := by decide +kernel
theorem dL_law_87 : decode cL_law 87 = .ok (.bipush 48, 2) := by decide +kernel
theorem dL_law_89 : decode cL_law 89 = .ok (.iload_n 3, 1) := by decide +kernel
theorem dL_law_90 : decode cL_law 90 = .ok (.iadd, 1) := by decide +kernel
theorem dL_law_91 : decode cL_law 91 = .ok (.invokestatic 9, 3) := by decide +kernel
theorem dL_law_94 : decode cL_law 94 = .ok (.bipush 11, 2) := by decide +kernel
theorem dL_law_96 : decode cL_law 96 = .ok (.irem, 1) := by decide +kernel
theorem dL_law_97 : decode cL_law 97 = .ok (.iadd, 1) := by decide +kernel
theorem dL_law_98 : decode cL_law 98 = .ok (.invokestatic 83, 3) := by decide +kernel
theorem dL_law_101 : decode cL_law 101 = .ok (.aload_n 1, 1) := by decide +kernel
theorem dL_law_102 : decode cL_law 102 = .ok (.iconst 2, 1) := by decide +kernel
theorem dL_law_103 : decode cL_law 103 = .ok (.invokestatic 87, 3) := by decide +kernel
theorem dL_law_106 : decode cL_law 106 = .ok (.ifCond .eq 38, 3) := by decide +kernel
theorem dL_law_109 : decode cL_law 109 = .ok (.aload_n 1, 1) := by decide +kernel
theorem dL_law_110 : decode cL_law 110 = .ok (.iconst 3, 1) := by decide +kernel
theorem dL_law_111 : decode cL_law 111 = .ok (.invokestatic 87, 3) := by decide +kernel
theorem dL_law_114 : decode cL_law 114 = .ok (.ifCond .eq 30, 3) := by decide +kernel
theorem dL_law_117 : decode cL_law 117 = .ok (.aload_n 1, 1) := by decide +kernel
theorem dL_law_118 : decode cL_law 118 = .ok (.iconst 4, 1) := by decide +kernel
theorem dL_law_119 : decode cL_law 119 = .ok (.invokestatic 91, 3) := by decide +kernel
theorem dL_law_122 : decode cL_law 122 = .ok (.ifCond .eq 22, 3) := by decide +kernel
theorem dL_law_125 : decode cL_law 125 = .ok (.aload_n 1, 1) := by decide +kernel
theorem dL_law_126 : decode cL_law 126 = .ok (.iconst 5, 1) := by decide +kernel
theorem dL_law_127 : decode cL_law 127 = .ok (.invokestatic 91, 3) := by decide +kernel
theorem dL_law_130 : decode cL_law 130 = .ok (.ifCond .eq 14, 3) := by decide +kernel
theorem dL_law_133 : decode cL_law 133 = .ok (.aload_n 1, 1) := by decide +kernel
theorem dL_law_134 : decode cL_law 134 = .ok (.invokestatic 94, 3) := by decide +kernel
theorem dL_law_137 : decode cL_law 137 = .ok (.ifCond .eq 7, 3) := by decide +kernel
theorem dL_law_140 : decode cL_law 140 = .ok (.iconst 1, 1) := by decide +kernel
theorem dL_law_141 : decode cL_law 141 = .ok (.goto 4, 3) := by decide +kernel
theorem dL_law_144 : decode cL_law 144 = .ok (.iconst 0, 1) := by decide +kernel
theorem dL_law_145 : decode cL_law 145 = .ok (.istore_n 2, 1) := by decide +kernel
theorem dL_law_146 : decode cL_law 146 = .ok (.aload_n 1, 1) := by decide +kernel
theorem dL_law_147 : decode cL_law 147 = .ok (.invokevirtual 37, 3) := by decide +kernel
theorem dL_law_150 : decode cL_law 150 = .ok (.istore 4, 2) := by decide +kernel
theorem dL_law_152 : decode cL_law 152 = .ok (.bipush 12, 2) := by decide +kernel
theorem dL_law_154 : decode cL_law 154 = .ok (.newarray .long, 2) := by decide +kernel
theorem dL_law_156 : decode cL_law 156 = .ok (.astore 5, 2) := by decide +kernel
theorem dL_law_158 : decode cL_law 158 = .ok (.iconst 0, 1) := by decide +kernel
theorem dL_law_159 : decode cL_law 159 = .ok (.istore 6, 2) := by decide +kernel
theorem dL_law_161 : decode cL_law 161 = .ok (.iload 6, 2) := by decide +kernel
theorem dL_law_163 : decode cL_law 163 = .ok (.iload 4, 2) := by decide +kernel
theorem dL_law_165 : decode cL_law 165 = .ok (.if_icmp .ge 48, 3) := by decide +kernel
theorem dL_law_168 : decode cL_law 168 = .ok (.aload 5, 2) := by decide +kernel
theorem dL_law_170 : decode cL_law 170 = .ok (.iload 6, 2) := by decide +kernel
theorem dL_law_172 : decode cL_law 172 = .ok (.aload_n 1, 1) := by decide +kernel
theorem dL_law_173 : decode cL_law 173 = .ok (.iconst 2, 1) := by decide +kernel
theorem dL_law_174 : decode cL_law 174 = .ok (.iload 6, 2) := by decide +kernel
theorem dL_law_176 : decode cL_law 176 = .ok (.iconst 0, 1) := by decide +kernel
theorem dL_law_177 : decode cL_law 177 = .ok (.invokevirtual 21, 3) := by decide +kernel
theorem dL_law_180 : decode cL_law 180 = .ok (.ldc2_w 97, 3) := by decide +kernel
theorem dL_law_183 : decode cL_law 183 = .ok (.aload_n 1, 1) := by decide +kernel
theorem dL_law_184 : decode cL_law 184 = .ok (.iconst 4, 1) := by decide +kernel
theorem dL_law_185 : decode cL_law 185 = .ok (.iload 6, 2) := by decide +kernel
theorem dL_law_187 : decode cL_law 187 = .ok (.iconst 0, 1) := by decide +kernel
theorem dL_law_188 : decode cL_law 188 = .ok (.invokevirtual 21, 3) := by decide +kernel
theorem dL_law_191 : decode cL_law 191 = .ok (.lmul, 1) := by decide +kernel
theorem dL_law_192 : decode cL_law 192 = .ok (.ladd, 1) := by decide +kernel
theorem dL_law_193 : decode cL_law 193 = .ok (.ldc2_w 99, 3) := by decide +kernel
theorem dL_law_196 : decode cL_law 196 = .ok (.aload_n 1, 1) := by decide +kernel
theorem dL_law_197 : decode cL_law 197 = .ok (.iconst 0, 1) := by decide +kernel
theorem dL_law_198 : decode cL_law 198 = .ok (.iload 6, 2) := by decide +kernel
theorem dL_law_200 : decode cL_law 200 = .ok (.iconst 0, 1) := by decide +kernel
theorem dL_law_201 : decode cL_law 201 = .ok (.invokevirtual 21, 3) := by decide +kernel
theorem dL_law_204 : decode cL_law 204 = .ok (.lmul, 1) := by decide +kernel
theorem dL_law_205 : decode cL_law 205 = .ok (.ladd, 1) := by decide +kernel
theorem dL_law_206 : decode cL_law 206 = .ok (.lastore, 1) := by decide +kernel
theorem dL_law_207 : decode cL_law 207 = .ok (.iinc 6 1, 3) := by decide +kernel
theorem dL_law_210 : decode cL_law 210 = .ok (.goto (-49), 3) := by decide +kernel
theorem dL_law_213 : decode cL_law 213 = .ok (.aload_n 1, 1) := by decide +kernel
theorem dL_law_214 : decode cL_law 214 = .ok (.iconst 2, 1) := by decide +kernel
theorem dL_law_215 : decode cL_law 215 = .ok (.invokevirtual 33, 3) := by decide +kernel
theorem dL_law_218 : decode cL_law 218 = .ok (.istore 6, 2) := by decide +kernel
theorem dL_law_220 : decode cL_law 220 = .ok (.iload_n 2, 1) := by decide +kernel
theorem dL_law_221 : decode cL_law 221 = .ok (.ifCond .eq 29, 3) := by decide +kernel
theorem dL_law_224 : decode cL_law 224 = .ok (.aload_n 1, 1) := by decide +kernel
theorem dL_law_225 : decode cL_law 225 = .ok (.iconst 1, 1) := by decide +kernel
theorem dL_law_226 : decode cL_law 226 = .ok (.invokevirtual 101, 3) := by decide +kernel
theorem dL_law_229 : decode cL_law 229 = .ok (.aload_n 1, 1) := by decide +kernel
theorem dL_law_230 : decode cL_law 230 = .ok (.invokevirtual 77, 3) := by decide +kernel
theorem dL_law_233 : decode cL_law 233 = .ok (.if_icmp .ne 17, 3) := by decide +kernel
theorem dL_law_236 : decode cL_law 236 = .ok (.aload_n 1, 1) := by decide +kernel
theorem dL_law_237 : decode cL_law 237 = .ok (.iconst 3, 1) := by decide +kernel
theorem dL_law_238 : decode cL_law 238 = .ok (.invokevirtual 33, 3) := by decide +kernel
theorem dL_law_241 : decode cL_law 241 = .ok (.iload 6, 2) := by decide +kernel
theorem dL_law_243 : decode cL_law 243 = .ok (.if_icmp .ne 7, 3) := by decide +kernel
theorem dL_law_246 : decode cL_law 246 = .ok (.iconst 1, 1) := by decide +kernel
theorem dL_law_247 : decode cL_law 247 = .ok (.goto 4, 3) := by decide +kernel
theorem dL_law_250 : decode cL_law 250 = .ok (.iconst 0, 1) := by decide +kernel
theorem dL_law_251 : decode cL_law 251 = .ok (.istore_n 2, 1) := by decide +kernel
theorem dL_law_252 : decode cL_law 252 = .ok (.iconst 0, 1) := by decide +kernel
theorem dL_law_253 : decode cL_law 253 = .ok (.istore 7, 2) := by decide +kernel
theorem dL_law_255 : decode cL_law 255 = .ok (.iload 7, 2) := by decide +kernel
theorem dL_law_257 : decode cL_law 257 = .ok (.iload 4, 2) := by decide +kernel
theorem dL_law_259 : decode cL_law 259 = .ok (.if_icmp .ge 63, 3) := by decide +kernel
theorem dL_law_262 : decode cL_law 262 = .ok (.iload_n 2, 1) := by decide +kernel
theorem dL_law_263 : decode cL_law 263 = .ok (.ifCond .eq 59, 3) := by decide +kernel
theorem dL_law_266 : decode cL_law 266 = .ok (.aload 5, 2) := by decide +kernel
theorem dL_law_268 : decode cL_law 268 = .ok (.iload 7, 2) := by decide +kernel
theorem dL_law_270 : decode cL_law 270 = .ok (.laload, 1) := by decide +kernel
theorem dL_law_271 : decode cL_law 271 = .ok (.aload_n 1, 1) := by decide +kernel
theorem dL_law_272 : decode cL_law 272 = .ok (.iconst 3, 1) := by decide +kernel
theorem dL_law_273 : decode cL_law 273 = .ok (.iload 7, 2) := by decide +kernel
theorem dL_law_275 : decode cL_law 275 = .ok (.iconst 0, 1) := by decide +kernel
theorem dL_law_276 : decode cL_law 276 = .ok (.invokevirtual 21, 3) := by decide +kernel
theorem dL_law_279 : decode cL_law 279 = .ok (.ldc2_w 97, 3) := by decide +kernel
theorem dL_law_282 : decode cL_law 282 = .ok (.aload_n 1, 1) := by decide +kernel
theorem dL_law_283 : decode cL_law 283 = .ok (.iconst 5, 1) := by decide +kernel
theorem dL_law_284 : decode cL_law 284 = .ok (.iload 7, 2) := by decide +kernel
theorem dL_law_286 : decode cL_law 286 = .ok (.iconst 0, 1) := by decide +kernel
theorem dL_law_287 : decode cL_law 287 = .ok (.invokevirtual 21, 3) := by decide +kernel
theorem dL_law_290 : decode cL_law 290 = .ok (.lmul, 1) := by decide +kernel
theorem dL_law_291 : decode cL_law 291 = .ok (.ladd, 1) := by decide +kernel
theorem dL_law_292 : decode cL_law 292 = .ok (.ldc2_w 99, 3) := by decide +kernel
theorem dL_law_295 : decode cL_law 295 = .ok (.aload_n 1, 1) := by decide +kernel
theorem dL_law_296 : decode cL_law 296 = .ok (.iconst 1, 1) := by decide +kernel
theorem dL_law_297 : decode cL_law 297 = .ok (.iload 7, 2) := by decide +kernel
theorem dL_law_299 : decode cL_law 299 = .ok (.iconst 0, 1) := by decide +kernel
theorem dL_law_300 : decode cL_law 300 = .ok (.invokevirtual 21, 3) := by decide +kernel
theorem dL_law_303 : decode cL_law 303 = .ok (.lmul, 1) := by decide +kernel
theorem dL_law_304 : decode cL_law 304 = .ok (.ladd, 1) := by decide +kernel
theorem dL_law_305 : decode cL_law 305 = .ok (.lneg, 1) := by decide +kernel
theorem dL_law_306 : decode cL_law 306 = .ok (.lcmp, 1) := by decide +kernel
theorem dL_law_307 : decode cL_law 307 = .ok (.ifCond .ne 7, 3) := by decide +kernel
theorem dL_law_310 : decode cL_law 310 = .ok (.iconst 1, 1) := by decide +kernel
theorem dL_law_311 : decode cL_law 311 = .ok (.goto 4, 3) := by decide +kernel
theorem dL_law_314 : decode cL_law 314 = .ok (.iconst 0, 1) := by decide +kernel
theorem dL_law_315 : decode cL_law 315 = .ok (.istore_n 2, 1) := by decide +kernel
theorem dL_law_316 : decode cL_law 316 = .ok (.iinc 7 1, 3) := by decide +kernel
theorem dL_law_319 : decode cL_law 319 = .ok (.goto (-64), 3) := by decide +kernel
theorem dL_law_322 : decode cL_law 322 = .ok (.iload_n 2, 1) := by decide +kernel
theorem dL_law_323 : decode cL_law 323 = .ok (.ifCond .eq 28, 3) := by decide +kernel
theorem dL_law_326 : decode cL_law 326 = .ok (.aload_n 1, 1) := by decide +kernel
theorem dL_law_327 : decode cL_law 327 = .ok (.iconst 0, 1) := by decide +kernel
theorem dL_law_328 : decode cL_law 328 = .ok (.invokevirtual 101, 3) := by decide +kernel
theorem dL_law_331 : decode cL_law 331 = .ok (.aload_n 1, 1) := by decide +kernel
theorem dL_law_332 : decode cL_law 332 = .ok (.invokevirtual 77, 3) := by decide +kernel
theorem dL_law_335 : decode cL_law 335 = .ok (.if_icmp .ne 16, 3) := by decide +kernel
theorem dL_law_338 : decode cL_law 338 = .ok (.aload_n 1, 1) := by decide +kernel
theorem dL_law_339 : decode cL_law 339 = .ok (.invokevirtual 37, 3) := by decide +kernel
theorem dL_law_342 : decode cL_law 342 = .ok (.iload 4, 2) := by decide +kernel
theorem dL_law_344 : decode cL_law 344 = .ok (.if_icmp .ne 7, 3) := by decide +kernel
theorem dL_law_347 : decode cL_law 347 = .ok (.iconst 1, 1) := by decide +kernel
theorem dL_law_348 : decode cL_law 348 = .ok (.goto 4, 3) := by decide +kernel
theorem dL_law_351 : decode cL_law 351 = .ok (.iconst 0, 1) := by decide +kernel
theorem dL_law_352 : decode cL_law 352 = .ok (.istore_n 2, 1) := by decide +kernel
theorem dL_law_353 : decode cL_law 353 = .ok (.iconst 0, 1) := by decide +kernel
theorem dL_law_354 : decode cL_law 354 = .ok (.istore 7, 2) := by decide +kernel
theorem dL_law_356 : decode cL_law 356 = .ok (.iload 7, 2) := by decide +kernel
theorem dL_law_358 : decode cL_law 358 = .ok (.iload 4, 2) := by decide +kernel
theorem dL_law_360 : decode cL_law 360 = .ok (.if_icmp .ge 55, 3) := by decide +kernel
theorem dL_law_363 : decode cL_law 363 = .ok (.iload_n 2, 1) := by decide +kernel
theorem dL_law_364 : decode cL_law 364 = .ok (.ifCond .eq 51, 3) := by decide +kernel
theorem dL_law_367 : decode cL_law 367 = .ok (.aload_n 1, 1) := by decide +kernel
theorem dL_law_368 : decode cL_law 368 = .ok (.iload 7, 2) := by decide +kernel
theorem dL_law_370 : decode cL_law 370 = .ok (.iconst 0, 1) := by decide +kernel
theorem dL_law_371 : decode cL_law 371 = .ok (.invokevirtual 25, 3) := by decide +kernel
theorem dL_law_374 : decode cL_law 374 = .ok (.bipush 15, 2) := by decide +kernel
theorem dL_law_376 : decode cL_law 376 = .ok (.if_icmp .le 31, 3) := by decide +kernel
theorem dL_law_379 : decode cL_law 379 = .ok (.iload 7, 2) := by decide +kernel
theorem dL_law_381 : decode cL_law 381 = .ok (.ifCond .eq 22, 3) := by decide +kernel
theorem dL_law_384 : decode cL_law 384 = .ok (.aload_n 1, 1) := by decide +kernel
theorem dL_law_385 : decode cL_law 385 = .ok (.iload 7, 2) := by decide +kernel
theorem dL_law_387 : decode cL_law 387 = .ok (.iconst 0, 1) := by decide +kernel
theorem dL_law_388 : decode cL_law 388 = .ok (.invokevirtual 25, 3) := by decide +kernel
theorem dL_law_391 : decode cL_law 391 = .ok (.aload_n 1, 1) := by decide +kernel
theorem dL_law_392 : decode cL_law 392 = .ok (.iload 7, 2) := by decide +kernel
theorem dL_law_394 : decode cL_law 394 = .ok (.iconst 1, 1) := by decide +kernel
theorem dL_law_395 : decode cL_law 395 = .ok (.isub, 1) := by decide +kernel
theorem dL_law_396 : decode cL_law 396 = .ok (.iconst 0, 1) := by decide +kernel
theorem dL_law_397 : decode cL_law 397 = .ok (.invokevirtual 25, 3) := by decide +kernel
theorem dL_law_400 : decode cL_law 400 = .ok (.if_icmp .le 7, 3) := by decide +kernel
theorem dL_law_403 : decode cL_law 403 = .ok (.iconst 1, 1) := by decide +kernel
theorem dL_law_404 : decode cL_law 404 = .ok (.goto 4, 3) := by decide +kernel
theorem dL_law_407 : decode cL_law 407 = .ok (.iconst 0, 1) := by decide +kernel
theorem dL_law_408 : decode cL_law 408 = .ok (.istore_n 2, 1) := by decide +kernel
theorem dL_law_409 : decode cL_law 409 = .ok (.iinc 7 1, 3) := by decide +kernel
theorem dL_law_412 : decode cL_law 412 = .ok (.goto (-56), 3) := by decide +kernel
theorem dL_law_415 : decode cL_law 415 = .ok (.iload_n 2, 1) := by decide +kernel
theorem dL_law_416 : decode cL_law 416 = .ok (.ifCond .eq 31, 3) := by decide +kernel
theorem dL_law_419 : decode cL_law 419 = .ok (.aload_n 1, 1) := by decide +kernel
theorem dL_law_420 : decode cL_law 420 = .ok (.invokevirtual 104, 3) := by decide +kernel
theorem dL_law_423 : decode cL_law 423 = .ok (.ifCond .lt 24, 3) := by decide +kernel
theorem dL_law_426 : decode cL_law 426 = .ok (.aload_n 1, 1) := by decide +kernel
theorem dL_law_427 : decode cL_law 427 = .ok (.invokevirtual 104, 3) := by decide +kernel
theorem dL_law_430 : decode cL_law 430 = .ok (.ifCond .lt 17, 3) := by decide +kernel
theorem dL_law_433 : decode cL_law 433 = .ok (.aload_n 1, 1) := by decide +kernel
theorem dL_law_434 : decode cL_law 434 = .ok (.iconst 2, 1) := by decide +kernel
theorem dL_law_435 : decode cL_law 435 = .ok (.invokevirtual 33, 3) := by decide +kernel
theorem dL_law_438 : decode cL_law 438 = .ok (.iload 6, 2) := by decide +kernel
theorem dL_law_440 : decode cL_law 440 = .ok (.if_icmp .ne 7, 3) := by decide +kernel
theorem dL_law_443 : decode cL_law 443 = .ok (.iconst 1, 1) := by decide +kernel
theorem dL_law_444 : decode cL_law 444 = .ok (.goto 4, 3) := by decide +kernel
theorem dL_law_447 : decode cL_law 447 = .ok (.iconst 0, 1) := by decide +kernel
theorem dL_law_448 : decode cL_law 448 = .ok (.istore_n 2, 1) := by decide +kernel
theorem dL_law_449 : decode cL_law 449 = .ok (.iinc 3 1, 3) := by decide +kernel
theorem dL_law_452 : decode cL_law 452 = .ok (.goto (-398), 3) := by decide +kernel
theorem dL_law_455 : decode cL_law 455 = .ok (.iload_n 2, 1) := by decide +kernel
theorem dL_law_456 : decode cL_law 456 = .ok (.ifCond .eq 64, 3) := by decide +kernel
theorem dL_law_459 : decode cL_law 459 = .ok (.aload_n 1, 1) := by decide +kernel
theorem dL_law_460 : decode cL_law 460 = .ok (.iconst 4, 1) := by decide +kernel
theorem dL_law_461 : decode cL_law 461 = .ok (.invokevirtual 33, 3) := by decide +kernel
theorem dL_law_464 : decode cL_law 464 = .ok (.ldc 107, 2) := by decide +kernel
theorem dL_law_466 : decode cL_law 466 = .ok (.if_icmp .ne 54, 3) := by decide +kernel
theorem dL_law_469 : decode cL_law 469 = .ok (.aload_n 1, 1) := by decide +kernel
theorem dL_law_470 : decode cL_law 470 = .ok (.iconst 3, 1) := by decide +kernel
theorem dL_law_471 : decode cL_law 471 = .ok (.invokevirtual 56, 3) := by decide +kernel
theorem dL_law_474 : decode cL_law 474 = .ok (.ldc 107, 2) := by decide +kernel
theorem dL_law_476 : decode cL_law 476 = .ok (.if_icmp .ne 44, 3) := by decide +kernel
theorem dL_law_479 : decode cL_law 479 = .ok (.aload_n 1, 1) := by decide +kernel
theorem dL_law_480 : decode cL_law 480 = .ok (.iconst 4, 1) := by decide +kernel
theorem dL_law_481 : decode cL_law 481 = .ok (.iconst (-1), 1) := by decide +kernel
theorem dL_law_482 : decode cL_law 482 = .ok (.invokevirtual 59, 3) := by decide +kernel
theorem dL_law_485 : decode cL_law 485 = .ok (.ldc 107, 2) := by decide +kernel
theorem dL_law_487 : decode cL_law 487 = .ok (.if_icmp .ne 33, 3) := by decide +kernel
theorem dL_law_490 : decode cL_law 490 = .ok (.aload_n 1, 1) := by decide +kernel
theorem dL_law_491 : decode cL_law 491 = .ok (.iconst 3, 1) := by decide +kernel
theorem dL_law_492 : decode cL_law 492 = .ok (.invokevirtual 66, 3) := by decide +kernel
theorem dL_law_495 : decode cL_law 495 = .ok (.ldc2_w 108, 3) := by decide +kernel
theorem dL_law_498 : decode cL_law 498 = .ok (.lcmp, 1) := by decide +kernel
theorem dL_law_499 : decode cL_law 499 = .ok (.ifCond .ne 21, 3) := by decide +kernel
theorem dL_law_502 : decode cL_law 502 = .ok (.aload_n 1, 1) := by decide +kernel
theorem dL_law_503 : decode cL_law 503 = .ok (.iconst 4, 1) := by decide +kernel
theorem dL_law_504 : decode cL_law 504 = .ok (.iconst 0, 1) := by decide +kernel
theorem dL_law_505 : decode cL_law 505 = .ok (.iconst 2, 1) := by decide +kernel
theorem dL_law_506 : decode cL_law 506 = .ok (.invokevirtual 21, 3) := by decide +kernel
theorem dL_law_509 : decode cL_law 509 = .ok (.ldc2_w 108, 3) := by decide +kernel
theorem dL_law_512 : decode cL_law 512 = .ok (.lcmp, 1) := by decide +kernel
theorem dL_law_513 : decode cL_law 513 = .ok (.ifCond .ne 7, 3) := by decide +kernel
theorem dL_law_516 : decode cL_law 516 = .ok (.iconst 1, 1) := by decide +kernel
theorem dL_law_517 : decode cL_law 517 = .ok (.goto 4, 3) := by decide +kernel
theorem dL_law_520 : decode cL_law 520 = .ok (.iconst 0, 1) := by decide +kernel
theorem dL_law_521 : decode cL_law 521 = .ok (.ireturn, 1) := by decide +kernel
