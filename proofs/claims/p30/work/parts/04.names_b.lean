theorem dX5_init_0 : decode cX5_init 0 = .ok (.aload_n 0, 1) := by decide +kernel
theorem dX5_init_1 : decode cX5_init 1 = .ok (.invokespecial 3, 3) := by decide +kernel
theorem dX5_init_4 : decode cX5_init 4 = .ok (.aload_n 0, 1) := by decide +kernel
theorem dX5_init_5 : decode cX5_init 5 = .ok (.bipush 12, 2) := by decide +kernel
theorem dX5_init_7 : decode cX5_init 7 = .ok (.newarray .int, 2) := by decide +kernel
theorem dX5_init_9 : decode cX5_init 9 = .ok (.putfield 9, 3) := by decide +kernel
theorem dX5_init_12 : decode cX5_init 12 = .ok (.aload_n 0, 1) := by decide +kernel
theorem dX5_init_13 : decode cX5_init 13 = .ok (.bipush 12, 2) := by decide +kernel
theorem dX5_init_15 : decode cX5_init 15 = .ok (.newarray .int, 2) := by decide +kernel
theorem dX5_init_17 : decode cX5_init 17 = .ok (.putfield 15, 3) := by decide +kernel
theorem dX5_init_20 : decode cX5_init 20 = .ok (.aload_n 0, 1) := by decide +kernel
theorem dX5_init_21 : decode cX5_init 21 = .ok (.bipush 12, 2) := by decide +kernel
theorem dX5_init_23 : decode cX5_init 23 = .ok (.newarray .int, 2) := by decide +kernel
theorem dX5_init_25 : decode cX5_init 25 = .ok (.putfield 18, 3) := by decide +kernel
theorem dX5_init_28 : decode cX5_init 28 = .ok (.return_, 1) := by decide +kernel
theorem dX5_size_0 : decode cX5_size 0 = .ok (.aload_n 0, 1) := by decide +kernel
theorem dX5_size_1 : decode cX5_size 1 = .ok (.getfield 21, 3) := by decide +kernel
theorem dX5_size_4 : decode cX5_size 4 = .ok (.ireturn, 1) := by decide +kernel
theorem dX5_has_0 : decode cX5_has 0 = .ok (.iload_n 1, 1) := by decide +kernel
theorem dX5_has_1 : decode cX5_has 1 = .ok (.ifCond .lt 15, 3) := by decide +kernel
theorem dX5_has_4 : decode cX5_has 4 = .ok (.iload_n 1, 1) := by decide +kernel
theorem dX5_has_5 : decode cX5_has 5 = .ok (.aload_n 0, 1) := by decide +kernel
theorem dX5_has_6 : decode cX5_has 6 = .ok (.getfield 21, 3) := by decide +kernel
theorem dX5_has_9 : decode cX5_has 9 = .ok (.if_icmp .ge 7, 3) := by decide +kernel
theorem dX5_has_12 : decode cX5_has 12 = .ok (.iconst 1, 1) := by decide +kernel
theorem dX5_has_13 : decode cX5_has 13 = .ok (.goto 4, 3) := by decide +kernel
theorem dX5_has_16 : decode cX5_has 16 = .ok (.iconst 0, 1) := by decide +kernel
theorem dX5_has_17 : decode cX5_has 17 = .ok (.ireturn, 1) := by decide +kernel
set_option maxRecDepth 20000 in
theorem ggX5_positionOf_X5_has : GoodIn wsX5_positionOf wsX5_has := goodIn_r _ [6, 7, 8, 9, 10, 11] (by decide +kernel) (by decide +kernel)
set_option maxRecDepth 20000 in
theorem gX5_positionOf_X5_has : GoodIn wsX5_positionOf (wsV RX5 25 RX5 yX5_has wsX5_has) := goodIn_app (goodIn_of _ (by decide +kernel)) ggX5_positionOf_X5_has
theorem dX5_positionOf_0 : decode cX5_positionOf 0 = .ok (.aload_n 0, 1) := by decide +kernel
theorem dX5_positionOf_1 : decode cX5_positionOf 1 = .ok (.iload_n 1, 1) := by decide +kernel
theorem dX5_positionOf_2 : decode cX5_positionOf 2 = .ok (.invokevirtual 25, 3) := by decide +kernel
theorem dX5_positionOf_5 : decode cX5_positionOf 5 = .ok (.ifCond .eq 12, 3) := by decide +kernel
theorem dX5_positionOf_8 : decode cX5_positionOf 8 = .ok (.aload_n 0, 1) := by decide +kernel
theorem dX5_positionOf_9 : decode cX5_positionOf 9 = .ok (.getfield 9, 3) := by decide +kernel
theorem dX5_positionOf_12 : decode cX5_positionOf 12 = .ok (.iload_n 1, 1) := by decide +kernel
theorem dX5_positionOf_13 : decode cX5_positionOf 13 = .ok (.iaload, 1) := by decide +kernel
theorem dX5_positionOf_14 : decode cX5_positionOf 14 = .ok (.goto 4, 3) := by decide +kernel
theorem dX5_positionOf_17 : decode cX5_positionOf 17 = .ok (.iconst 0, 1) := by decide +kernel
theorem dX5_positionOf_18 : decode cX5_positionOf 18 = .ok (.ireturn, 1) := by decide +kernel
set_option maxRecDepth 20000 in
theorem ggX5_valueOf_X5_has : GoodIn wsX5_valueOf wsX5_has := goodIn_r _ [6, 7, 8, 9, 10, 11] (by decide +kernel) (by decide +kernel)
set_option maxRecDepth 20000 in
theorem gX5_valueOf_X5_has : GoodIn wsX5_valueOf (wsV RX5 25 RX5 yX5_has wsX5_has) := goodIn_app (goodIn_of _ (by decide +kernel)) ggX5_valueOf_X5_has
theorem dX5_valueOf_0 : decode cX5_valueOf 0 = .ok (.aload_n 0, 1) := by decide +kernel
theorem dX5_valueOf_1 : decode cX5_valueOf 1 = .ok (.iload_n 1, 1) := by decide +kernel
theorem dX5_valueOf_2 : decode cX5_valueOf 2 = .ok (.invokevirtual 25, 3) := by decide +kernel
theorem dX5_valueOf_5 : decode cX5_valueOf 5 = .ok (.ifCond .eq 12, 3) := by decide +kernel
theorem dX5_valueOf_8 : decode cX5_valueOf 8 = .ok (.aload_n 0, 1) := by decide +kernel
theorem dX5_valueOf_9 : decode cX5_valueOf 9 = .ok (.getfield 15, 3) := by decide +kernel
theorem dX5_valueOf_12 : decode cX5_valueOf 12 = .ok (.iload_n 1, 1) := by decide +kernel
theorem dX5_valueOf_13 : decode cX5_valueOf 13 = .ok (.iaload, 1) := by decide +kernel
theorem dX5_valueOf_14 : decode cX5_valueOf 14 = .ok (.goto 4, 3) := by decide +kernel
theorem dX5_valueOf_17 : decode cX5_valueOf 17 = .ok (.iconst 0, 1) := by decide +kernel
theorem dX5_valueOf_18 : decode cX5_valueOf 18 = .ok (.ireturn, 1) := by decide +kernel
set_option maxRecDepth 20000 in
theorem ggX5_weightOf_X5_has : GoodIn wsX5_weightOf wsX5_has := goodIn_r _ [6, 7, 8, 9, 10, 11] (by decide +kernel) (by decide +kernel)
set_option maxRecDepth 20000 in
theorem gX5_weightOf_X5_has : GoodIn wsX5_weightOf (wsV RX5 25 RX5 yX5_has wsX5_has) := goodIn_app (goodIn_of _ (by decide +kernel)) ggX5_weightOf_X5_has
theorem dX5_weightOf_0 : decode cX5_weightOf 0 = .ok (.aload_n 0, 1) := by decide +kernel
theorem dX5_weightOf_1 : decode cX5_weightOf 1 = .ok (.iload_n 1, 1) := by decide +kernel
theorem dX5_weightOf_2 : decode cX5_weightOf 2 = .ok (.invokevirtual 25, 3) := by decide +kernel
theorem dX5_weightOf_5 : decode cX5_weightOf 5 = .ok (.ifCond .eq 12, 3) := by decide +kernel
theorem dX5_weightOf_8 : decode cX5_weightOf 8 = .ok (.aload_n 0, 1) := by decide +kernel
theorem dX5_weightOf_9 : decode cX5_weightOf 9 = .ok (.getfield 18, 3) := by decide +kernel
theorem dX5_weightOf_12 : decode cX5_weightOf 12 = .ok (.iload_n 1, 1) := by decide +kernel
theorem dX5_weightOf_13 : decode cX5_weightOf 13 = .ok (.iaload, 1) := by decide +kernel
theorem dX5_weightOf_14 : decode cX5_weightOf 14 = .ok (.goto 4, 3) := by decide +kernel
theorem dX5_weightOf_17 : decode cX5_weightOf 17 = .ok (.iconst 0, 1) := by decide +kernel
theorem dX5_weightOf_18 : decode cX5_weightOf 18 = .ok (.ireturn, 1) := by decide +kernel
theorem dX5_positionBehind_0 : decode cX5_positionBehind 0 = .ok (.iconst (-1), 1) := by decide +kernel
theorem dX5_positionBehind_1 : decode cX5_positionBehind 1 = .ok (.istore_n 2, 1) := by decide +kernel
theorem dX5_positionBehind_2 : decode cX5_positionBehind 2 = .ok (.iconst 0, 1) := by decide +kernel
theorem dX5_positionBehind_3 : decode cX5_positionBehind 3 = .ok (.istore_n 3, 1) := by decide +kernel
theorem dX5_positionBehind_4 : decode cX5_positionBehind 4 = .ok (.iload_n 3, 1) := by decide +kernel
theorem dX5_positionBehind_5 : decode cX5_positionBehind 5 = .ok (.aload_n 0, 1) := by decide +kernel
theorem dX5_positionBehind_6 : decode cX5_positionBehind 6 = .ok (.getfield 21, 3) := by decide +kernel
theorem dX5_positionBehind_9 : decode cX5_positionBehind 9 = .ok (.if_icmp .ge 37, 3) := by decide +kernel
theorem dX5_positionBehind_12 : decode cX5_positionBehind 12 = .ok (.aload_n 0, 1) := by decide +kernel
theorem dX5_positionBehind_13 : decode cX5_positionBehind 13 = .ok (.getfield 9, 3) := by decide +kernel
theorem dX5_positionBehind_16 : decode cX5_positionBehind 16 = .ok (.iload_n 3, 1) := by decide +kernel
theorem dX5_positionBehind_17 : decode cX5_positionBehind 17 = .ok (.iaload, 1) := by decide +kernel
theorem dX5_positionBehind_18 : decode cX5_positionBehind 18 = .ok (.istore 4, 2) := by decide +kernel
theorem dX5_positionBehind_20 : decode cX5_positionBehind 20 = .ok (.iload 4, 2) := by decide +kernel
theorem dX5_positionBehind_22 : decode cX5_positionBehind 22 = .ok (.iload_n 1, 1) := by decide +kernel
theorem dX5_positionBehind_23 : decode cX5_positionBehind 23 = .ok (.if_icmp .le 17, 3) := by decide +kernel
theorem dX5_positionBehind_26 : decode cX5_positionBehind 26 = .ok (.iload_n 2, 1) := by decide +kernel
theorem dX5_positionBehind_27 : decode cX5_positionBehind 27 = .ok (.iconst (-1), 1) := by decide +kernel
theorem dX5_positionBehind_28 : decode cX5_positionBehind 28 = .ok (.if_icmp .eq 9, 3) := by decide +kernel
theorem dX5_positionBehind_31 : decode cX5_positionBehind 31 = .ok (.iload 4, 2) := by decide +kernel
theorem dX5_positionBehind_33 : decode cX5_positionBehind 33 = .ok (.iload_n 2, 1) := by decide +kernel
theorem dX5_positionBehind_34 : decode cX5_positionBehind 34 = .ok (.if_icmp .ge 6, 3) := by decide +kernel
theorem dX5_positionBehind_37 : decode cX5_positionBehind 37 = .ok (.iload 4, 2) := by decide +kernel
theorem dX5_positionBehind_39 : decode cX5_positionBehind 39 = .ok (.istore_n 2, 1) := by decide +kernel
theorem dX5_positionBehind_40 : decode cX5_positionBehind 40 = .ok (.iinc 3 1, 3) := by decide +kernel
theorem dX5_positionBehind_43 : decode cX5_positionBehind 43 = .ok (.goto (-39), 3) := by decide +kernel
theorem dX5_positionBehind_46 : decode cX5_positionBehind 46 = .ok (.iload_n 2, 1) := by decide +kernel
theorem dX5_positionBehind_47 : decode cX5_positionBehind 47 = .ok (.ireturn, 1) := by decide +kernel
theorem dX5_empty_0 : decode cX5_empty 0 = .ok (.aload_n 0, 1) := by decide +kernel
theorem dX5_empty_1 : decode cX5_empty 1 = .ok (.iconst 0, 1) := by decide +kernel
theorem dX5_empty_2 : decode cX5_empty 2 = .ok (.putfield 21, 3) := by decide +kernel
theorem dX5_empty_5 : decode cX5_empty 5 = .ok (.return_, 1) := by decide +kernel
theorem dX5_append_0 : decode cX5_append 0 = .ok (.aload_n 0, 1) := by decide +kernel
theorem dX5_append_1 : decode cX5_append 1 = .ok (.getfield 21, 3) := by decide +kernel
theorem dX5_append_4 : decode cX5_append 4 = .ok (.bipush 12, 2) := by decide +kernel
theorem dX5_append_6 : decode cX5_append 6 = .ok (.if_icmp .lt 4, 3) := by decide +kernel
theorem dX5_append_9 : decode cX5_append 9 = .ok (.return_, 1) := by decide +kernel
theorem dX5_append_10 : decode cX5_append 10 = .ok (.aload_n 0, 1) := by decide +kernel
theorem dX5_append_11 : decode cX5_append 11 = .ok (.getfield 9, 3) := by decide +kernel
theorem dX5_append_14 : decode cX5_append 14 = .ok (.aload_n 0, 1) := by decide +kernel
theorem dX5_append_15 : decode cX5_append 15 = .ok (.getfield 21, 3) := by decide +kernel
theorem dX5_append_18 : decode cX5_append 18 = .ok (.iload_n 1, 1) := by decide +kernel
theorem dX5_append_19 : decode cX5_append 19 = .ok (.iastore, 1) := by decide +kernel
theorem dX5_append_20 : decode cX5_append 20 = .ok (.aload_n 0, 1) := by decide +kernel
theorem dX5_append_21 : decode cX5_append 21 = .ok (.getfield 15, 3) := by decide +kernel
theorem dX5_append_24 : decode cX5_append 24 = .ok (.aload_n 0, 1) := by decide +kernel
theorem dX5_append_25 : decode cX5_append 25 = .ok (.getfield 21, 3) := by decide +kernel
theorem dX5_append_28 : decode cX5_append 28 = .ok (.iload_n 2, 1) := by decide +kernel
theorem dX5_append_29 : decode cX5_append 29 = .ok (.iastore, 1) := by decide +kernel
theorem dX5_append_30 : decode cX5_append 30 = .ok (.aload_n 0, 1) := by decide +kernel
theorem dX5_append_31 : decode cX5_append 31 = .ok (.getfield 18, 3) := by decide +kernel
theorem dX5_append_34 : decode cX5_append 34 = .ok (.aload_n 0, 1) := by decide +kernel
theorem dX5_append_35 : decode cX5_append 35 = .ok (.getfield 21, 3) := by decide +kernel
theorem dX5_append_38 : decode cX5_append 38 = .ok (.iload_n 3, 1) := by decide +kernel
theorem dX5_append_39 : decode cX5_append 39 = .ok (.iastore, 1) := by decide +kernel
theorem dX5_append_40 : decode cX5_append 40 = .ok (.aload_n 0, 1) := by decide +kernel
theorem dX5_append_41 : decode cX5_append 41 = .ok (.dup, 1) := by decide +kernel
theorem dX5_append_42 : decode cX5_append 42 = .ok (.getfield 21, 3) := by decide +kernel
theorem dX5_append_45 : decode cX5_append 45 = .ok (.iconst 1, 1) := by decide +kernel
theorem dX5_append_46 : decode cX5_append 46 = .ok (.iadd, 1) := by decide +kernel
theorem dX5_append_47 : decode cX5_append 47 = .ok (.putfield 21, 3) := by decide +kernel
theorem dX5_append_50 : decode cX5_append 50 = .ok (.return_, 1) := by decide +kernel
set_option maxRecDepth 20000 in
theorem ggX5_drop_X5_has : GoodIn wsX5_drop wsX5_has := goodIn_r _ [9, 1, 10, 11, 12, 13] (by decide +kernel) (by decide +kernel)
set_option maxRecDepth 20000 in
theorem gX5_drop_X5_has : GoodIn wsX5_drop (wsV RX5 25 RX5 yX5_has wsX5_has) := goodIn_app (goodIn_of _ (by decide +kernel)) ggX5_drop_X5_has
theorem dX5_drop_0 : decode cX5_drop 0 = .ok (.aload_n 0, 1) := by decide +kernel
theorem dX5_drop_1 : decode cX5_drop 1 = .ok (.iload_n 1, 1) := by decide +kernel
theorem dX5_drop_2 : decode cX5_drop 2 = .ok (.invokevirtual 25, 3) := by decide +kernel
theorem dX5_drop_5 : decode cX5_drop 5 = .ok (.ifCond .ne 4, 3) := by decide +kernel
theorem dX5_drop_8 : decode cX5_drop 8 = .ok (.return_, 1) := by decide +kernel
theorem dX5_drop_9 : decode cX5_drop 9 = .ok (.iload_n 1, 1) := by decide +kernel
theorem dX5_drop_10 : decode cX5_drop 10 = .ok (.iconst 1, 1) := by decide +kernel
theorem dX5_drop_11 : decode cX5_drop 11 = .ok (.iadd, 1) := by decide +kernel
theorem dX5_drop_12 : decode cX5_drop 12 = .ok (.istore_n 2, 1) := by decide +kernel
theorem dX5_drop_13 : decode cX5_drop 13 = .ok (.iload_n 2, 1) := by decide +kernel
theorem dX5_drop_14 : decode cX5_drop 14 = .ok (.aload_n 0, 1) := by decide +kernel
theorem dX5_drop_15 : decode cX5_drop 15 = .ok (.getfield 21, 3) := by decide +kernel
theorem dX5_drop_18 : decode cX5_drop 18 = .ok (.if_icmp .ge 51, 3) := by decide +kernel
theorem dX5_drop_21 : decode cX5_drop 21 = .ok (.aload_n 0, 1) := by decide +kernel
theorem dX5_drop_22 : decode cX5_drop 22 = .ok (.getfield 9, 3) := by decide +kernel
theorem dX5_drop_25 : decode cX5_drop 25 = .ok (.iload_n 2, 1) := by decide +kernel
theorem dX5_drop_26 : decode cX5_drop 26 = .ok (.iconst 1, 1) := by decide +kernel
theorem dX5_drop_27 : decode cX5_drop 27 = .ok (.isub, 1) := by decide +kernel
theorem dX5_drop_28 : decode cX5_drop 28 = .ok (.aload_n 0, 1) := by decide +kernel
theorem dX5_drop_29 : decode cX5_drop 29 = .ok (.getfield 9, 3) := by decide +kernel
theorem dX5_drop_32 : decode cX5_drop 32 = .ok (.iload_n 2, 1) := by decide +kernel
theorem dX5_drop_33 : decode cX5_drop 33 = .ok (.iaload, 1) := by decide +kernel
theorem dX5_drop_34 : decode cX5_drop 34 = .ok (.iastore, 1) := by decide +kernel
theorem dX5_drop_35 : decode cX5_drop 35 = .ok (.aload_n 0, 1) := by decide +kernel
theorem dX5_drop_36 : decode cX5_drop 36 = .ok (.getfield 15, 3) := by decide +kernel
theorem dX5_drop_39 : decode cX5_drop 39 = .ok (.iload_n 2, 1) := by decide +kernel
theorem dX5_drop_40 : decode cX5_drop 40 = .ok (.iconst 1, 1) := by decide +kernel
theorem dX5_drop_41 : decode cX5_drop 41 = .ok (.isub, 1) := by decide +kernel
theorem dX5_drop_42 : decode cX5_drop 42 = .ok (.aload_n 0, 1) := by decide +kernel
theorem dX5_drop_43 : decode cX5_drop 43 = .ok (.getfield 15, 3) := by decide +kernel
theorem dX5_drop_46 : decode cX5_drop 46 = .ok (.iload_n 2, 1) := by decide +kernel
theorem dX5_drop_47 : decode cX5_drop 47 = .ok (.iaload, 1) := by decide +kernel
theorem dX5_drop_48 : decode cX5_drop 48 = .ok (.iastore, 1) := by decide +kernel
theorem dX5_drop_49 : decode cX5_drop 49 = .ok (.aload_n 0, 1) := by decide +kernel
theorem dX5_drop_50 : decode cX5_drop 50 = .ok (.getfield 18, 3) := by decide +kernel
theorem dX5_drop_53 : decode cX5_drop 53 = .ok (.iload_n 2, 1) := by decide +kernel
theorem dX5_drop_54 : decode cX5_drop 54 = .ok (.iconst 1, 1) := by decide +kernel
theorem dX5_drop_55 : decode cX5_drop 55 = .ok (.isub, 1) := by decide +kernel
theorem dX5_drop_56 : decode cX5_drop 56 = .ok (.aload_n 0, 1) := by decide +kernel
theorem dX5_drop_57 : decode cX5_drop 57 = .ok (.getfield 18, 3) := by decide +kernel
theorem dX5_drop_60 : decode cX5_drop 60 = .ok (.iload_n 2, 1) := by decide +kernel
theorem dX5_drop_61 : decode cX5_drop 61 = .ok (.iaload, 1) := by decide +kernel
theorem dX5_drop_62 : decode cX5_drop 62 = .ok (.iastore, 1) := by decide +kernel
theorem dX5_drop_63 : decode cX5_drop 63 = .ok (.iinc 2 1, 3) := by decide +kernel
theorem dX5_drop_66 : decode cX5_drop 66 = .ok (.goto (-53), 3) := by decide +kernel
theorem dX5_drop_69 : decode cX5_drop 69 = .ok (.aload_n 0, 1) := by decide +kernel
theorem dX5_drop_70 : decode cX5_drop 70 = .ok (.dup, 1) := by decide +kernel
theorem dX5_drop_71 : decode cX5_drop 71 = .ok (.getfield 21, 3) := by decide +kernel
theorem dX5_drop_74 : decode cX5_drop 74 = .ok (.iconst 1, 1) := by decide +kernel
theorem dX5_drop_75 : decode cX5_drop 75 = .ok (.isub, 1) := by decide +kernel
theorem dX5_drop_76 : decode cX5_drop 76 = .ok (.putfield 21, 3) := by decide +kernel
theorem dX5_drop_79 : decode cX5_drop 79 = .ok (.return_, 1) := by decide +kernel
theorem dX5_mirrorPositions_0 : decode cX5_mirrorPositions 0 = .ok (.iconst 0, 1) := by decide +kernel
theorem dX5_mirrorPositions_1 : decode cX5_mirrorPositions 1 = .ok (.istore_n 1, 1) := by decide +kernel
theorem dX5_mirrorPositions_2 : decode cX5_mirrorPositions 2 = .ok (.iload_n 1, 1) := by decide +kernel
theorem dX5_mirrorPositions_3 : decode cX5_mirrorPositions 3 = .ok (.aload_n 0, 1) := by decide +kernel
theorem dX5_mirrorPositions_4 : decode cX5_mirrorPositions 4 = .ok (.getfield 21, 3) := by decide +kernel
theorem dX5_mirrorPositions_7 : decode cX5_mirrorPositions 7 = .ok (.if_icmp .ge 24, 3) := by decide +kernel
theorem dX5_mirrorPositions_10 : decode cX5_mirrorPositions 10 = .ok (.aload_n 0, 1) := by decide +kernel
theorem dX5_mirrorPositions_11 : decode cX5_mirrorPositions 11 = .ok (.getfield 9, 3) := by decide +kernel
theorem dX5_mirrorPositions_14 : decode cX5_mirrorPositions 14 = .ok (.iload_n 1, 1) := by decide +kernel
theorem dX5_mirrorPositions_15 : decode cX5_mirrorPositions 15 = .ok (.bipush 40, 2) := by decide +kernel
theorem dX5_mirrorPositions_17 : decode cX5_mirrorPositions 17 = .ok (.aload_n 0, 1) := by decide +kernel
theorem dX5_mirrorPositions_18 : decode cX5_mirrorPositions 18 = .ok (.getfield 9, 3) := by decide +kernel
theorem dX5_mirrorPositions_21 : decode cX5_mirrorPositions 21 = .ok (.iload_n 1, 1) := by decide +kernel
theorem dX5_mirrorPositions_22 : decode cX5_mirrorPositions 22 = .ok (.iaload, 1) := by decide +kernel
theorem dX5_mirrorPositions_23 : decode cX5_mirrorPositions 23 = .ok (.isub, 1) := by decide +kernel
theorem dX5_mirrorPositions_24 : decode cX5_mirrorPositions 24 = .ok (.iastore, 1) := by decide +kernel
theorem dX5_mirrorPositions_25 : decode cX5_mirrorPositions 25 = .ok (.iinc 1 1, 3) := by decide +kernel
theorem dX5_mirrorPositions_28 : decode cX5_mirrorPositions 28 = .ok (.goto (-26), 3) := by decide +kernel
theorem dX5_mirrorPositions_31 : decode cX5_mirrorPositions 31 = .ok (.return_, 1) := by decide +kernel
theorem dX5_mirrorValues_0 : decode cX5_mirrorValues 0 = .ok (.iconst 0, 1) := by decide +kernel
theorem dX5_mirrorValues_1 : decode cX5_mirrorValues 1 = .ok (.istore_n 1, 1) := by decide +kernel
theorem dX5_mirrorValues_2 : decode cX5_mirrorValues 2 = .ok (.iload_n 1, 1) := by decide +kernel
theorem dX5_mirrorValues_3 : decode cX5_mirrorValues 3 = .ok (.aload_n 0, 1) := by decide +kernel
theorem dX5_mirrorValues_4 : decode cX5_mirrorValues 4 = .ok (.getfield 21, 3) := by decide +kernel
theorem dX5_mirrorValues_7 : decode cX5_mirrorValues 7 = .ok (.if_icmp .ge 22, 3) := by decide +kernel
theorem dX5_mirrorValues_10 : decode cX5_mirrorValues 10 = .ok (.aload_n 0, 1) := by decide +kernel
theorem dX5_mirrorValues_11 : decode cX5_mirrorValues 11 = .ok (.getfield 15, 3) := by decide +kernel
theorem dX5_mirrorValues_14 : decode cX5_mirrorValues 14 = .ok (.iload_n 1, 1) := by decide +kernel
theorem dX5_mirrorValues_15 : decode cX5_mirrorValues 15 = .ok (.aload_n 0, 1) := by decide +kernel
theorem dX5_mirrorValues_16 : decode cX5_mirrorValues 16 = .ok (.getfield 15, 3) := by decide +kernel
theorem dX5_mirrorValues_19 : decode cX5_mirrorValues 19 = .ok (.iload_n 1, 1) := by decide +kernel
theorem dX5_mirrorValues_20 : decode cX5_mirrorValues 20 = .ok (.iaload, 1) := by decide +kernel
theorem dX5_mirrorValues_21 : decode cX5_mirrorValues 21 = .ok (.ineg, 1) := by decide +kernel
theorem dX5_mirrorValues_22 : decode cX5_mirrorValues 22 = .ok (.iastore, 1) := by decide +kernel
theorem dX5_mirrorValues_23 : decode cX5_mirrorValues 23 = .ok (.iinc 1 1, 3) := by decide +kernel
theorem dX5_mirrorValues_26 : decode cX5_mirrorValues 26 = .ok (.goto (-24), 3) := by decide +kernel
theorem dX5_mirrorValues_29 : decode cX5_mirrorValues 29 = .ok (.return_, 1) := by decide +kernel
set_option maxRecDepth 20000 in
theorem ggX5_copyTo_X5_empty : GoodIn wsX5_copyTo wsX5_empty := goodIn_r _ [9, 1, 14, 15, 16, 17] (by decide +kernel) (by decide +kernel)
set_option maxRecDepth 20000 in
theorem gX5_copyTo_X5_empty : GoodIn wsX5_copyTo (wsV RX5 29 RX5 yX5_empty wsX5_empty) := goodIn_app (goodIn_of _ (by decide +kernel)) ggX5_copyTo_X5_empty
set_option maxRecDepth 20000 in
theorem ggX5_copyTo_X5_append : GoodIn wsX5_copyTo wsX5_append := goodIn_r _ [13, 1, 2, 3, 4, 14, 15, 16, 17] (by decide +kernel) (by decide +kernel)
set_option maxRecDepth 20000 in
theorem gX5_copyTo_X5_append : GoodIn wsX5_copyTo (wsV RX5 32 RX5 yX5_append wsX5_append) := goodIn_app (goodIn_of _ (by decide +kernel)) ggX5_copyTo_X5_append
theorem dX5_copyTo_0 : decode cX5_copyTo 0 = .ok (.aload_n 1, 1) := by decide +kernel
theorem dX5_copyTo_1 : decode cX5_copyTo 1 = .ok (.ifnonnull 4, 3) := by decide +kernel
theorem dX5_copyTo_4 : decode cX5_copyTo 4 = .ok (.return_, 1) := by decide +kernel
theorem dX5_copyTo_5 : decode cX5_copyTo 5 = .ok (.aload_n 1, 1) := by decide +kernel
theorem dX5_copyTo_6 : decode cX5_copyTo 6 = .ok (.invokevirtual 29, 3) := by decide +kernel
theorem dX5_copyTo_9 : decode cX5_copyTo 9 = .ok (.iconst 0, 1) := by decide +kernel
theorem dX5_copyTo_10 : decode cX5_copyTo 10 = .ok (.istore_n 2, 1) := by decide +kernel
theorem dX5_copyTo_11 : decode cX5_copyTo 11 = .ok (.iload_n 2, 1) := by decide +kernel
theorem dX5_copyTo_12 : decode cX5_copyTo 12 = .ok (.aload_n 0, 1) := by decide +kernel
theorem dX5_copyTo_13 : decode cX5_copyTo 13 = .ok (.getfield 21, 3) := by decide +kernel
theorem dX5_copyTo_16 : decode cX5_copyTo 16 = .ok (.if_icmp .ge 31, 3) := by decide +kernel
theorem dX5_copyTo_19 : decode cX5_copyTo 19 = .ok (.aload_n 1, 1) := by decide +kernel
theorem dX5_copyTo_20 : decode cX5_copyTo 20 = .ok (.aload_n 0, 1) := by decide +kernel
theorem dX5_copyTo_21 : decode cX5_copyTo 21 = .ok (.getfield 9, 3) := by decide +kernel
theorem dX5_copyTo_24 : decode cX5_copyTo 24 = .ok (.iload_n 2, 1) := by decide +kernel
theorem dX5_copyTo_25 : decode cX5_copyTo 25 = .ok (.iaload, 1) := by decide +kernel
theorem dX5_copyTo_26 : decode cX5_copyTo 26 = .ok (.aload_n 0, 1) := by decide +kernel
theorem dX5_copyTo_27 : decode cX5_copyTo 27 = .ok (.getfield 15, 3) := by decide +kernel
theorem dX5_copyTo_30 : decode cX5_copyTo 30 = .ok (.iload_n 2, 1) := by decide +kernel
theorem dX5_copyTo_31 : decode cX5_copyTo 31 = .ok (.iaload, 1) := by decide +kernel
theorem dX5_copyTo_32 : decode cX5_copyTo 32 = .ok (.aload_n 0, 1) := by decide +kernel
theorem dX5_copyTo_33 : decode cX5_copyTo 33 = .ok (.getfield 18, 3) := by decide +kernel
theorem dX5_copyTo_36 : decode cX5_copyTo 36 = .ok (.iload_n 2, 1) := by decide +kernel
theorem dX5_copyTo_37 : decode cX5_copyTo 37 = .ok (.iaload, 1) := by decide +kernel
theorem dX5_copyTo_38 : decode cX5_copyTo 38 = .ok (.invokevirtual 32, 3) := by decide +kernel
theorem dX5_copyTo_41 : decode cX5_copyTo 41 = .ok (.iinc 2 1, 3) := by decide +kernel
theorem dX5_copyTo_44 : decode cX5_copyTo 44 = .ok (.goto (-33), 3) := by decide +kernel
theorem dX5_copyTo_47 : decode cX5_copyTo 47 = .ok (.return_, 1) := by decide +kernel
set_option maxRecDepth 20000 in
theorem ggX6_init_X5_init : GoodIn wsX6_init wsX5_init := goodIn_r _ [13, 14, 2, 3, 10, 15, 16, 17, 24, 25, 26, 27] (by decide +kernel) (by decide +kernel)
set_option maxRecDepth 20000 in
theorem gX6_init_X5_init_n17 : GoodIn wsX6_init (wsX5_init) := ggX6_init_X5_init
theorem dX6_init_0 : decode cX6_init 0 = .ok (.aload_n 0, 1) := by decide +kernel
theorem dX6_init_1 : decode cX6_init 1 = .ok (.invokespecial 3, 3) := by decide +kernel
theorem dX6_init_4 : decode cX6_init 4 = .ok (.aload_n 0, 1) := by decide +kernel
theorem dX6_init_5 : decode cX6_init 5 = .ok (.bipush 90, 2) := by decide +kernel
theorem dX6_init_7 : decode cX6_init 7 = .ok (.newarray .char, 2) := by decide +kernel
theorem dX6_init_9 : decode cX6_init 9 = .ok (.putfield 9, 3) := by decide +kernel
theorem dX6_init_12 : decode cX6_init 12 = .ok (.aload_n 0, 1) := by decide +kernel
theorem dX6_init_13 : decode cX6_init 13 = .ok (.new 15, 3) := by decide +kernel
theorem dX6_init_16 : decode cX6_init 16 = .ok (.dup, 1) := by decide +kernel
theorem dX6_init_17 : decode cX6_init 17 = .ok (.invokespecial 17, 3) := by decide +kernel
theorem dX6_init_20 : decode cX6_init 20 = .ok (.putfield 18, 3) := by decide +kernel
theorem dX6_init_23 : decode cX6_init 23 = .ok (.aload_n 0, 1) := by decide +kernel
theorem dX6_init_24 : decode cX6_init 24 = .ok (.iconst 3, 1) := by decide +kernel
theorem dX6_init_25 : decode cX6_init 25 = .ok (.newarray .int, 2) := by decide +kernel
theorem dX6_init_27 : decode cX6_init 27 = .ok (.putfield 22, 3) := by decide +kernel
theorem dX6_init_30 : decode cX6_init 30 = .ok (.return_, 1) := by decide +kernel
set_option maxRecDepth 20000 in
theorem ggX7_init_X5_init : GoodIn wsX7_init wsX5_init := goodIn_r _ [34, 35, 2, 3, 36, 37, 38, 39, 84, 85, 86, 87] (by decide +kernel) (by decide +kernel)
set_option maxRecDepth 20000 in
theorem gX7_init_X5_init_n9 : GoodIn wsX7_init (wsX5_init) := ggX7_init_X5_init
set_option maxRecDepth 20000 in
theorem ggX7_init_X6_init : GoodIn wsX7_init wsX6_init := goodIn_r _ [41, 42, 2, 3, 43, 44, 45, 5, 6, 46, 36, 47, 33, 34, 35, 37, 38, 39, 96, 97, 98, 99, 100, 101, 84, 85, 86, 87] (by decide +kernel) (by decide +kernel)
set_option maxRecDepth 20000 in
theorem gX7_init_X6_init_n18 : GoodIn wsX7_init (wsX6_init) := ggX7_init_X6_init
set_option maxRecDepth 20000 in
theorem ggX7_init_X2_init : GoodIn wsX7_init wsX2_init := goodIn_r _ [50, 51, 2, 3, 52, 53, 5, 6, 33, 34, 35, 36, 37, 38, 39, 102, 103, 84, 85, 86, 87] (by decide +kernel) (by decide +kernel)
set_option maxRecDepth 20000 in
theorem gX7_init_X2_init : GoodIn wsX7_init (wsX2_init) := ggX7_init_X2_init
set_option maxRecDepth 20000 in
theorem ggX7_init_X1_init : GoodIn wsX7_init wsX1_init := goodIn_r _ [55, 56, 2, 3, 36, 57, 58, 59, 60, 104, 105, 106, 107, 108, 109] (by decide +kernel) (by decide +kernel)
set_option maxRecDepth 20000 in
theorem gX7_init_X1_init_n32 : GoodIn wsX7_init (wsX1_init) := ggX7_init_X1_init
set_option maxRecDepth 20000 in
theorem ggX7_init_X0_init : GoodIn wsX7_init wsX0_init := goodIn_r _ [63, 64, 2, 3, 36, 65, 66, 110, 111, 112, 113, 114] (by decide +kernel) (by decide +kernel)
set_option maxRecDepth 20000 in
theorem gX7_init_X0_init : GoodIn wsX7_init (wsX0_init) := ggX7_init_X0_init
set_option maxRecDepth 20000 in
theorem ggX7_init_X3_init : GoodIn wsX7_init wsX3_init := goodIn_r _ [69, 70, 2, 3, 36, 71, 72, 73, 115, 116, 117, 118] (by decide +kernel) (by decide +kernel)
set_option maxRecDepth 20000 in
theorem gX7_init_X3_init : GoodIn wsX7_init (wsX3_init) := ggX7_init_X3_init
set_option maxRecDepth 20000 in
theorem ggX7_init_X4_init : GoodIn wsX7_init wsX4_init := goodIn_r _ [76, 77, 2, 3, 78, 79, 80, 81, 36, 82, 83, 119, 120, 121] (by decide +kernel) (by decide +kernel)
set_option maxRecDepth 20000 in
theorem gX7_init_X4_init : GoodIn wsX7_init (wsX4_init) := ggX7_init_X4_init
theorem dX7_init_0 : decode cX7_init 0 = .ok (.aload_n 0, 1) := by decide +kernel
theorem dX7_init_1 : decode cX7_init 1 = .ok (.invokespecial 1, 3) := by decide +kernel
theorem dX7_init_4 : decode cX7_init 4 = .ok (.aload_n 0, 1) := by decide +kernel
theorem dX7_init_5 : decode cX7_init 5 = .ok (.new 7, 3) := by decide +kernel
theorem dX7_init_8 : decode cX7_init 8 = .ok (.dup, 1) := by decide +kernel
theorem dX7_init_9 : decode cX7_init 9 = .ok (.invokespecial 9, 3) := by decide +kernel
theorem dX7_init_12 : decode cX7_init 12 = .ok (.putfield 10, 3) := by decide +kernel
theorem dX7_init_15 : decode cX7_init 15 = .ok (.aload_n 0, 1) := by decide +kernel
theorem dX7_init_16 : decode cX7_init 16 = .ok (.new 16, 3) := by decide +kernel
theorem dX7_init_19 : decode cX7_init 19 = .ok (.dup, 1) := by decide +kernel
theorem dX7_init_20 : decode cX7_init 20 = .ok (.invokespecial 18, 3) := by decide +kernel
theorem dX7_init_23 : decode cX7_init 23 = .ok (.putfield 19, 3) := by decide +kernel
theorem dX7_init_26 : decode cX7_init 26 = .ok (.aload_n 0, 1) := by decide +kernel
theorem dX7_init_27 : decode cX7_init 27 = .ok (.new 23, 3) := by decide +kernel
theorem dX7_init_30 : decode cX7_init 30 = .ok (.dup, 1) := by decide +kernel
theorem dX7_init_31 : decode cX7_init 31 = .ok (.invokespecial 25, 3) := by decide +kernel
theorem dX7_init_34 : decode cX7_init 34 = .ok (.putfield 26, 3) := by decide +kernel
theorem dX7_init_37 : decode cX7_init 37 = .ok (.aload_n 0, 1) := by decide +kernel
theorem dX7_init_38 : decode cX7_init 38 = .ok (.new 30, 3) := by decide +kernel
theorem dX7_init_41 : decode cX7_init 41 = .ok (.dup, 1) := by decide +kernel
theorem dX7_init_42 : decode cX7_init 42 = .ok (.invokespecial 32, 3) := by decide +kernel
theorem dX7_init_45 : decode cX7_init 45 = .ok (.putfield 33, 3) := by decide +kernel
theorem dX7_init_48 : decode cX7_init 48 = .ok (.aload_n 0, 1) := by decide +kernel
theorem dX7_init_49 : decode cX7_init 49 = .ok (.new 37, 3) := by decide +kernel
theorem dX7_init_52 : decode cX7_init 52 = .ok (.dup, 1) := by decide +kernel
theorem dX7_init_53 : decode cX7_init 53 = .ok (.aload_n 0, 1) := by decide +kernel
theorem dX7_init_54 : decode cX7_init 54 = .ok (.getfield 33, 3) := by decide +kernel
theorem dX7_init_57 : decode cX7_init 57 = .ok (.invokespecial 39, 3) := by decide +kernel
theorem dX7_init_60 : decode cX7_init 60 = .ok (.putfield 42, 3) := by decide +kernel
theorem dX7_init_63 : decode cX7_init 63 = .ok (.aload_n 0, 1) := by decide +kernel
theorem dX7_init_64 : decode cX7_init 64 = .ok (.new 46, 3) := by decide +kernel
theorem dX7_init_67 : decode cX7_init 67 = .ok (.dup, 1) := by decide +kernel
theorem dX7_init_68 : decode cX7_init 68 = .ok (.aload_n 0, 1) := by decide +kernel
theorem dX7_init_69 : decode cX7_init 69 = .ok (.getfield 33, 3) := by decide +kernel
theorem dX7_init_72 : decode cX7_init 72 = .ok (.iconst 1, 1) := by decide +kernel
theorem dX7_init_73 : decode cX7_init 73 = .ok (.invokespecial 48, 3) := by decide +kernel
theorem dX7_init_76 : decode cX7_init 76 = .ok (.putfield 51, 3) := by decide +kernel
theorem dX7_init_79 : decode cX7_init 79 = .ok (.aload_n 0, 1) := by decide +kernel
theorem dX7_init_80 : decode cX7_init 80 = .ok (.new 46, 3) := by decide +kernel
theorem dX7_init_83 : decode cX7_init 83 = .ok (.dup, 1) := by decide +kernel
theorem dX7_init_84 : decode cX7_init 84 = .ok (.aload_n 0, 1) := by decide +kernel
theorem dX7_init_85 : decode cX7_init 85 = .ok (.getfield 33, 3) := by decide +kernel
theorem dX7_init_88 : decode cX7_init 88 = .ok (.iconst (-1), 1) := by decide +kernel
theorem dX7_init_89 : decode cX7_init 89 = .ok (.invokespecial 48, 3) := by decide +kernel
theorem dX7_init_92 : decode cX7_init 92 = .ok (.putfield 55, 3) := by decide +kernel
theorem dX7_init_95 : decode cX7_init 95 = .ok (.aload_n 0, 1) := by decide +kernel
theorem dX7_init_96 : decode cX7_init 96 = .ok (.new 58, 3) := by decide +kernel
theorem dX7_init_99 : decode cX7_init 99 = .ok (.dup, 1) := by decide +kernel
theorem dX7_init_100 : decode cX7_init 100 = .ok (.aload_n 0, 1) := by decide +kernel
theorem dX7_init_101 : decode cX7_init 101 = .ok (.getfield 33, 3) := by decide +kernel
theorem dX7_init_104 : decode cX7_init 104 = .ok (.invokespecial 60, 3) := by decide +kernel
theorem dX7_init_107 : decode cX7_init 107 = .ok (.putfield 61, 3) := by decide +kernel
theorem dX7_init_110 : decode cX7_init 110 = .ok (.return_, 1) := by decide +kernel
set_option maxRecDepth 20000 in
theorem ggX7_add_X7_outside : GoodIn wsX7_add wsX7_outside := goodIn_r _ [9] (by decide +kernel) (by decide +kernel)
set_option maxRecDepth 20000 in
theorem gX7_add_X7_outside : GoodIn wsX7_add (va_wsS RX7 65 yX7_outside wsX7_outside) := goodIn_app (goodIn_of _ (by decide +kernel)) ggX7_add_X7_outside
set_option maxRecDepth 20000 in
theorem ggX7_add_X7_wrongValueOrWeight : GoodIn wsX7_add wsX7_wrongValueOrWeight := goodIn_r _ [12, 6, 7, 8, 9] (by decide +kernel) (by decide +kernel)
set_option maxRecDepth 20000 in
theorem gX7_add_X7_wrongValueOrWeight : GoodIn wsX7_add (va_wsS RX7 69 yX7_wrongValueOrWeight wsX7_wrongValueOrWeight) := goodIn_app (goodIn_of _ (by decide +kernel)) ggX7_add_X7_wrongValueOrWeight
set_option maxRecDepth 20000 in
theorem ggX7_add_X5_size : GoodIn wsX7_add wsX5_size := goodIn_r _ [17, 18, 90, 91, 92, 93] (by decide +kernel) (by decide +kernel)
set_option maxRecDepth 20000 in
theorem gX7_add_X5_size : GoodIn wsX7_add (wsV RX7 74 RX5 yX5_size wsX5_size) := goodIn_app (goodIn_of _ (by decide +kernel)) ggX7_add_X5_size
set_option maxRecDepth 20000 in
theorem ggX7_add_X2_record : GoodIn wsX7_add wsX2_record := goodIn_r _ [23, 24, 25, 26, 27, 28, 22, 29, 30, 31, 32, 16, 33, 18, 34, 35, 36, 37, 38, 39, 40, 41, 42, 43, 44, 94, 95, 90, 91, 92, 93] (by decide +kernel) (by decide +kernel)
set_option maxRecDepth 20000 in
theorem gX7_add_X2_record : GoodIn wsX7_add (wsV RX7 79 RX2 yX2_record wsX2_record) := goodIn_app (goodIn_of _ (by decide +kernel)) ggX7_add_X2_record
set_option maxRecDepth 20000 in
theorem ggX7_add_X5_append : GoodIn wsX7_add wsX5_append := goodIn_r _ [44, 18, 34, 35, 36, 90, 91, 92, 93] (by decide +kernel) (by decide +kernel)
set_option maxRecDepth 20000 in
theorem gX7_add_X5_append : GoodIn wsX7_add (wsV RX7 83 RX5 yX5_append wsX5_append) := goodIn_app (goodIn_of _ (by decide +kernel)) ggX7_add_X5_append
set_option maxRecDepth 20000 in
theorem ggX7_add_X1_gather : GoodIn wsX7_add wsX1_gather := goodIn_r _ [50, 51, 52, 53, 54, 55, 16, 56, 18, 34, 57, 58, 59, 49, 60, 61, 62, 63, 64, 65, 14, 15, 17, 66, 67, 68, 69, 70, 71, 72, 73, 74, 75, 76, 77, 35, 78, 79, 80, 81, 36, 96, 97, 98, 99, 100, 101, 90, 91, 92, 93] (by decide +kernel) (by decide +kernel)
set_option maxRecDepth 20000 in
theorem gX7_add_X1_gather : GoodIn wsX7_add (wsV RX7 87 RX1 yX1_gather wsX1_gather) := goodIn_app (goodIn_of _ (by decide +kernel)) ggX7_add_X1_gather
theorem dX7_add_0 : decode cX7_add 0 = .ok (.iload_n 1, 1) := by decide +kernel
theorem dX7_add_1 : decode cX7_add 1 = .ok (.iconst 0, 1) := by decide +kernel
theorem dX7_add_2 : decode cX7_add 2 = .ok (.bipush 40, 2) := by decide +kernel
theorem dX7_add_4 : decode cX7_add 4 = .ok (.invokestatic 65, 3) := by decide +kernel
theorem dX7_add_7 : decode cX7_add 7 = .ok (.ifCond .ne 11, 3) := by decide +kernel
theorem dX7_add_10 : decode cX7_add 10 = .ok (.iload_n 2, 1) := by decide +kernel
theorem dX7_add_11 : decode cX7_add 11 = .ok (.iload_n 3, 1) := by decide +kernel
theorem dX7_add_12 : decode cX7_add 12 = .ok (.invokestatic 69, 3) := by decide +kernel
theorem dX7_add_15 : decode cX7_add 15 = .ok (.ifCond .eq 6, 3) := by decide +kernel
theorem dX7_add_18 : decode cX7_add 18 = .ok (.ldc 73, 2) := by decide +kernel
theorem dX7_add_20 : decode cX7_add 20 = .ok (.ireturn, 1) := by decide +kernel
theorem dX7_add_21 : decode cX7_add 21 = .ok (.aload_n 0, 1) := by decide +kernel
theorem dX7_add_22 : decode cX7_add 22 = .ok (.getfield 10, 3) := by decide +kernel
theorem dX7_add_25 : decode cX7_add 25 = .ok (.invokevirtual 74, 3) := by decide +kernel
theorem dX7_add_28 : decode cX7_add 28 = .ok (.bipush 12, 2) := by decide +kernel
theorem dX7_add_30 : decode cX7_add 30 = .ok (.if_icmp .lt 6, 3) := by decide +kernel
theorem dX7_add_33 : decode cX7_add 33 = .ok (.ldc 78, 2) := by decide +kernel
theorem dX7_add_35 : decode cX7_add 35 = .ok (.ireturn, 1) := by decide +kernel
theorem dX7_add_36 : decode cX7_add 36 = .ok (.aload_n 0, 1) := by decide +kernel
theorem dX7_add_37 : decode cX7_add 37 = .ok (.getfield 26, 3) := by decide +kernel
theorem dX7_add_40 : decode cX7_add 40 = .ok (.aload_n 0, 1) := by decide +kernel
theorem dX7_add_41 : decode cX7_add 41 = .ok (.getfield 10, 3) := by decide +kernel
theorem dX7_add_44 : decode cX7_add 44 = .ok (.invokevirtual 79, 3) := by decide +kernel
theorem dX7_add_47 : decode cX7_add 47 = .ok (.aload_n 0, 1) := by decide +kernel
theorem dX7_add_48 : decode cX7_add 48 = .ok (.getfield 10, 3) := by decide +kernel
theorem dX7_add_51 : decode cX7_add 51 = .ok (.iload_n 1, 1) := by decide +kernel
theorem dX7_add_52 : decode cX7_add 52 = .ok (.iload_n 2, 1) := by decide +kernel
theorem dX7_add_53 : decode cX7_add 53 = .ok (.iload_n 3, 1) := by decide +kernel
theorem dX7_add_54 : decode cX7_add 54 = .ok (.invokevirtual 83, 3) := by decide +kernel
theorem dX7_add_57 : decode cX7_add 57 = .ok (.aload_n 0, 1) := by decide +kernel
theorem dX7_add_58 : decode cX7_add 58 = .ok (.getfield 33, 3) := by decide +kernel
theorem dX7_add_61 : decode cX7_add 61 = .ok (.aload_n 0, 1) := by decide +kernel
theorem dX7_add_62 : decode cX7_add 62 = .ok (.getfield 10, 3) := by decide +kernel
theorem dX7_add_65 : decode cX7_add 65 = .ok (.invokevirtual 87, 3) := by decide +kernel
theorem dX7_add_68 : decode cX7_add 68 = .ok (.aload_n 0, 1) := by decide +kernel
theorem dX7_add_69 : decode cX7_add 69 = .ok (.getfield 10, 3) := by decide +kernel
theorem dX7_add_72 : decode cX7_add 72 = .ok (.invokevirtual 74, 3) := by decide +kernel
theorem dX7_add_75 : decode cX7_add 75 = .ok (.iconst 1, 1) := by decide +kernel
theorem dX7_add_76 : decode cX7_add 76 = .ok (.isub, 1) := by decide +kernel
theorem dX7_add_77 : decode cX7_add 77 = .ok (.ireturn, 1) := by decide +kernel
set_option maxRecDepth 20000 in
theorem ggX7_remove_X5_has : GoodIn wsX7_remove wsX5_has := goodIn_r _ [9, 10, 86, 87, 88, 89] (by decide +kernel) (by decide +kernel)
set_option maxRecDepth 20000 in
theorem gX7_remove_X5_has : GoodIn wsX7_remove (wsV RX7 90 RX5 yX5_has wsX5_has) := goodIn_app (goodIn_of _ (by decide +kernel)) ggX7_remove_X5_has
set_option maxRecDepth 20000 in
theorem ggX7_remove_X2_record : GoodIn wsX7_remove wsX2_record := goodIn_r _ [15, 16, 17, 18, 19, 20, 14, 21, 22, 23, 24, 8, 25, 10, 26, 27, 28, 29, 30, 31, 32, 33, 34, 35, 36, 90, 91, 86, 87, 88, 89] (by decide +kernel) (by decide +kernel)
set_option maxRecDepth 20000 in
theorem gX7_remove_X2_record : GoodIn wsX7_remove (wsV RX7 79 RX2 yX2_record wsX2_record) := goodIn_app (goodIn_of _ (by decide +kernel)) ggX7_remove_X2_record
set_option maxRecDepth 20000 in
theorem ggX7_remove_X5_drop : GoodIn wsX7_remove wsX5_drop := goodIn_r _ [40, 10, 26, 27, 28, 41, 6, 7, 8, 9, 86, 87, 88, 89] (by decide +kernel) (by decide +kernel)
set_option maxRecDepth 20000 in
theorem gX7_remove_X5_drop : GoodIn wsX7_remove (wsV RX7 94 RX5 yX5_drop wsX5_drop) := goodIn_app (goodIn_of _ (by decide +kernel)) ggX7_remove_X5_drop
set_option maxRecDepth 20000 in
theorem ggX7_remove_X1_gather : GoodIn wsX7_remove wsX1_gather := goodIn_r _ [46, 47, 48, 49, 50, 51, 8, 52, 10, 26, 53, 54, 55, 45, 56, 57, 58, 59, 60, 61, 62, 63, 64, 65, 66, 67, 68, 41, 6, 7, 9, 69, 70, 71, 72, 27, 73, 74, 75, 76, 28, 92, 93, 94, 95, 96, 97, 86, 87, 88, 89] (by decide +kernel) (by decide +kernel)
set_option maxRecDepth 20000 in
theorem gX7_remove_X1_gather : GoodIn wsX7_remove (wsV RX7 87 RX1 yX1_gather wsX1_gather) := goodIn_app (goodIn_of _ (by decide +kernel)) ggX7_remove_X1_gather
set_option maxRecDepth 20000 in
theorem ggX7_remove_X5_size : GoodIn wsX7_remove wsX5_size := goodIn_r _ [64, 10, 86, 87, 88, 89] (by decide +kernel) (by decide +kernel)
set_option maxRecDepth 20000 in
theorem gX7_remove_X5_size : GoodIn wsX7_remove (wsV RX7 74 RX5 yX5_size wsX5_size) := goodIn_app (goodIn_of _ (by decide +kernel)) ggX7_remove_X5_size
theorem dX7_remove_0 : decode cX7_remove 0 = .ok (.aload_n 0, 1) := by decide +kernel
theorem dX7_remove_1 : decode cX7_remove 1 = .ok (.getfield 10, 3) := by decide +kernel
theorem dX7_remove_4 : decode cX7_remove 4 = .ok (.iload_n 1, 1) := by decide +kernel
theorem dX7_remove_5 : decode cX7_remove 5 = .ok (.invokevirtual 90, 3) := by decide +kernel
theorem dX7_remove_8 : decode cX7_remove 8 = .ok (.ifCond .ne 6, 3) := by decide +kernel
theorem dX7_remove_11 : decode cX7_remove 11 = .ok (.ldc 73, 2) := by decide +kernel
theorem dX7_remove_13 : decode cX7_remove 13 = .ok (.ireturn, 1) := by decide +kernel
theorem dX7_remove_14 : decode cX7_remove 14 = .ok (.aload_n 0, 1) := by decide +kernel
theorem dX7_remove_15 : decode cX7_remove 15 = .ok (.getfield 26, 3) := by decide +kernel
theorem dX7_remove_18 : decode cX7_remove 18 = .ok (.aload_n 0, 1) := by decide +kernel
theorem dX7_remove_19 : decode cX7_remove 19 = .ok (.getfield 10, 3) := by decide +kernel
theorem dX7_remove_22 : decode cX7_remove 22 = .ok (.invokevirtual 79, 3) := by decide +kernel
theorem dX7_remove_25 : decode cX7_remove 25 = .ok (.aload_n 0, 1) := by decide +kernel
theorem dX7_remove_26 : decode cX7_remove 26 = .ok (.getfield 10, 3) := by decide +kernel
theorem dX7_remove_29 : decode cX7_remove 29 = .ok (.iload_n 1, 1) := by decide +kernel
theorem dX7_remove_30 : decode cX7_remove 30 = .ok (.invokevirtual 94, 3) := by decide +kernel
theorem dX7_remove_33 : decode cX7_remove 33 = .ok (.aload_n 0, 1) := by decide +kernel
theorem dX7_remove_34 : decode cX7_remove 34 = .ok (.getfield 33, 3) := by decide +kernel
theorem dX7_remove_37 : decode cX7_remove 37 = .ok (.aload_n 0, 1) := by decide +kernel
theorem dX7_remove_38 : decode cX7_remove 38 = .ok (.getfield 10, 3) := by decide +kernel
theorem dX7_remove_41 : decode cX7_remove 41 = .ok (.invokevirtual 87, 3) := by decide +kernel
theorem dX7_remove_44 : decode cX7_remove 44 = .ok (.aload_n 0, 1) := by decide +kernel
theorem dX7_remove_45 : decode cX7_remove 45 = .ok (.getfield 10, 3) := by decide +kernel
theorem dX7_remove_48 : decode cX7_remove 48 = .ok (.invokevirtual 74, 3) := by decide +kernel
theorem dX7_remove_51 : decode cX7_remove 51 = .ok (.ireturn, 1) := by decide +kernel
set_option maxRecDepth 20000 in
theorem ggX7_mirror_X7_outside : GoodIn wsX7_mirror wsX7_outside := goodIn_r _ [8] (by decide +kernel) (by decide +kernel)
set_option maxRecDepth 20000 in
theorem gX7_mirror_X7_outside : GoodIn wsX7_mirror (va_wsS RX7 65 yX7_outside wsX7_outside) := goodIn_app (goodIn_of _ (by decide +kernel)) ggX7_mirror_X7_outside
set_option maxRecDepth 20000 in
theorem ggX7_mirror_X2_record : GoodIn wsX7_mirror wsX2_record := goodIn_r _ [13, 14, 15, 16, 17, 18, 12, 19, 20, 21, 22, 23, 24, 25, 26, 27, 28, 29, 30, 31, 32, 33, 34, 35, 36, 93, 94, 95, 96, 97, 98] (by decide +kernel) (by decide +kernel)
set_option maxRecDepth 20000 in
theorem gX7_mirror_X2_record : GoodIn wsX7_mirror (wsV RX7 79 RX2 yX2_record wsX2_record) := goodIn_app (goodIn_of _ (by decide +kernel)) ggX7_mirror_X2_record
set_option maxRecDepth 20000 in
theorem ggX7_mirror_X5_mirrorPositions : GoodIn wsX7_mirror wsX5_mirrorPositions := goodIn_r _ [40, 25, 26, 95, 96, 97, 98] (by decide +kernel) (by decide +kernel)
set_option maxRecDepth 20000 in
theorem gX7_mirror_X5_mirrorPositions : GoodIn wsX7_mirror (wsV RX7 108 RX5 yX5_mirrorPositions wsX5_mirrorPositions) := goodIn_app (goodIn_of _ (by decide +kernel)) ggX7_mirror_X5_mirrorPositions
set_option maxRecDepth 20000 in
theorem ggX7_mirror_X5_mirrorValues : GoodIn wsX7_mirror wsX5_mirrorValues := goodIn_r _ [44, 25, 27, 95, 96, 97, 98] (by decide +kernel) (by decide +kernel)
set_option maxRecDepth 20000 in
theorem gX7_mirror_X5_mirrorValues : GoodIn wsX7_mirror (wsV RX7 111 RX5 yX5_mirrorValues wsX5_mirrorValues) := goodIn_app (goodIn_of _ (by decide +kernel)) ggX7_mirror_X5_mirrorValues
set_option maxRecDepth 20000 in
theorem ggX7_mirror_X1_gather : GoodIn wsX7_mirror wsX1_gather := goodIn_r _ [49, 50, 51, 52, 53, 54, 23, 55, 25, 26, 56, 57, 58, 48, 59, 60, 61, 62, 63, 64, 65, 66, 67, 68, 69, 70, 71, 72, 73, 74, 75, 76, 77, 78, 79, 27, 80, 81, 82, 83, 28, 99, 100, 101, 102, 103, 104, 95, 96, 97, 98] (by decide +kernel) (by decide +kernel)
set_option maxRecDepth 20000 in
theorem gX7_mirror_X1_gather : GoodIn wsX7_mirror (wsV RX7 87 RX1 yX1_gather wsX1_gather) := goodIn_app (goodIn_of _ (by decide +kernel)) ggX7_mirror_X1_gather
set_option maxRecDepth 20000 in
theorem ggX7_mirror_X5_size : GoodIn wsX7_mirror wsX5_size := goodIn_r _ [67, 25, 95, 96, 97, 98] (by decide +kernel) (by decide +kernel)
set_option maxRecDepth 20000 in
theorem gX7_mirror_X5_size : GoodIn wsX7_mirror (wsV RX7 74 RX5 yX5_size wsX5_size) := goodIn_app (goodIn_of _ (by decide +kernel)) ggX7_mirror_X5_size
theorem dX7_mirror_0 : decode cX7_mirror 0 = .ok (.iload_n 1, 1) := by decide +kernel
theorem dX7_mirror_1 : decode cX7_mirror 1 = .ok (.iconst 0, 1) := by decide +kernel
theorem dX7_mirror_2 : decode cX7_mirror 2 = .ok (.iconst 1, 1) := by decide +kernel
theorem dX7_mirror_3 : decode cX7_mirror 3 = .ok (.invokestatic 65, 3) := by decide +kernel
theorem dX7_mirror_6 : decode cX7_mirror 6 = .ok (.ifCond .eq 6, 3) := by decide +kernel
theorem dX7_mirror_9 : decode cX7_mirror 9 = .ok (.ldc 73, 2) := by decide +kernel
theorem dX7_mirror_11 : decode cX7_mirror 11 = .ok (.ireturn, 1) := by decide +kernel
theorem dX7_mirror_12 : decode cX7_mirror 12 = .ok (.aload_n 0, 1) := by decide +kernel
theorem dX7_mirror_13 : decode cX7_mirror 13 = .ok (.getfield 26, 3) := by decide +kernel
theorem dX7_mirror_16 : decode cX7_mirror 16 = .ok (.aload_n 0, 1) := by decide +kernel
theorem dX7_mirror_17 : decode cX7_mirror 17 = .ok (.getfield 10, 3) := by decide +kernel
theorem dX7_mirror_20 : decode cX7_mirror 20 = .ok (.invokevirtual 79, 3) := by decide +kernel
theorem dX7_mirror_23 : decode cX7_mirror 23 = .ok (.iload_n 1, 1) := by decide +kernel
theorem dX7_mirror_24 : decode cX7_mirror 24 = .ok (.ifCond .ne 13, 3) := by decide +kernel
theorem dX7_mirror_27 : decode cX7_mirror 27 = .ok (.aload_n 0, 1) := by decide +kernel
theorem dX7_mirror_28 : decode cX7_mirror 28 = .ok (.getfield 10, 3) := by decide +kernel
theorem dX7_mirror_31 : decode cX7_mirror 31 = .ok (.invokevirtual 108, 3) := by decide +kernel
theorem dX7_mirror_34 : decode cX7_mirror 34 = .ok (.goto 10, 3) := by decide +kernel
theorem dX7_mirror_37 : decode cX7_mirror 37 = .ok (.aload_n 0, 1) := by decide +kernel
theorem dX7_mirror_38 : decode cX7_mirror 38 = .ok (.getfield 10, 3) := by decide +kernel
theorem dX7_mirror_41 : decode cX7_mirror 41 = .ok (.invokevirtual 111, 3) := by decide +kernel
theorem dX7_mirror_44 : decode cX7_mirror 44 = .ok (.aload_n 0, 1) := by decide +kernel
theorem dX7_mirror_45 : decode cX7_mirror 45 = .ok (.getfield 33, 3) := by decide +kernel
theorem dX7_mirror_48 : decode cX7_mirror 48 = .ok (.aload_n 0, 1) := by decide +kernel
theorem dX7_mirror_49 : decode cX7_mirror 49 = .ok (.getfield 10, 3) := by decide +kernel
theorem dX7_mirror_52 : decode cX7_mirror 52 = .ok (.invokevirtual 87, 3) := by decide +kernel
theorem dX7_mirror_55 : decode cX7_mirror 55 = .ok (.aload_n 0, 1) := by decide +kernel
theorem dX7_mirror_56 : decode cX7_mirror 56 = .ok (.getfield 10, 3) := by decide +kernel
theorem dX7_mirror_59 : decode cX7_mirror 59 = .ok (.invokevirtual 74, 3) := by decide +kernel
theorem dX7_mirror_62 : decode cX7_mirror 62 = .ok (.ireturn, 1) := by decide +kernel
set_option maxRecDepth 20000 in
theorem ggX7_undo_X2_size : GoodIn wsX7_undo wsX2_size := goodIn_r _ [9, 10, 80, 81] (by decide +kernel) (by decide +kernel)
set_option maxRecDepth 20000 in
theorem gX7_undo_X2_size : GoodIn wsX7_undo (wsV RX7 121 RX2 yX2_size wsX2_size) := goodIn_app (goodIn_of _ (by decide +kernel)) ggX7_undo_X2_size
set_option maxRecDepth 20000 in
theorem ggX7_undo_X2_restore : GoodIn wsX7_undo wsX2_restore := goodIn_r _ [14, 10, 15, 16, 17, 18, 19, 20, 21, 22, 23, 24, 25, 26, 27, 28, 29, 30, 31, 32, 80, 81, 82, 83, 84, 85] (by decide +kernel) (by decide +kernel)
set_option maxRecDepth 20000 in
theorem gX7_undo_X2_restore : GoodIn wsX7_undo (wsV RX7 122 RX2 yX2_restore wsX2_restore) := goodIn_app (goodIn_of _ (by decide +kernel)) ggX7_undo_X2_restore
set_option maxRecDepth 20000 in
theorem ggX7_undo_X1_gather : GoodIn wsX7_undo wsX1_gather := goodIn_r _ [37, 38, 39, 40, 41, 42, 19, 43, 21, 22, 44, 45, 46, 36, 47, 48, 49, 50, 51, 52, 53, 54, 55, 56, 57, 58, 59, 60, 61, 62, 63, 64, 65, 66, 67, 23, 68, 69, 70, 71, 24, 86, 87, 88, 89, 90, 91, 82, 83, 84, 85] (by decide +kernel) (by decide +kernel)
set_option maxRecDepth 20000 in
theorem gX7_undo_X1_gather : GoodIn wsX7_undo (wsV RX7 87 RX1 yX1_gather wsX1_gather) := goodIn_app (goodIn_of _ (by decide +kernel)) ggX7_undo_X1_gather
theorem dX7_undo_0 : decode cX7_undo 0 = .ok (.aload_n 0, 1) := by decide +kernel
theorem dX7_undo_1 : decode cX7_undo 1 = .ok (.getfield 26, 3) := by decide +kernel
theorem dX7_undo_4 : decode cX7_undo 4 = .ok (.invokevirtual 121, 3) := by decide +kernel
theorem dX7_undo_7 : decode cX7_undo 7 = .ok (.ifCond .ne 6, 3) := by decide +kernel
theorem dX7_undo_10 : decode cX7_undo 10 = .ok (.ldc 117, 2) := by decide +kernel
theorem dX7_undo_12 : decode cX7_undo 12 = .ok (.ireturn, 1) := by decide +kernel
theorem dX7_undo_13 : decode cX7_undo 13 = .ok (.aload_n 0, 1) := by decide +kernel
theorem dX7_undo_14 : decode cX7_undo 14 = .ok (.getfield 26, 3) := by decide +kernel
theorem dX7_undo_17 : decode cX7_undo 17 = .ok (.aload_n 0, 1) := by decide +kernel
theorem dX7_undo_18 : decode cX7_undo 18 = .ok (.getfield 10, 3) := by decide +kernel
theorem dX7_undo_21 : decode cX7_undo 21 = .ok (.invokevirtual 122, 3) := by decide +kernel
theorem dX7_undo_24 : decode cX7_undo 24 = .ok (.aload_n 0, 1) := by decide +kernel
theorem dX7_undo_25 : decode cX7_undo 25 = .ok (.getfield 33, 3) := by decide +kernel
theorem dX7_undo_28 : decode cX7_undo 28 = .ok (.aload_n 0, 1) := by decide +kernel
theorem dX7_undo_29 : decode cX7_undo 29 = .ok (.getfield 10, 3) := by decide +kernel
theorem dX7_undo_32 : decode cX7_undo 32 = .ok (.invokevirtual 87, 3) := by decide +kernel
theorem dX7_undo_35 : decode cX7_undo 35 = .ok (.aload_n 0, 1) := by decide +kernel
theorem dX7_undo_36 : decode cX7_undo 36 = .ok (.getfield 26, 3) := by decide +kernel
theorem dX7_undo_39 : decode cX7_undo 39 = .ok (.invokevirtual 121, 3) := by decide +kernel
theorem dX7_undo_42 : decode cX7_undo 42 = .ok (.ireturn, 1) := by decide +kernel
set_option maxRecDepth 20000 in
theorem ggX7_points_X5_size : GoodIn wsX7_points wsX5_size := goodIn_r _ [6, 7, 16, 17, 18, 19] (by decide +kernel) (by decide +kernel)
set_option maxRecDepth 20000 in
theorem gX7_points_X5_size : GoodIn wsX7_points (wsV RX7 74 RX5 yX5_size wsX5_size) := goodIn_app (goodIn_of _ (by decide +kernel)) ggX7_points_X5_size
theorem dX7_points_0 : decode cX7_points 0 = .ok (.aload_n 0, 1) := by decide +kernel
theorem dX7_points_1 : decode cX7_points 1 = .ok (.getfield 10, 3) := by decide +kernel
theorem dX7_points_4 : decode cX7_points 4 = .ok (.invokevirtual 74, 3) := by decide +kernel
theorem dX7_points_7 : decode cX7_points 7 = .ok (.ireturn, 1) := by decide +kernel
set_option maxRecDepth 20000 in
theorem ggX7_groups_X1_size : GoodIn wsX7_groups wsX1_size := goodIn_r _ [6, 7, 16, 17, 18, 19, 20, 21] (by decide +kernel) (by decide +kernel)
set_option maxRecDepth 20000 in
theorem gX7_groups_X1_size : GoodIn wsX7_groups (wsV RX7 131 RX1 yX1_size wsX1_size) := goodIn_app (goodIn_of _ (by decide +kernel)) ggX7_groups_X1_size
theorem dX7_groups_0 : decode cX7_groups 0 = .ok (.aload_n 0, 1) := by decide +kernel
theorem dX7_groups_1 : decode cX7_groups 1 = .ok (.getfield 33, 3) := by decide +kernel
theorem dX7_groups_4 : decode cX7_groups 4 = .ok (.invokevirtual 131, 3) := by decide +kernel
theorem dX7_groups_7 : decode cX7_groups 7 = .ok (.ireturn, 1) := by decide +kernel
set_option maxRecDepth 20000 in
theorem ggX7_groupInfo_X1_has : GoodIn wsX7_groupInfo wsX1_has := goodIn_r _ [7, 8, 42, 43, 44, 45, 46, 47] (by decide +kernel) (by decide +kernel)
set_option maxRecDepth 20000 in
theorem gX7_groupInfo_X1_has : GoodIn wsX7_groupInfo (wsV RX7 132 RX1 yX1_has wsX1_has) := goodIn_app (goodIn_of _ (by decide +kernel)) ggX7_groupInfo_X1_has
set_option maxRecDepth 20000 in
theorem ggX7_groupInfo_X7_outside : GoodIn wsX7_groupInfo wsX7_outside := goodIn_r _ [12] (by decide +kernel) (by decide +kernel)
set_option maxRecDepth 20000 in
theorem gX7_groupInfo_X7_outside : GoodIn wsX7_groupInfo (va_wsS RX7 65 yX7_outside wsX7_outside) := goodIn_app (goodIn_of _ (by decide +kernel)) ggX7_groupInfo_X7_outside
set_option maxRecDepth 20000 in
theorem ggX7_groupInfo_X1_positionOf : GoodIn wsX7_groupInfo wsX1_positionOf := goodIn_r _ [16, 17, 18, 4, 5, 6, 7, 8, 42, 43, 44, 45, 46, 47] (by decide +kernel) (by decide +kernel)
set_option maxRecDepth 20000 in
theorem gX7_groupInfo_X1_positionOf : GoodIn wsX7_groupInfo (wsV RX7 133 RX1 yX1_positionOf wsX1_positionOf) := goodIn_app (goodIn_of _ (by decide +kernel)) ggX7_groupInfo_X1_positionOf
set_option maxRecDepth 20000 in
theorem ggX7_groupInfo_X1_weightOf : GoodIn wsX7_groupInfo wsX1_weightOf := goodIn_r _ [22, 8, 23, 42, 43, 44, 45, 46, 47] (by decide +kernel) (by decide +kernel)
set_option maxRecDepth 20000 in
theorem gX7_groupInfo_X1_weightOf : GoodIn wsX7_groupInfo (wsV RX7 134 RX1 yX1_weightOf wsX1_weightOf) := goodIn_app (goodIn_of _ (by decide +kernel)) ggX7_groupInfo_X1_weightOf
set_option maxRecDepth 20000 in
theorem ggX7_groupInfo_X1_momentOf : GoodIn wsX7_groupInfo wsX1_momentOf := goodIn_r _ [27, 8, 28, 42, 43, 44, 45, 46, 47] (by decide +kernel) (by decide +kernel)
set_option maxRecDepth 20000 in
theorem gX7_groupInfo_X1_momentOf : GoodIn wsX7_groupInfo (wsV RX7 137 RX1 yX1_momentOf wsX1_momentOf) := goodIn_app (goodIn_of _ (by decide +kernel)) ggX7_groupInfo_X1_momentOf
set_option maxRecDepth 20000 in
theorem ggX7_groupInfo_X1_membersOf : GoodIn wsX7_groupInfo wsX1_membersOf := goodIn_r _ [32, 33, 18, 4, 5, 6, 7, 8, 42, 43, 44, 45, 46, 47] (by decide +kernel) (by decide +kernel)
set_option maxRecDepth 20000 in
theorem gX7_groupInfo_X1_membersOf : GoodIn wsX7_groupInfo (wsV RX7 140 RX1 yX1_membersOf wsX1_membersOf) := goodIn_app (goodIn_of _ (by decide +kernel)) ggX7_groupInfo_X1_membersOf
theorem dX7_groupInfo_0 : decode cX7_groupInfo 0 = .ok (.aload_n 0, 1) := by decide +kernel
theorem dX7_groupInfo_1 : decode cX7_groupInfo 1 = .ok (.getfield 33, 3) := by decide +kernel
theorem dX7_groupInfo_4 : decode cX7_groupInfo 4 = .ok (.iload_n 1, 1) := by decide +kernel
theorem dX7_groupInfo_5 : decode cX7_groupInfo 5 = .ok (.invokevirtual 132, 3) := by decide +kernel
theorem dX7_groupInfo_8 : decode cX7_groupInfo 8 = .ok (.ifCond .eq 12, 3) := by decide +kernel
theorem dX7_groupInfo_11 : decode cX7_groupInfo 11 = .ok (.iload_n 2, 1) := by decide +kernel
theorem dX7_groupInfo_12 : decode cX7_groupInfo 12 = .ok (.iconst 0, 1) := by decide +kernel
theorem dX7_groupInfo_13 : decode cX7_groupInfo 13 = .ok (.iconst 3, 1) := by decide +kernel
theorem dX7_groupInfo_14 : decode cX7_groupInfo 14 = .ok (.invokestatic 65, 3) := by decide +kernel
theorem dX7_groupInfo_17 : decode cX7_groupInfo 17 = .ok (.ifCond .eq 6, 3) := by decide +kernel
theorem dX7_groupInfo_20 : decode cX7_groupInfo 20 = .ok (.ldc 73, 2) := by decide +kernel
theorem dX7_groupInfo_22 : decode cX7_groupInfo 22 = .ok (.ireturn, 1) := by decide +kernel
theorem dX7_groupInfo_23 : decode cX7_groupInfo 23 = .ok (.iload_n 2, 1) := by decide +kernel
theorem dX7_groupInfo_24 : decode cX7_groupInfo 24 = .ok (.tableswitch 57 0 2 #[28, 37, 47], 28) := by decide +kernel
theorem dX7_groupInfo_52 : decode cX7_groupInfo 52 = .ok (.aload_n 0, 1) := by decide +kernel
theorem dX7_groupInfo_53 : decode cX7_groupInfo 53 = .ok (.getfield 33, 3) := by decide +kernel
theorem dX7_groupInfo_56 : decode cX7_groupInfo 56 = .ok (.iload_n 1, 1) := by decide +kernel
theorem dX7_groupInfo_57 : decode cX7_groupInfo 57 = .ok (.invokevirtual 133, 3) := by decide +kernel
theorem dX7_groupInfo_60 : decode cX7_groupInfo 60 = .ok (.ireturn, 1) := by decide +kernel
theorem dX7_groupInfo_61 : decode cX7_groupInfo 61 = .ok (.aload_n 0, 1) := by decide +kernel
theorem dX7_groupInfo_62 : decode cX7_groupInfo 62 = .ok (.getfield 33, 3) := by decide +kernel
theorem dX7_groupInfo_65 : decode cX7_groupInfo 65 = .ok (.iload_n 1, 1) := by decide +kernel
theorem dX7_groupInfo_66 : decode cX7_groupInfo 66 = .ok (.iload_n 1, 1) := by decide +kernel
theorem dX7_groupInfo_67 : decode cX7_groupInfo 67 = .ok (.invokevirtual 134, 3) := by decide +kernel
theorem dX7_groupInfo_70 : decode cX7_groupInfo 70 = .ok (.ireturn, 1) := by decide +kernel
theorem dX7_groupInfo_71 : decode cX7_groupInfo 71 = .ok (.aload_n 0, 1) := by decide +kernel
theorem dX7_groupInfo_72 : decode cX7_groupInfo 72 = .ok (.getfield 33, 3) := by decide +kernel
theorem dX7_groupInfo_75 : decode cX7_groupInfo 75 = .ok (.iload_n 1, 1) := by decide +kernel
theorem dX7_groupInfo_76 : decode cX7_groupInfo 76 = .ok (.iload_n 1, 1) := by decide +kernel
theorem dX7_groupInfo_77 : decode cX7_groupInfo 77 = .ok (.invokevirtual 137, 3) := by decide +kernel
theorem dX7_groupInfo_80 : decode cX7_groupInfo 80 = .ok (.ireturn, 1) := by decide +kernel
theorem dX7_groupInfo_81 : decode cX7_groupInfo 81 = .ok (.aload_n 0, 1) := by decide +kernel
theorem dX7_groupInfo_82 : decode cX7_groupInfo 82 = .ok (.getfield 33, 3) := by decide +kernel
theorem dX7_groupInfo_85 : decode cX7_groupInfo 85 = .ok (.iload_n 1, 1) := by decide +kernel
theorem dX7_groupInfo_86 : decode cX7_groupInfo 86 = .ok (.invokevirtual 140, 3) := by decide +kernel
theorem dX7_groupInfo_89 : decode cX7_groupInfo 89 = .ok (.ireturn, 1) := by decide +kernel
set_option maxRecDepth 20000 in
theorem ggX7_fit_X7_outside : GoodIn wsX7_fit wsX7_outside := goodIn_r _ [7] (by decide +kernel) (by decide +kernel)
set_option maxRecDepth 20000 in
theorem gX7_fit_X7_outside : GoodIn wsX7_fit (va_wsS RX7 65 yX7_outside wsX7_outside) := goodIn_app (goodIn_of _ (by decide +kernel)) ggX7_fit_X7_outside
set_option maxRecDepth 20000 in
theorem ggX7_fit_X1_has : GoodIn wsX7_fit wsX1_has := goodIn_r _ [12, 13, 174, 175, 176, 177, 178, 179] (by decide +kernel) (by decide +kernel)
set_option maxRecDepth 20000 in
theorem gX7_fit_X1_has : GoodIn wsX7_fit (wsV RX7 132 RX1 yX1_has wsX1_has) := goodIn_app (goodIn_of _ (by decide +kernel)) ggX7_fit_X1_has
set_option maxRecDepth 20000 in
theorem ggX7_fit_X7_notFractionPart : GoodIn wsX7_fit wsX7_notFractionPart := goodIn_r _ [16, 4, 5, 6, 7] (by decide +kernel) (by decide +kernel)
set_option maxRecDepth 20000 in
theorem gX7_fit_X7_notFractionPart : GoodIn wsX7_fit (va_wsS RX7 143 yX7_notFractionPart wsX7_notFractionPart) := goodIn_app (goodIn_of _ (by decide +kernel)) ggX7_fit_X7_notFractionPart
set_option maxRecDepth 20000 in
theorem ggX7_fit_X7_hullOf : GoodIn wsX7_fit wsX7_hullOf := goodIn_r _ [20, 21, 22, 166, 167, 168, 169, 170, 171, 172, 173] (by decide +kernel) (by decide +kernel)
set_option maxRecDepth 20000 in
theorem gX7_fit_X7_hullOf : GoodIn wsX7_fit (wsV RX7 148 RX7 yX7_hullOf wsX7_hullOf) := goodIn_app (goodIn_of _ (by decide +kernel)) ggX7_fit_X7_hullOf
set_option maxRecDepth 20000 in
theorem ggX7_fit_X3_draw : GoodIn wsX7_fit wsX3_draw := goodIn_r _ [27, 28, 29, 30, 31, 32, 33, 11, 34, 13, 35, 36, 37, 26, 38, 39, 40, 41, 42, 43, 44, 45, 46, 47, 48, 49, 50, 51, 52, 53, 54, 55, 56, 57, 58, 59, 60, 61, 62, 63, 64, 65, 66, 67, 68, 69, 70, 71, 72, 9, 10, 12, 180, 181, 182, 183, 174, 175, 176, 177, 178, 179] (by decide +kernel) (by decide +kernel)
set_option maxRecDepth 20000 in
theorem gX7_fit_X3_draw : GoodIn wsX7_fit (wsV RX7 152 RX3 yX3_draw wsX3_draw) := goodIn_app (goodIn_of _ (by decide +kernel)) ggX7_fit_X3_draw
set_option maxRecDepth 20000 in
theorem ggX7_fit_X3_numeratorAt : GoodIn wsX7_fit wsX3_numeratorAt := goodIn_r _ [76, 77, 78, 79, 26, 80, 28, 30, 81, 82, 83, 84, 85, 86, 87, 88, 29, 89, 49, 50, 11, 51, 13, 52, 58, 59, 60, 61, 62, 54, 55, 56, 57, 63, 64, 65, 66, 67, 68, 69, 70, 71, 72, 9, 10, 12, 180, 181, 182, 183, 174, 175, 176, 177, 178, 179] (by decide +kernel) (by decide +kernel)
set_option maxRecDepth 20000 in
theorem gX7_fit_X3_numeratorAt : GoodIn wsX7_fit (wsV RX7 155 RX3 yX3_numeratorAt wsX3_numeratorAt) := goodIn_app (goodIn_of _ (by decide +kernel)) ggX7_fit_X3_numeratorAt
set_option maxRecDepth 20000 in
theorem ggX7_fit_X3_denominatorAt : GoodIn wsX7_fit wsX3_denominatorAt := goodIn_r _ [93, 77, 78, 79, 26, 80, 28, 30, 81, 82, 83, 84, 58, 59, 60, 61, 29, 62, 54, 55, 11, 56, 13, 57, 63, 64, 65, 66, 67, 68, 69, 70, 71, 72, 9, 10, 12, 180, 181, 182, 183, 174, 175, 176, 177, 178, 179] (by decide +kernel) (by decide +kernel)
set_option maxRecDepth 20000 in
theorem gX7_fit_X3_denominatorAt : GoodIn wsX7_fit (wsV RX7 159 RX3 yX3_denominatorAt wsX3_denominatorAt) := goodIn_app (goodIn_of _ (by decide +kernel)) ggX7_fit_X3_denominatorAt
set_option maxRecDepth 20000 in
theorem ggX7_fit_X7_lowest : GoodIn wsX7_fit wsX7_lowest := goodIn_r _ [96, 97, 98, 99, 100, 101, 102, 6, 103] (by decide +kernel) (by decide +kernel)
set_option maxRecDepth 20000 in
theorem gX7_fit_X7_lowest : GoodIn wsX7_fit (va_wsS RX7 162 yX7_lowest wsX7_lowest) := goodIn_app (goodIn_of _ (by decide +kernel)) ggX7_fit_X7_lowest
set_option maxRecDepth 20000 in
theorem ggX7_fit_X0_shape : GoodIn wsX7_fit wsX0_shape := goodIn_r _ [108, 109, 110, 111, 32, 33, 11, 34, 13, 112, 113, 114, 107, 115, 116, 117, 118, 119, 120, 121, 122, 123, 124, 125, 126, 45, 46, 47, 48, 49, 50, 51, 52, 53, 54, 55, 56, 57, 127, 128, 129, 130, 131, 132, 133, 134, 135, 136, 137, 138, 139, 140, 141, 142, 143, 144, 145, 146, 147, 148, 149, 150, 151, 152, 153, 154, 155, 156, 157, 184, 185, 186, 187, 188, 174, 175, 176, 177, 178, 179] (by decide +kernel) (by decide +kernel)
set_option maxRecDepth 20000 in
theorem gX7_fit_X0_shape : GoodIn wsX7_fit (wsV RX7 166 RX0 yX0_shape wsX0_shape) := goodIn_app (goodIn_of _ (by decide +kernel)) ggX7_fit_X0_shape
set_option maxRecDepth 20000 in
theorem ggX7_fit_X0_blockWith : GoodIn wsX7_fit wsX0_blockWith := goodIn_r _ [161, 110, 131, 184, 185, 186, 187, 188] (by decide +kernel) (by decide +kernel)
set_option maxRecDepth 20000 in
theorem gX7_fit_X0_blockWith : GoodIn wsX7_fit (wsV RX7 169 RX0 yX0_blockWith wsX0_blockWith) := goodIn_app (goodIn_of _ (by decide +kernel)) ggX7_fit_X0_blockWith
set_option maxRecDepth 20000 in
theorem ggX7_fit_X0_firstOf : GoodIn wsX7_fit wsX0_firstOf := goodIn_r _ [149, 110, 131, 184, 185, 186, 187, 188] (by decide +kernel) (by decide +kernel)
set_option maxRecDepth 20000 in
theorem gX7_fit_X0_firstOf : GoodIn wsX7_fit (wsV RX7 172 RX0 yX0_firstOf wsX0_firstOf) := goodIn_app (goodIn_of _ (by decide +kernel)) ggX7_fit_X0_firstOf
set_option maxRecDepth 20000 in
theorem ggX7_fit_X0_lastOf : GoodIn wsX7_fit wsX0_lastOf := goodIn_r _ [153, 110, 131, 109, 111, 32, 33, 11, 34, 13, 184, 185, 186, 187, 188, 174, 175, 176, 177, 178, 179] (by decide +kernel) (by decide +kernel)
set_option maxRecDepth 20000 in
theorem gX7_fit_X0_lastOf : GoodIn wsX7_fit (wsV RX7 175 RX0 yX0_lastOf wsX0_lastOf) := goodIn_app (goodIn_of _ (by decide +kernel)) ggX7_fit_X0_lastOf
set_option maxRecDepth 20000 in
theorem ggX7_fit_X1_momentOf : GoodIn wsX7_fit wsX1_momentOf := goodIn_r _ [51, 13, 52, 174, 175, 176, 177, 178, 179] (by decide +kernel) (by decide +kernel)
set_option maxRecDepth 20000 in
theorem gX7_fit_X1_momentOf : GoodIn wsX7_fit (wsV RX7 137 RX1 yX1_momentOf wsX1_momentOf) := goodIn_app (goodIn_of _ (by decide +kernel)) ggX7_fit_X1_momentOf
set_option maxRecDepth 20000 in
theorem ggX7_fit_X1_weightOf : GoodIn wsX7_fit wsX1_weightOf := goodIn_r _ [56, 13, 57, 174, 175, 176, 177, 178, 179] (by decide +kernel) (by decide +kernel)
set_option maxRecDepth 20000 in
theorem gX7_fit_X1_weightOf : GoodIn wsX7_fit (wsV RX7 134 RX1 yX1_weightOf wsX1_weightOf) := goodIn_app (goodIn_of _ (by decide +kernel)) ggX7_fit_X1_weightOf
theorem dX7_fit_0 : decode cX7_fit 0 = .ok (.iload_n 1, 1) := by decide +kernel
theorem dX7_fit_1 : decode cX7_fit 1 = .ok (.iconst 0, 1) := by decide +kernel
theorem dX7_fit_2 : decode cX7_fit 2 = .ok (.iconst 5, 1) := by decide +kernel
theorem dX7_fit_3 : decode cX7_fit 3 = .ok (.invokestatic 65, 3) := by decide +kernel
theorem dX7_fit_6 : decode cX7_fit 6 = .ok (.ifCond .ne 21, 3) := by decide +kernel
theorem dX7_fit_9 : decode cX7_fit 9 = .ok (.aload_n 0, 1) := by decide +kernel
theorem dX7_fit_10 : decode cX7_fit 10 = .ok (.getfield 33, 3) := by decide +kernel
theorem dX7_fit_13 : decode cX7_fit 13 = .ok (.iload_n 2, 1) := by decide +kernel
theorem dX7_fit_14 : decode cX7_fit 14 = .ok (.invokevirtual 132, 3) := by decide +kernel
theorem dX7_fit_17 : decode cX7_fit 17 = .ok (.ifCond .eq 10, 3) := by decide +kernel
theorem dX7_fit_20 : decode cX7_fit 20 = .ok (.iload_n 3, 1) := by decide +kernel
theorem dX7_fit_21 : decode cX7_fit 21 = .ok (.invokestatic 143, 3) := by decide +kernel
theorem dX7_fit_24 : decode cX7_fit 24 = .ok (.ifCond .eq 7, 3) := by decide +kernel
theorem dX7_fit_27 : decode cX7_fit 27 = .ok (.ldc2_w 146, 3) := by decide +kernel
theorem dX7_fit_30 : decode cX7_fit 30 = .ok (.lreturn, 1) := by decide +kernel
theorem dX7_fit_31 : decode cX7_fit 31 = .ok (.iload_n 1, 1) := by decide +kernel
theorem dX7_fit_32 : decode cX7_fit 32 = .ok (.iconst 4, 1) := by decide +kernel
theorem dX7_fit_33 : decode cX7_fit 33 = .ok (.if_icmp .lt 32, 3) := by decide +kernel
theorem dX7_fit_36 : decode cX7_fit 36 = .ok (.aload_n 0, 1) := by decide +kernel
theorem dX7_fit_37 : decode cX7_fit 37 = .ok (.iload_n 1, 1) := by decide +kernel
theorem dX7_fit_38 : decode cX7_fit 38 = .ok (.invokevirtual 148, 3) := by decide +kernel
theorem dX7_fit_41 : decode cX7_fit 41 = .ok (.astore 4, 2) := by decide +kernel
theorem dX7_fit_43 : decode cX7_fit 43 = .ok (.aload 4, 2) := by decide +kernel
theorem dX7_fit_45 : decode cX7_fit 45 = .ok (.invokevirtual 152, 3) := by decide +kernel
theorem dX7_fit_48 : decode cX7_fit 48 = .ok (.aload 4, 2) := by decide +kernel
theorem dX7_fit_50 : decode cX7_fit 50 = .ok (.iload_n 2, 1) := by decide +kernel
theorem dX7_fit_51 : decode cX7_fit 51 = .ok (.invokevirtual 155, 3) := by decide +kernel
theorem dX7_fit_54 : decode cX7_fit 54 = .ok (.aload 4, 2) := by decide +kernel
theorem dX7_fit_56 : decode cX7_fit 56 = .ok (.iload_n 2, 1) := by decide +kernel
theorem dX7_fit_57 : decode cX7_fit 57 = .ok (.invokevirtual 159, 3) := by decide +kernel
theorem dX7_fit_60 : decode cX7_fit 60 = .ok (.iload_n 3, 1) := by decide +kernel
theorem dX7_fit_61 : decode cX7_fit 61 = .ok (.invokestatic 162, 3) := by decide +kernel
theorem dX7_fit_64 : decode cX7_fit 64 = .ok (.lreturn, 1) := by decide +kernel
theorem dX7_fit_65 : decode cX7_fit 65 = .ok (.aload_n 0, 1) := by decide +kernel
theorem dX7_fit_66 : decode cX7_fit 66 = .ok (.getfield 42, 3) := by decide +kernel
theorem dX7_fit_69 : decode cX7_fit 69 = .ok (.iload_n 1, 1) := by decide +kernel
theorem dX7_fit_70 : decode cX7_fit 70 = .ok (.invokevirtual 166, 3) := by decide +kernel
theorem dX7_fit_73 : decode cX7_fit 73 = .ok (.aload_n 0, 1) := by decide +kernel
theorem dX7_fit_74 : decode cX7_fit 74 = .ok (.getfield 42, 3) := by decide +kernel
theorem dX7_fit_77 : decode cX7_fit 77 = .ok (.iload_n 2, 1) := by decide +kernel
theorem dX7_fit_78 : decode cX7_fit 78 = .ok (.invokevirtual 169, 3) := by decide +kernel
theorem dX7_fit_81 : decode cX7_fit 81 = .ok (.istore 4, 2) := by decide +kernel
theorem dX7_fit_83 : decode cX7_fit 83 = .ok (.aload_n 0, 1) := by decide +kernel
theorem dX7_fit_84 : decode cX7_fit 84 = .ok (.getfield 42, 3) := by decide +kernel
theorem dX7_fit_87 : decode cX7_fit 87 = .ok (.iload 4, 2) := by decide +kernel
theorem dX7_fit_89 : decode cX7_fit 89 = .ok (.invokevirtual 172, 3) := by decide +kernel
theorem dX7_fit_92 : decode cX7_fit 92 = .ok (.istore 5, 2) := by decide +kernel
theorem dX7_fit_94 : decode cX7_fit 94 = .ok (.aload_n 0, 1) := by decide +kernel
theorem dX7_fit_95 : decode cX7_fit 95 = .ok (.getfield 42, 3) := by decide +kernel
theorem dX7_fit_98 : decode cX7_fit 98 = .ok (.iload 4, 2) := by decide +kernel
theorem dX7_fit_100 : decode cX7_fit 100 = .ok (.invokevirtual 175, 3) := by decide +kernel
theorem dX7_fit_103 : decode cX7_fit 103 = .ok (.istore 6, 2) := by decide +kernel
theorem dX7_fit_105 : decode cX7_fit 105 = .ok (.aload_n 0, 1) := by decide +kernel
theorem dX7_fit_106 : decode cX7_fit 106 = .ok (.getfield 33, 3) := by decide +kernel
theorem dX7_fit_109 : decode cX7_fit 109 = .ok (.iload 5, 2) := by decide +kernel
theorem dX7_fit_111 : decode cX7_fit 111 = .ok (.iload 6, 2) := by decide +kernel
theorem dX7_fit_113 : decode cX7_fit 113 = .ok (.invokevirtual 137, 3) := by decide +kernel
theorem dX7_fit_116 : decode cX7_fit 116 = .ok (.i2l, 1) := by decide +kernel
theorem dX7_fit_117 : decode cX7_fit 117 = .ok (.aload_n 0, 1) := by decide +kernel
theorem dX7_fit_118 : decode cX7_fit 118 = .ok (.getfield 33, 3) := by decide +kernel
theorem dX7_fit_121 : decode cX7_fit 121 = .ok (.iload 5, 2) := by decide +kernel
theorem dX7_fit_123 : decode cX7_fit 123 = .ok (.iload 6, 2) := by decide +kernel
theorem dX7_fit_125 : decode cX7_fit 125 = .ok (.invokevirtual 134, 3) := by decide +kernel
theorem dX7_fit_128 : decode cX7_fit 128 = .ok (.i2l, 1) := by decide +kernel
theorem dX7_fit_129 : decode cX7_fit 129 = .ok (.iload_n 3, 1) := by decide +kernel
theorem dX7_fit_130 : decode cX7_fit 130 = .ok (.invokestatic 162, 3) := by decide +kernel
theorem dX7_fit_133 : decode cX7_fit 133 = .ok (.lreturn, 1) := by decide +kernel
set_option maxRecDepth 20000 in
theorem ggX7_error_X7_outside : GoodIn wsX7_error wsX7_outside := goodIn_r _ [9] (by decide +kernel) (by decide +kernel)
set_option maxRecDepth 20000 in
theorem gX7_error_X7_outside : GoodIn wsX7_error (va_wsS RX7 65 yX7_outside wsX7_outside) := goodIn_app (goodIn_of _ (by decide +kernel)) ggX7_error_X7_outside
set_option maxRecDepth 20000 in
theorem ggX7_error_X7_notFractionPart : GoodIn wsX7_error wsX7_notFractionPart := goodIn_r _ [12, 6, 7, 8, 9] (by decide +kernel) (by decide +kernel)
set_option maxRecDepth 20000 in
theorem gX7_error_X7_notFractionPart : GoodIn wsX7_error (va_wsS RX7 143 yX7_notFractionPart wsX7_notFractionPart) := goodIn_app (goodIn_of _ (by decide +kernel)) ggX7_error_X7_notFractionPart
set_option maxRecDepth 20000 in
theorem ggX7_error_X1_size : GoodIn wsX7_error wsX1_size := goodIn_r _ [17, 18, 105, 106, 107, 108, 109, 110] (by decide +kernel) (by decide +kernel)
set_option maxRecDepth 20000 in
theorem gX7_error_X1_size : GoodIn wsX7_error (wsV RX7 131 RX1 yX1_size wsX1_size) := goodIn_app (goodIn_of _ (by decide +kernel)) ggX7_error_X1_size
set_option maxRecDepth 20000 in
theorem ggX7_error_X0_shape : GoodIn wsX7_error wsX0_shape := goodIn_r _ [23, 24, 25, 26, 14, 15, 16, 17, 18, 27, 28, 29, 22, 30, 31, 32, 33, 34, 35, 36, 37, 38, 39, 40, 41, 42, 43, 44, 45, 46, 47, 48, 49, 50, 51, 52, 53, 54, 55, 56, 57, 58, 59, 60, 61, 62, 63, 64, 65, 66, 67, 68, 69, 70, 71, 72, 73, 74, 75, 76, 77, 78, 79, 80, 81, 82, 83, 84, 85, 111, 112, 113, 114, 115, 105, 106, 107, 108, 109, 110] (by decide +kernel) (by decide +kernel)
set_option maxRecDepth 20000 in
theorem gX7_error_X0_shape : GoodIn wsX7_error (wsV RX7 166 RX0 yX0_shape wsX0_shape) := goodIn_app (goodIn_of _ (by decide +kernel)) ggX7_error_X0_shape
set_option maxRecDepth 20000 in
theorem ggX7_error_X0_commonError : GoodIn wsX7_error wsX0_commonError := goodIn_r _ [67, 24, 25, 68, 69, 70, 16, 71, 72, 73, 74, 75, 76, 22, 77, 59, 78, 79, 80, 81, 26, 14, 15, 17, 18, 82, 83, 84, 85, 50, 51, 52, 53, 54, 45, 46, 47, 48, 49, 111, 112, 113, 114, 115, 105, 106, 107, 108, 109, 110] (by decide +kernel) (by decide +kernel)
set_option maxRecDepth 20000 in
theorem gX7_error_X0_commonError : GoodIn wsX7_error (wsV RX7 180 RX0 yX0_commonError wsX0_commonError) := goodIn_app (goodIn_of _ (by decide +kernel)) ggX7_error_X0_commonError
set_option maxRecDepth 20000 in
theorem ggX7_error_X7_lowest : GoodIn wsX7_error wsX7_lowest := goodIn_r _ [89, 90, 91, 92, 93, 94, 95, 8, 96] (by decide +kernel) (by decide +kernel)
set_option maxRecDepth 20000 in
theorem gX7_error_X7_lowest : GoodIn wsX7_error (va_wsS RX7 162 yX7_lowest wsX7_lowest) := goodIn_app (goodIn_of _ (by decide +kernel)) ggX7_error_X7_lowest
theorem dX7_error_0 : decode cX7_error 0 = .ok (.iload_n 1, 1) := by decide +kernel
theorem dX7_error_1 : decode cX7_error 1 = .ok (.iconst 0, 1) := by decide +kernel
theorem dX7_error_2 : decode cX7_error 2 = .ok (.iconst 3, 1) := by decide +kernel
theorem dX7_error_3 : decode cX7_error 3 = .ok (.invokestatic 65, 3) := by decide +kernel
theorem dX7_error_6 : decode cX7_error 6 = .ok (.ifCond .ne 10, 3) := by decide +kernel
theorem dX7_error_9 : decode cX7_error 9 = .ok (.iload_n 2, 1) := by decide +kernel
theorem dX7_error_10 : decode cX7_error 10 = .ok (.invokestatic 143, 3) := by decide +kernel
theorem dX7_error_13 : decode cX7_error 13 = .ok (.ifCond .eq 7, 3) := by decide +kernel
theorem dX7_error_16 : decode cX7_error 16 = .ok (.ldc2_w 146, 3) := by decide +kernel
theorem dX7_error_19 : decode cX7_error 19 = .ok (.lreturn, 1) := by decide +kernel
theorem dX7_error_20 : decode cX7_error 20 = .ok (.aload_n 0, 1) := by decide +kernel
theorem dX7_error_21 : decode cX7_error 21 = .ok (.getfield 33, 3) := by decide +kernel
theorem dX7_error_24 : decode cX7_error 24 = .ok (.invokevirtual 131, 3) := by decide +kernel
theorem dX7_error_27 : decode cX7_error 27 = .ok (.ifCond .ne 7, 3) := by decide +kernel
theorem dX7_error_30 : decode cX7_error 30 = .ok (.ldc2_w 178, 3) := by decide +kernel
theorem dX7_error_33 : decode cX7_error 33 = .ok (.lreturn, 1) := by decide +kernel
theorem dX7_error_34 : decode cX7_error 34 = .ok (.aload_n 0, 1) := by decide +kernel
theorem dX7_error_35 : decode cX7_error 35 = .ok (.getfield 42, 3) := by decide +kernel
theorem dX7_error_38 : decode cX7_error 38 = .ok (.iload_n 1, 1) := by decide +kernel
theorem dX7_error_39 : decode cX7_error 39 = .ok (.invokevirtual 166, 3) := by decide +kernel
theorem dX7_error_42 : decode cX7_error 42 = .ok (.aload_n 0, 1) := by decide +kernel
theorem dX7_error_43 : decode cX7_error 43 = .ok (.getfield 42, 3) := by decide +kernel
theorem dX7_error_46 : decode cX7_error 46 = .ok (.invokevirtual 180, 3) := by decide +kernel
theorem dX7_error_49 : decode cX7_error 49 = .ok (.ldc2_w 184, 3) := by decide +kernel
theorem dX7_error_52 : decode cX7_error 52 = .ok (.iload_n 2, 1) := by decide +kernel
theorem dX7_error_53 : decode cX7_error 53 = .ok (.invokestatic 162, 3) := by decide +kernel
theorem dX7_error_56 : decode cX7_error 56 = .ok (.lreturn, 1) := by decide +kernel
set_option maxRecDepth 20000 in
theorem ggX7_turn_X7_outside : GoodIn wsX7_turn wsX7_outside := goodIn_r _ [8] (by decide +kernel) (by decide +kernel)
set_option maxRecDepth 20000 in
theorem gX7_turn_X7_outside : GoodIn wsX7_turn (va_wsS RX7 65 yX7_outside wsX7_outside) := goodIn_app (goodIn_of _ (by decide +kernel)) ggX7_turn_X7_outside
set_option maxRecDepth 20000 in
theorem ggX7_turn_X1_size : GoodIn wsX7_turn wsX1_size := goodIn_r _ [13, 14, 86, 87, 88, 89, 90, 91] (by decide +kernel) (by decide +kernel)
set_option maxRecDepth 20000 in
theorem gX7_turn_X1_size : GoodIn wsX7_turn (wsV RX7 131 RX1 yX1_size wsX1_size) := goodIn_app (goodIn_of _ (by decide +kernel)) ggX7_turn_X1_size
set_option maxRecDepth 20000 in
theorem ggX7_turn_X0_bestTurn : GoodIn wsX7_turn wsX0_bestTurn := goodIn_r _ [19, 20, 21, 10, 11, 12, 13, 14, 22, 23, 24, 18, 25, 26, 27, 28, 29, 30, 31, 32, 33, 34, 35, 36, 37, 38, 39, 40, 41, 42, 43, 44, 45, 46, 47, 48, 49, 50, 51, 52, 53, 54, 55, 56, 57, 58, 59, 60, 61, 62, 63, 64, 65, 66, 67, 68, 69, 70, 71, 72, 73, 74, 75, 76, 77, 92, 93, 94, 95, 96, 86, 87, 88, 89, 90, 91] (by decide +kernel) (by decide +kernel)
set_option maxRecDepth 20000 in
theorem gX7_turn_X0_bestTurn : GoodIn wsX7_turn (wsV RX7 186 RX0 yX0_bestTurn wsX0_bestTurn) := goodIn_app (goodIn_of _ (by decide +kernel)) ggX7_turn_X0_bestTurn
theorem dX7_turn_0 : decode cX7_turn 0 = .ok (.iload_n 1, 1) := by decide +kernel
theorem dX7_turn_1 : decode cX7_turn 1 = .ok (.iconst 2, 1) := by decide +kernel
theorem dX7_turn_2 : decode cX7_turn 2 = .ok (.iconst 3, 1) := by decide +kernel
theorem dX7_turn_3 : decode cX7_turn 3 = .ok (.invokestatic 65, 3) := by decide +kernel
theorem dX7_turn_6 : decode cX7_turn 6 = .ok (.ifCond .eq 6, 3) := by decide +kernel
theorem dX7_turn_9 : decode cX7_turn 9 = .ok (.ldc 73, 2) := by decide +kernel
theorem dX7_turn_11 : decode cX7_turn 11 = .ok (.ireturn, 1) := by decide +kernel
theorem dX7_turn_12 : decode cX7_turn 12 = .ok (.aload_n 0, 1) := by decide +kernel
theorem dX7_turn_13 : decode cX7_turn 13 = .ok (.getfield 33, 3) := by decide +kernel
theorem dX7_turn_16 : decode cX7_turn 16 = .ok (.invokevirtual 131, 3) := by decide +kernel
theorem dX7_turn_19 : decode cX7_turn 19 = .ok (.ifCond .ne 6, 3) := by decide +kernel
theorem dX7_turn_22 : decode cX7_turn 22 = .ok (.ldc 117, 2) := by decide +kernel
theorem dX7_turn_24 : decode cX7_turn 24 = .ok (.ireturn, 1) := by decide +kernel
theorem dX7_turn_25 : decode cX7_turn 25 = .ok (.aload_n 0, 1) := by decide +kernel
theorem dX7_turn_26 : decode cX7_turn 26 = .ok (.getfield 42, 3) := by decide +kernel
theorem dX7_turn_29 : decode cX7_turn 29 = .ok (.iload_n 1, 1) := by decide +kernel
theorem dX7_turn_30 : decode cX7_turn 30 = .ok (.invokevirtual 186, 3) := by decide +kernel
theorem dX7_turn_33 : decode cX7_turn 33 = .ok (.ireturn, 1) := by decide +kernel
set_option maxRecDepth 20000 in
theorem ggX7_turnError_X7_outside : GoodIn wsX7_turnError wsX7_outside := goodIn_r _ [8] (by decide +kernel) (by decide +kernel)
set_option maxRecDepth 20000 in
theorem gX7_turnError_X7_outside : GoodIn wsX7_turnError (va_wsS RX7 65 yX7_outside wsX7_outside) := goodIn_app (goodIn_of _ (by decide +kernel)) ggX7_turnError_X7_outside
set_option maxRecDepth 20000 in
theorem ggX7_turnError_X1_has : GoodIn wsX7_turnError wsX1_has := goodIn_r _ [13, 14, 98, 99, 100, 101, 102, 103] (by decide +kernel) (by decide +kernel)
set_option maxRecDepth 20000 in
theorem gX7_turnError_X1_has : GoodIn wsX7_turnError (wsV RX7 132 RX1 yX1_has wsX1_has) := goodIn_app (goodIn_of _ (by decide +kernel)) ggX7_turnError_X1_has
set_option maxRecDepth 20000 in
theorem ggX7_turnError_X7_notFractionPart : GoodIn wsX7_turnError wsX7_notFractionPart := goodIn_r _ [17, 5, 6, 7, 8] (by decide +kernel) (by decide +kernel)
set_option maxRecDepth 20000 in
theorem gX7_turnError_X7_notFractionPart : GoodIn wsX7_turnError (va_wsS RX7 143 yX7_notFractionPart wsX7_notFractionPart) := goodIn_app (goodIn_of _ (by decide +kernel)) ggX7_turnError_X7_notFractionPart
set_option maxRecDepth 20000 in
theorem ggX7_turnError_X0_shapeWithTurn : GoodIn wsX7_turnError wsX0_shapeWithTurn := goodIn_r _ [22, 23, 24, 25, 26, 27, 28, 29, 21, 30, 31, 32, 33, 12, 34, 14, 35, 36, 37, 38, 39, 40, 41, 42, 43, 44, 45, 46, 47, 48, 49, 50, 51, 52, 53, 54, 55, 56, 57, 104, 105, 106, 107, 108, 98, 99, 100, 101, 102, 103] (by decide +kernel) (by decide +kernel)
set_option maxRecDepth 20000 in
theorem gX7_turnError_X0_shapeWithTurn : GoodIn wsX7_turnError (wsV RX7 189 RX0 yX0_shapeWithTurn wsX0_shapeWithTurn) := goodIn_app (goodIn_of _ (by decide +kernel)) ggX7_turnError_X0_shapeWithTurn
set_option maxRecDepth 20000 in
theorem ggX7_turnError_X0_commonError : GoodIn wsX7_turnError wsX0_commonError := goodIn_r _ [61, 26, 23, 62, 63, 64, 12, 65, 66, 67, 68, 69, 70, 21, 71, 53, 72, 73, 74, 75, 31, 32, 33, 34, 14, 76, 77, 78, 79, 44, 45, 46, 47, 48, 39, 40, 41, 42, 43, 104, 105, 106, 107, 108, 98, 99, 100, 101, 102, 103] (by decide +kernel) (by decide +kernel)
set_option maxRecDepth 20000 in
theorem gX7_turnError_X0_commonError : GoodIn wsX7_turnError (wsV RX7 180 RX0 yX0_commonError wsX0_commonError) := goodIn_app (goodIn_of _ (by decide +kernel)) ggX7_turnError_X0_commonError
set_option maxRecDepth 20000 in
theorem ggX7_turnError_X7_lowest : GoodIn wsX7_turnError wsX7_lowest := goodIn_r _ [82, 83, 84, 85, 86, 87, 88, 7, 89] (by decide +kernel) (by decide +kernel)
set_option maxRecDepth 20000 in
theorem gX7_turnError_X7_lowest : GoodIn wsX7_turnError (va_wsS RX7 162 yX7_lowest wsX7_lowest) := goodIn_app (goodIn_of _ (by decide +kernel)) ggX7_turnError_X7_lowest
theorem dX7_turnError_0 : decode cX7_turnError 0 = .ok (.iload_n 1, 1) := by decide +kernel
theorem dX7_turnError_1 : decode cX7_turnError 1 = .ok (.iconst 2, 1) := by decide +kernel
theorem dX7_turnError_2 : decode cX7_turnError 2 = .ok (.iconst 3, 1) := by decide +kernel
theorem dX7_turnError_3 : decode cX7_turnError 3 = .ok (.invokestatic 65, 3) := by decide +kernel
theorem dX7_turnError_6 : decode cX7_turnError 6 = .ok (.ifCond .ne 21, 3) := by decide +kernel
theorem dX7_turnError_9 : decode cX7_turnError 9 = .ok (.aload_n 0, 1) := by decide +kernel
theorem dX7_turnError_10 : decode cX7_turnError 10 = .ok (.getfield 33, 3) := by decide +kernel
theorem dX7_turnError_13 : decode cX7_turnError 13 = .ok (.iload_n 2, 1) := by decide +kernel
theorem dX7_turnError_14 : decode cX7_turnError 14 = .ok (.invokevirtual 132, 3) := by decide +kernel
theorem dX7_turnError_17 : decode cX7_turnError 17 = .ok (.ifCond .eq 10, 3) := by decide +kernel
theorem dX7_turnError_20 : decode cX7_turnError 20 = .ok (.iload_n 3, 1) := by decide +kernel
theorem dX7_turnError_21 : decode cX7_turnError 21 = .ok (.invokestatic 143, 3) := by decide +kernel
theorem dX7_turnError_24 : decode cX7_turnError 24 = .ok (.ifCond .eq 7, 3) := by decide +kernel
theorem dX7_turnError_27 : decode cX7_turnError 27 = .ok (.ldc2_w 146, 3) := by decide +kernel
theorem dX7_turnError_30 : decode cX7_turnError 30 = .ok (.lreturn, 1) := by decide +kernel
theorem dX7_turnError_31 : decode cX7_turnError 31 = .ok (.aload_n 0, 1) := by decide +kernel
theorem dX7_turnError_32 : decode cX7_turnError 32 = .ok (.getfield 42, 3) := by decide +kernel
theorem dX7_turnError_35 : decode cX7_turnError 35 = .ok (.iload_n 1, 1) := by decide +kernel
theorem dX7_turnError_36 : decode cX7_turnError 36 = .ok (.iload_n 2, 1) := by decide +kernel
theorem dX7_turnError_37 : decode cX7_turnError 37 = .ok (.invokevirtual 189, 3) := by decide +kernel
theorem dX7_turnError_40 : decode cX7_turnError 40 = .ok (.aload_n 0, 1) := by decide +kernel
theorem dX7_turnError_41 : decode cX7_turnError 41 = .ok (.getfield 42, 3) := by decide +kernel
theorem dX7_turnError_44 : decode cX7_turnError 44 = .ok (.invokevirtual 180, 3) := by decide +kernel
theorem dX7_turnError_47 : decode cX7_turnError 47 = .ok (.ldc2_w 184, 3) := by decide +kernel
theorem dX7_turnError_50 : decode cX7_turnError 50 = .ok (.iload_n 3, 1) := by decide +kernel
theorem dX7_turnError_51 : decode cX7_turnError 51 = .ok (.invokestatic 162, 3) := by decide +kernel
theorem dX7_turnError_54 : decode cX7_turnError 54 = .ok (.lreturn, 1) := by decide +kernel
set_option maxRecDepth 20000 in
theorem ggX7_blocks_X7_outside : GoodIn wsX7_blocks wsX7_outside := goodIn_r _ [6] (by decide +kernel) (by decide +kernel)
set_option maxRecDepth 20000 in
theorem gX7_blocks_X7_outside : GoodIn wsX7_blocks (va_wsS RX7 65 yX7_outside wsX7_outside) := goodIn_app (goodIn_of _ (by decide +kernel)) ggX7_blocks_X7_outside
set_option maxRecDepth 20000 in
theorem ggX7_blocks_X0_shape : GoodIn wsX7_blocks wsX0_shape := goodIn_r _ [11, 12, 13, 14, 15, 16, 17, 18, 19, 20, 21, 22, 10, 23, 24, 25, 26, 27, 28, 29, 30, 31, 32, 33, 34, 35, 36, 37, 38, 39, 40, 41, 42, 43, 44, 45, 46, 47, 48, 49, 50, 51, 52, 53, 54, 55, 56, 57, 58, 59, 60, 61, 62, 63, 64, 65, 66, 67, 68, 69, 70, 71, 72, 73, 74, 75, 76, 77, 78, 91, 92, 93, 94, 95, 96, 97, 98, 99, 100, 101] (by decide +kernel) (by decide +kernel)
set_option maxRecDepth 20000 in
theorem gX7_blocks_X0_shape : GoodIn wsX7_blocks (wsV RX7 166 RX0 yX0_shape wsX0_shape) := goodIn_app (goodIn_of _ (by decide +kernel)) ggX7_blocks_X0_shape
set_option maxRecDepth 20000 in
theorem ggX7_blocks_X0_size : GoodIn wsX7_blocks wsX0_size := goodIn_r _ [82, 13, 91, 92, 93, 94, 95] (by decide +kernel) (by decide +kernel)
set_option maxRecDepth 20000 in
theorem gX7_blocks_X0_size : GoodIn wsX7_blocks (wsV RX7 193 RX0 yX0_size wsX0_size) := goodIn_app (goodIn_of _ (by decide +kernel)) ggX7_blocks_X0_size
theorem dX7_blocks_0 : decode cX7_blocks 0 = .ok (.iload_n 1, 1) := by decide +kernel
theorem dX7_blocks_1 : decode cX7_blocks 1 = .ok (.iconst 0, 1) := by decide +kernel
theorem dX7_blocks_2 : decode cX7_blocks 2 = .ok (.iconst 3, 1) := by decide +kernel
theorem dX7_blocks_3 : decode cX7_blocks 3 = .ok (.invokestatic 65, 3) := by decide +kernel
theorem dX7_blocks_6 : decode cX7_blocks 6 = .ok (.ifCond .eq 6, 3) := by decide +kernel
theorem dX7_blocks_9 : decode cX7_blocks 9 = .ok (.ldc 73, 2) := by decide +kernel
theorem dX7_blocks_11 : decode cX7_blocks 11 = .ok (.ireturn, 1) := by decide +kernel
theorem dX7_blocks_12 : decode cX7_blocks 12 = .ok (.aload_n 0, 1) := by decide +kernel
theorem dX7_blocks_13 : decode cX7_blocks 13 = .ok (.getfield 42, 3) := by decide +kernel
theorem dX7_blocks_16 : decode cX7_blocks 16 = .ok (.iload_n 1, 1) := by decide +kernel
theorem dX7_blocks_17 : decode cX7_blocks 17 = .ok (.invokevirtual 166, 3) := by decide +kernel
theorem dX7_blocks_20 : decode cX7_blocks 20 = .ok (.aload_n 0, 1) := by decide +kernel
theorem dX7_blocks_21 : decode cX7_blocks 21 = .ok (.getfield 42, 3) := by decide +kernel
theorem dX7_blocks_24 : decode cX7_blocks 24 = .ok (.invokevirtual 193, 3) := by decide +kernel
theorem dX7_blocks_27 : decode cX7_blocks 27 = .ok (.ireturn, 1) := by decide +kernel
set_option maxRecDepth 20000 in
theorem ggX7_kinks_X7_outside : GoodIn wsX7_kinks wsX7_outside := goodIn_r _ [5] (by decide +kernel) (by decide +kernel)
set_option maxRecDepth 20000 in
theorem gX7_kinks_X7_outside : GoodIn wsX7_kinks (va_wsS RX7 65 yX7_outside wsX7_outside) := goodIn_app (goodIn_of _ (by decide +kernel)) ggX7_kinks_X7_outside
set_option maxRecDepth 20000 in
theorem ggX7_kinks_X7_hullOf : GoodIn wsX7_kinks wsX7_hullOf := goodIn_r _ [9, 10, 11, 75, 76, 77, 78, 79, 80, 81, 82] (by decide +kernel) (by decide +kernel)
set_option maxRecDepth 20000 in
theorem gX7_kinks_X7_hullOf : GoodIn wsX7_kinks (wsV RX7 148 RX7 yX7_hullOf wsX7_hullOf) := goodIn_app (goodIn_of _ (by decide +kernel)) ggX7_kinks_X7_hullOf
set_option maxRecDepth 20000 in
theorem ggX7_kinks_X3_draw : GoodIn wsX7_kinks wsX3_draw := goodIn_r _ [16, 17, 18, 19, 20, 21, 22, 23, 24, 25, 26, 27, 28, 15, 29, 30, 31, 32, 33, 34, 35, 36, 37, 38, 39, 40, 41, 42, 43, 44, 45, 46, 47, 48, 49, 50, 51, 52, 53, 54, 55, 56, 57, 58, 59, 60, 61, 62, 63, 64, 65, 66, 83, 84, 85, 86, 87, 88, 89, 90, 91, 92] (by decide +kernel) (by decide +kernel)
set_option maxRecDepth 20000 in
theorem gX7_kinks_X3_draw : GoodIn wsX7_kinks (wsV RX7 152 RX3 yX3_draw wsX3_draw) := goodIn_app (goodIn_of _ (by decide +kernel)) ggX7_kinks_X3_draw
set_option maxRecDepth 20000 in
theorem ggX7_kinks_X3_innerCorners : GoodIn wsX7_kinks wsX3_innerCorners := goodIn_r _ [70, 17, 71, 72, 73, 74, 83, 84, 85, 86] (by decide +kernel) (by decide +kernel)
set_option maxRecDepth 20000 in
theorem gX7_kinks_X3_innerCorners : GoodIn wsX7_kinks (wsV RX7 195 RX3 yX3_innerCorners wsX3_innerCorners) := goodIn_app (goodIn_of _ (by decide +kernel)) ggX7_kinks_X3_innerCorners
theorem dX7_kinks_0 : decode cX7_kinks 0 = .ok (.iload_n 1, 1) := by decide +kernel
theorem dX7_kinks_1 : decode cX7_kinks 1 = .ok (.iconst 4, 1) := by decide +kernel
theorem dX7_kinks_2 : decode cX7_kinks 2 = .ok (.iconst 5, 1) := by decide +kernel
theorem dX7_kinks_3 : decode cX7_kinks 3 = .ok (.invokestatic 65, 3) := by decide +kernel
theorem dX7_kinks_6 : decode cX7_kinks 6 = .ok (.ifCond .eq 6, 3) := by decide +kernel
theorem dX7_kinks_9 : decode cX7_kinks 9 = .ok (.ldc 73, 2) := by decide +kernel
theorem dX7_kinks_11 : decode cX7_kinks 11 = .ok (.ireturn, 1) := by decide +kernel
theorem dX7_kinks_12 : decode cX7_kinks 12 = .ok (.aload_n 0, 1) := by decide +kernel
theorem dX7_kinks_13 : decode cX7_kinks 13 = .ok (.iload_n 1, 1) := by decide +kernel
theorem dX7_kinks_14 : decode cX7_kinks 14 = .ok (.invokevirtual 148, 3) := by decide +kernel
theorem dX7_kinks_17 : decode cX7_kinks 17 = .ok (.astore_n 2, 1) := by decide +kernel
theorem dX7_kinks_18 : decode cX7_kinks 18 = .ok (.aload_n 2, 1) := by decide +kernel
theorem dX7_kinks_19 : decode cX7_kinks 19 = .ok (.invokevirtual 152, 3) := by decide +kernel
theorem dX7_kinks_22 : decode cX7_kinks 22 = .ok (.aload_n 2, 1) := by decide +kernel
theorem dX7_kinks_23 : decode cX7_kinks 23 = .ok (.invokevirtual 195, 3) := by decide +kernel
theorem dX7_kinks_26 : decode cX7_kinks 26 = .ok (.ireturn, 1) := by decide +kernel
set_option maxRecDepth 20000 in
theorem ggX7_kinkAt_X7_outside : GoodIn wsX7_kinkAt wsX7_outside := goodIn_r _ [6] (by decide +kernel) (by decide +kernel)
set_option maxRecDepth 20000 in
theorem gX7_kinkAt_X7_outside : GoodIn wsX7_kinkAt (va_wsS RX7 65 yX7_outside wsX7_outside) := goodIn_app (goodIn_of _ (by decide +kernel)) ggX7_kinkAt_X7_outside
set_option maxRecDepth 20000 in
theorem ggX7_kinkAt_X7_hullOf : GoodIn wsX7_kinkAt wsX7_hullOf := goodIn_r _ [10, 11, 12, 81, 82, 83, 84, 85, 86, 87, 88] (by decide +kernel) (by decide +kernel)
set_option maxRecDepth 20000 in
theorem gX7_kinkAt_X7_hullOf : GoodIn wsX7_kinkAt (wsV RX7 148 RX7 yX7_hullOf wsX7_hullOf) := goodIn_app (goodIn_of _ (by decide +kernel)) ggX7_kinkAt_X7_hullOf
set_option maxRecDepth 20000 in
theorem ggX7_kinkAt_X3_draw : GoodIn wsX7_kinkAt wsX3_draw := goodIn_r _ [17, 18, 19, 20, 21, 22, 23, 24, 25, 26, 27, 28, 29, 16, 30, 31, 32, 33, 34, 35, 36, 37, 38, 39, 40, 41, 42, 43, 44, 45, 46, 47, 48, 49, 50, 51, 52, 53, 54, 55, 56, 57, 58, 59, 60, 61, 62, 63, 64, 65, 66, 67, 89, 90, 91, 92, 93, 94, 95, 96, 97, 98] (by decide +kernel) (by decide +kernel)
set_option maxRecDepth 20000 in
theorem gX7_kinkAt_X3_draw : GoodIn wsX7_kinkAt (wsV RX7 152 RX3 yX3_draw wsX3_draw) := goodIn_app (goodIn_of _ (by decide +kernel)) ggX7_kinkAt_X3_draw
set_option maxRecDepth 20000 in
theorem ggX7_kinkAt_X3_innerCorners : GoodIn wsX7_kinkAt wsX3_innerCorners := goodIn_r _ [71, 18, 72, 73, 74, 75, 89, 90, 91, 92] (by decide +kernel) (by decide +kernel)
set_option maxRecDepth 20000 in
theorem gX7_kinkAt_X3_innerCorners : GoodIn wsX7_kinkAt (wsV RX7 195 RX3 yX3_innerCorners wsX3_innerCorners) := goodIn_app (goodIn_of _ (by decide +kernel)) ggX7_kinkAt_X3_innerCorners
set_option maxRecDepth 20000 in
theorem ggX7_kinkAt_X3_innerCorner : GoodIn wsX7_kinkAt wsX3_innerCorner := goodIn_r _ [79, 20, 80, 69, 70, 16, 71, 18, 72, 73, 74, 75, 89, 90, 91, 92] (by decide +kernel) (by decide +kernel)
set_option maxRecDepth 20000 in
theorem gX7_kinkAt_X3_innerCorner : GoodIn wsX7_kinkAt (wsV RX7 198 RX3 yX3_innerCorner wsX3_innerCorner) := goodIn_app (goodIn_of _ (by decide +kernel)) ggX7_kinkAt_X3_innerCorner
theorem dX7_kinkAt_0 : decode cX7_kinkAt 0 = .ok (.iload_n 1, 1) := by decide +kernel
theorem dX7_kinkAt_1 : decode cX7_kinkAt 1 = .ok (.iconst 4, 1) := by decide +kernel
theorem dX7_kinkAt_2 : decode cX7_kinkAt 2 = .ok (.iconst 5, 1) := by decide +kernel
theorem dX7_kinkAt_3 : decode cX7_kinkAt 3 = .ok (.invokestatic 65, 3) := by decide +kernel
theorem dX7_kinkAt_6 : decode cX7_kinkAt 6 = .ok (.ifCond .ne 7, 3) := by decide +kernel
theorem dX7_kinkAt_9 : decode cX7_kinkAt 9 = .ok (.iload_n 2, 1) := by decide +kernel
theorem dX7_kinkAt_10 : decode cX7_kinkAt 10 = .ok (.ifCond .ge 6, 3) := by decide +kernel
theorem dX7_kinkAt_13 : decode cX7_kinkAt 13 = .ok (.ldc 73, 2) := by decide +kernel
theorem dX7_kinkAt_15 : decode cX7_kinkAt 15 = .ok (.ireturn, 1) := by decide +kernel
theorem dX7_kinkAt_16 : decode cX7_kinkAt 16 = .ok (.aload_n 0, 1) := by decide +kernel
theorem dX7_kinkAt_17 : decode cX7_kinkAt 17 = .ok (.iload_n 1, 1) := by decide +kernel
theorem dX7_kinkAt_18 : decode cX7_kinkAt 18 = .ok (.invokevirtual 148, 3) := by decide +kernel
theorem dX7_kinkAt_21 : decode cX7_kinkAt 21 = .ok (.astore_n 3, 1) := by decide +kernel
theorem dX7_kinkAt_22 : decode cX7_kinkAt 22 = .ok (.aload_n 3, 1) := by decide +kernel
theorem dX7_kinkAt_23 : decode cX7_kinkAt 23 = .ok (.invokevirtual 152, 3) := by decide +kernel
theorem dX7_kinkAt_26 : decode cX7_kinkAt 26 = .ok (.iload_n 2, 1) := by decide +kernel
theorem dX7_kinkAt_27 : decode cX7_kinkAt 27 = .ok (.aload_n 3, 1) := by decide +kernel
theorem dX7_kinkAt_28 : decode cX7_kinkAt 28 = .ok (.invokevirtual 195, 3) := by decide +kernel
theorem dX7_kinkAt_31 : decode cX7_kinkAt 31 = .ok (.if_icmp .lt 6, 3) := by decide +kernel
theorem dX7_kinkAt_34 : decode cX7_kinkAt 34 = .ok (.ldc 194, 2) := by decide +kernel
theorem dX7_kinkAt_36 : decode cX7_kinkAt 36 = .ok (.ireturn, 1) := by decide +kernel
theorem dX7_kinkAt_37 : decode cX7_kinkAt 37 = .ok (.aload_n 3, 1) := by decide +kernel
theorem dX7_kinkAt_38 : decode cX7_kinkAt 38 = .ok (.iload_n 2, 1) := by decide +kernel
theorem dX7_kinkAt_39 : decode cX7_kinkAt 39 = .ok (.invokevirtual 198, 3) := by decide +kernel
theorem dX7_kinkAt_42 : decode cX7_kinkAt 42 = .ok (.ireturn, 1) := by decide +kernel
set_option maxRecDepth 20000 in
theorem ggX7_gap_X7_outside : GoodIn wsX7_gap wsX7_outside := goodIn_r _ [9] (by decide +kernel) (by decide +kernel)
set_option maxRecDepth 20000 in
theorem gX7_gap_X7_outside : GoodIn wsX7_gap (va_wsS RX7 65 yX7_outside wsX7_outside) := goodIn_app (goodIn_of _ (by decide +kernel)) ggX7_gap_X7_outside
set_option maxRecDepth 20000 in
theorem ggX7_gap_X1_size : GoodIn wsX7_gap wsX1_size := goodIn_r _ [14, 15, 117, 118, 119, 120, 121, 122] (by decide +kernel) (by decide +kernel)
set_option maxRecDepth 20000 in
theorem gX7_gap_X1_size : GoodIn wsX7_gap (wsV RX7 131 RX1 yX1_size wsX1_size) := goodIn_app (goodIn_of _ (by decide +kernel)) ggX7_gap_X1_size
set_option maxRecDepth 20000 in
theorem ggX7_gap_X3_draw : GoodIn wsX7_gap wsX3_draw := goodIn_r _ [20, 21, 22, 23, 24, 11, 12, 13, 14, 15, 25, 26, 27, 19, 28, 29, 30, 31, 32, 33, 34, 35, 36, 37, 38, 39, 40, 41, 42, 43, 44, 45, 46, 47, 48, 49, 50, 51, 52, 53, 54, 55, 56, 57, 58, 59, 60, 61, 62, 63, 64, 65, 123, 124, 125, 126, 117, 118, 119, 120, 121, 122] (by decide +kernel) (by decide +kernel)
set_option maxRecDepth 20000 in
theorem gX7_gap_X3_draw : GoodIn wsX7_gap (wsV RX7 152 RX3 yX3_draw wsX3_draw) := goodIn_app (goodIn_of _ (by decide +kernel)) ggX7_gap_X3_draw
set_option maxRecDepth 20000 in
theorem ggX7_gap_X7_widestGap : GoodIn wsX7_gap wsX7_widestGap := goodIn_r _ [69, 2, 10, 11, 12, 13, 14, 15, 70, 71, 72, 8, 73, 5, 4, 74, 75, 76, 19, 77, 78, 79, 80, 81, 21, 23, 82, 83, 84, 85, 86, 87, 88, 89, 22, 90, 39, 40, 41, 42, 48, 49, 50, 51, 52, 44, 45, 46, 47, 53, 54, 55, 56, 57, 58, 59, 60, 61, 62, 63, 64, 65, 91, 92, 93, 94, 95, 96, 97, 98, 109, 110, 111, 112, 113, 114, 115, 116, 117, 118, 119, 120, 121, 122, 123, 124, 125, 126] (by decide +kernel) (by decide +kernel)
set_option maxRecDepth 20000 in
theorem gX7_gap_X7_widestGap : GoodIn wsX7_gap (wsV RX7 201 RX7 yX7_widestGap wsX7_widestGap) := goodIn_app (goodIn_of _ (by decide +kernel)) ggX7_gap_X7_widestGap
set_option maxRecDepth 20000 in
theorem ggX7_gap_X7_gapNumerator : GoodIn wsX7_gap wsX7_gapNumerator := goodIn_r _ [73, 5, 4, 74, 75, 76, 19, 77, 78, 79, 80, 81, 21, 23, 82, 83, 84, 85, 86, 87, 88, 89, 22, 90, 39, 40, 13, 41, 15, 42, 48, 49, 50, 51, 52, 44, 45, 46, 47, 53, 54, 55, 56, 57, 58, 59, 60, 61, 62, 63, 64, 65, 91, 92, 93, 94, 109, 110, 111, 112, 113, 114, 115, 116, 123, 124, 125, 126, 117, 118, 119, 120, 121, 122] (by decide +kernel) (by decide +kernel)
set_option maxRecDepth 20000 in
theorem gX7_gap_X7_gapNumerator : GoodIn wsX7_gap (wsV RX7 204 RX7 yX7_gapNumerator wsX7_gapNumerator) := goodIn_app (goodIn_of _ (by decide +kernel)) ggX7_gap_X7_gapNumerator
set_option maxRecDepth 20000 in
theorem ggX7_gap_X7_gapDenominator : GoodIn wsX7_gap wsX7_gapDenominator := goodIn_r _ [98, 5, 4, 91, 92, 93, 19, 94, 78, 79, 80, 81, 21, 23, 82, 83, 84, 85, 48, 49, 50, 51, 22, 52, 44, 45, 13, 46, 15, 47, 53, 54, 55, 56, 57, 58, 59, 60, 61, 62, 63, 64, 65, 109, 110, 111, 112, 113, 114, 115, 116, 123, 124, 125, 126, 117, 118, 119, 120, 121, 122] (by decide +kernel) (by decide +kernel)
set_option maxRecDepth 20000 in
theorem gX7_gap_X7_gapDenominator : GoodIn wsX7_gap (wsV RX7 207 RX7 yX7_gapDenominator wsX7_gapDenominator) := goodIn_app (goodIn_of _ (by decide +kernel)) ggX7_gap_X7_gapDenominator
set_option maxRecDepth 20000 in
theorem ggX7_gap_X7_lowest : GoodIn wsX7_gap wsX7_lowest := goodIn_r _ [101, 102, 103, 104, 105, 106, 107, 8, 108] (by decide +kernel) (by decide +kernel)
set_option maxRecDepth 20000 in
theorem gX7_gap_X7_lowest : GoodIn wsX7_gap (va_wsS RX7 162 yX7_lowest wsX7_lowest) := goodIn_app (goodIn_of _ (by decide +kernel)) ggX7_gap_X7_lowest
theorem dX7_gap_0 : decode cX7_gap 0 = .ok (.iload_n 1, 1) := by decide +kernel
theorem dX7_gap_1 : decode cX7_gap 1 = .ok (.iconst 0, 1) := by decide +kernel
theorem dX7_gap_2 : decode cX7_gap 2 = .ok (.iconst 2, 1) := by decide +kernel
theorem dX7_gap_3 : decode cX7_gap 3 = .ok (.invokestatic 65, 3) := by decide +kernel
theorem dX7_gap_6 : decode cX7_gap 6 = .ok (.ifCond .eq 7, 3) := by decide +kernel
theorem dX7_gap_9 : decode cX7_gap 9 = .ok (.ldc2_w 146, 3) := by decide +kernel
theorem dX7_gap_12 : decode cX7_gap 12 = .ok (.lreturn, 1) := by decide +kernel
theorem dX7_gap_13 : decode cX7_gap 13 = .ok (.aload_n 0, 1) := by decide +kernel
theorem dX7_gap_14 : decode cX7_gap 14 = .ok (.getfield 33, 3) := by decide +kernel
theorem dX7_gap_17 : decode cX7_gap 17 = .ok (.invokevirtual 131, 3) := by decide +kernel
theorem dX7_gap_20 : decode cX7_gap 20 = .ok (.ifCond .ne 7, 3) := by decide +kernel
theorem dX7_gap_23 : decode cX7_gap 23 = .ok (.ldc2_w 178, 3) := by decide +kernel
theorem dX7_gap_26 : decode cX7_gap 26 = .ok (.lreturn, 1) := by decide +kernel
theorem dX7_gap_27 : decode cX7_gap 27 = .ok (.aload_n 0, 1) := by decide +kernel
theorem dX7_gap_28 : decode cX7_gap 28 = .ok (.getfield 51, 3) := by decide +kernel
theorem dX7_gap_31 : decode cX7_gap 31 = .ok (.invokevirtual 152, 3) := by decide +kernel
theorem dX7_gap_34 : decode cX7_gap 34 = .ok (.aload_n 0, 1) := by decide +kernel
theorem dX7_gap_35 : decode cX7_gap 35 = .ok (.getfield 55, 3) := by decide +kernel
theorem dX7_gap_38 : decode cX7_gap 38 = .ok (.invokevirtual 152, 3) := by decide +kernel
theorem dX7_gap_41 : decode cX7_gap 41 = .ok (.aload_n 0, 1) := by decide +kernel
theorem dX7_gap_42 : decode cX7_gap 42 = .ok (.invokevirtual 201, 3) := by decide +kernel
theorem dX7_gap_45 : decode cX7_gap 45 = .ok (.istore_n 2, 1) := by decide +kernel
theorem dX7_gap_46 : decode cX7_gap 46 = .ok (.iload_n 1, 1) := by decide +kernel
theorem dX7_gap_47 : decode cX7_gap 47 = .ok (.iconst 2, 1) := by decide +kernel
theorem dX7_gap_48 : decode cX7_gap 48 = .ok (.if_icmp .ne 6, 3) := by decide +kernel
theorem dX7_gap_51 : decode cX7_gap 51 = .ok (.iload_n 2, 1) := by decide +kernel
theorem dX7_gap_52 : decode cX7_gap 52 = .ok (.i2l, 1) := by decide +kernel
theorem dX7_gap_53 : decode cX7_gap 53 = .ok (.lreturn, 1) := by decide +kernel
theorem dX7_gap_54 : decode cX7_gap 54 = .ok (.aload_n 0, 1) := by decide +kernel
theorem dX7_gap_55 : decode cX7_gap 55 = .ok (.iload_n 2, 1) := by decide +kernel
theorem dX7_gap_56 : decode cX7_gap 56 = .ok (.invokevirtual 204, 3) := by decide +kernel
theorem dX7_gap_59 : decode cX7_gap 59 = .ok (.aload_n 0, 1) := by decide +kernel
theorem dX7_gap_60 : decode cX7_gap 60 = .ok (.iload_n 2, 1) := by decide +kernel
theorem dX7_gap_61 : decode cX7_gap 61 = .ok (.invokevirtual 207, 3) := by decide +kernel
theorem dX7_gap_64 : decode cX7_gap 64 = .ok (.iload_n 1, 1) := by decide +kernel
theorem dX7_gap_65 : decode cX7_gap 65 = .ok (.invokestatic 162, 3) := by decide +kernel
theorem dX7_gap_68 : decode cX7_gap 68 = .ok (.lreturn, 1) := by decide +kernel
theorem dX7_outside_0 : decode cX7_outside 0 = .ok (.iload_n 0, 1) := by decide +kernel
theorem dX7_outside_1 : decode cX7_outside 1 = .ok (.iload_n 1, 1) := by decide +kernel
theorem dX7_outside_2 : decode cX7_outside 2 = .ok (.if_icmp .lt 8, 3) := by decide +kernel
theorem dX7_outside_5 : decode cX7_outside 5 = .ok (.iload_n 0, 1) := by decide +kernel
theorem dX7_outside_6 : decode cX7_outside 6 = .ok (.iload_n 2, 1) := by decide +kernel
theorem dX7_outside_7 : decode cX7_outside 7 = .ok (.if_icmp .le 7, 3) := by decide +kernel
theorem dX7_outside_10 : decode cX7_outside 10 = .ok (.iconst 1, 1) := by decide +kernel
theorem dX7_outside_11 : decode cX7_outside 11 = .ok (.goto 4, 3) := by decide +kernel
theorem dX7_outside_14 : decode cX7_outside 14 = .ok (.iconst 0, 1) := by decide +kernel
theorem dX7_outside_15 : decode cX7_outside 15 = .ok (.ireturn, 1) := by decide +kernel
set_option maxRecDepth 20000 in
theorem ggX7_wrongValueOrWeight_X7_outside : GoodIn wsX7_wrongValueOrWeight wsX7_outside := goodIn_r _ [4] (by decide +kernel) (by decide +kernel)
set_option maxRecDepth 20000 in
theorem gX7_wrongValueOrWeight_X7_outside : GoodIn wsX7_wrongValueOrWeight (va_wsS RX7 65 yX7_outside wsX7_outside) := goodIn_app (goodIn_of _ (by decide +kernel)) ggX7_wrongValueOrWeight_X7_outside
theorem dX7_wrongValueOrWeight_0 : decode cX7_wrongValueOrWeight 0 = .ok (.iload_n 0, 1) := by decide +kernel
theorem dX7_wrongValueOrWeight_1 : decode cX7_wrongValueOrWeight 1 = .ok (.bipush (-99), 2) := by decide +kernel
theorem dX7_wrongValueOrWeight_3 : decode cX7_wrongValueOrWeight 3 = .ok (.bipush 99, 2) := by decide +kernel
theorem dX7_wrongValueOrWeight_5 : decode cX7_wrongValueOrWeight 5 = .ok (.invokestatic 65, 3) := by decide +kernel
theorem dX7_wrongValueOrWeight_8 : decode cX7_wrongValueOrWeight 8 = .ok (.ifCond .ne 12, 3) := by decide +kernel
theorem dX7_wrongValueOrWeight_11 : decode cX7_wrongValueOrWeight 11 = .ok (.iload_n 1, 1) := by decide +kernel
theorem dX7_wrongValueOrWeight_12 : decode cX7_wrongValueOrWeight 12 = .ok (.iconst 1, 1) := by decide +kernel
theorem dX7_wrongValueOrWeight_13 : decode cX7_wrongValueOrWeight 13 = .ok (.iconst 2, 1) := by decide +kernel
theorem dX7_wrongValueOrWeight_14 : decode cX7_wrongValueOrWeight 14 = .ok (.invokestatic 65, 3) := by decide +kernel
theorem dX7_wrongValueOrWeight_17 : decode cX7_wrongValueOrWeight 17 = .ok (.ifCond .eq 7, 3) := by decide +kernel
theorem dX7_wrongValueOrWeight_20 : decode cX7_wrongValueOrWeight 20 = .ok (.iconst 1, 1) := by decide +kernel
theorem dX7_wrongValueOrWeight_21 : decode cX7_wrongValueOrWeight 21 = .ok (.goto 4, 3) := by decide +kernel
theorem dX7_wrongValueOrWeight_24 : decode cX7_wrongValueOrWeight 24 = .ok (.iconst 0, 1) := by decide +kernel
theorem dX7_wrongValueOrWeight_25 : decode cX7_wrongValueOrWeight 25 = .ok (.ireturn, 1) := by decide +kernel
set_option maxRecDepth 20000 in
theorem ggX7_notFractionPart_X7_outside : GoodIn wsX7_notFractionPart wsX7_outside := goodIn_r _ [4] (by decide +kernel) (by decide +kernel)
set_option maxRecDepth 20000 in
theorem gX7_notFractionPart_X7_outside : GoodIn wsX7_notFractionPart (va_wsS RX7 65 yX7_outside wsX7_outside) := goodIn_app (goodIn_of _ (by decide +kernel)) ggX7_notFractionPart_X7_outside
theorem dX7_notFractionPart_0 : decode cX7_notFractionPart 0 = .ok (.iload_n 0, 1) := by decide +kernel
theorem dX7_notFractionPart_1 : decode cX7_notFractionPart 1 = .ok (.iconst 0, 1) := by decide +kernel
theorem dX7_notFractionPart_2 : decode cX7_notFractionPart 2 = .ok (.iconst 1, 1) := by decide +kernel
theorem dX7_notFractionPart_3 : decode cX7_notFractionPart 3 = .ok (.invokestatic 65, 3) := by decide +kernel
theorem dX7_notFractionPart_6 : decode cX7_notFractionPart 6 = .ok (.ireturn, 1) := by decide +kernel
theorem dX7_hullOf_0 : decode cX7_hullOf 0 = .ok (.iload_n 1, 1) := by decide +kernel
theorem dX7_hullOf_1 : decode cX7_hullOf 1 = .ok (.iconst 4, 1) := by decide +kernel
theorem dX7_hullOf_2 : decode cX7_hullOf 2 = .ok (.if_icmp .ne 10, 3) := by decide +kernel
theorem dX7_hullOf_5 : decode cX7_hullOf 5 = .ok (.aload_n 0, 1) := by decide +kernel
theorem dX7_hullOf_6 : decode cX7_hullOf 6 = .ok (.getfield 51, 3) := by decide +kernel
theorem dX7_hullOf_9 : decode cX7_hullOf 9 = .ok (.goto 7, 3) := by decide +kernel
theorem dX7_hullOf_12 : decode cX7_hullOf 12 = .ok (.aload_n 0, 1) := by decide +kernel
theorem dX7_hullOf_13 : decode cX7_hullOf 13 = .ok (.getfield 55, 3) := by decide +kernel
theorem dX7_hullOf_16 : decode cX7_hullOf 16 = .ok (.areturn, 1) := by decide +kernel
set_option maxRecDepth 20000 in
theorem ggX7_widestGap_X1_size : GoodIn wsX7_widestGap wsX1_size := goodIn_r _ [6, 7, 78, 79, 80, 81, 82, 83] (by decide +kernel) (by decide +kernel)
set_option maxRecDepth 20000 in
theorem gX7_widestGap_X1_size : GoodIn wsX7_widestGap (wsV RX7 131 RX1 yX1_size wsX1_size) := goodIn_app (goodIn_of _ (by decide +kernel)) ggX7_widestGap_X1_size
set_option maxRecDepth 20000 in
theorem ggX7_widestGap_X7_gapNumerator : GoodIn wsX7_widestGap wsX7_gapNumerator := goodIn_r _ [12, 13, 14, 15, 16, 17, 18, 19, 20, 21, 22, 23, 24, 25, 26, 27, 28, 29, 30, 31, 32, 33, 34, 35, 36, 37, 5, 38, 7, 39, 40, 41, 42, 43, 44, 45, 46, 47, 48, 49, 50, 51, 52, 53, 54, 55, 56, 57, 58, 59, 60, 61, 62, 63, 64, 65, 70, 71, 72, 73, 74, 75, 76, 77, 84, 85, 86, 87, 78, 79, 80, 81, 82, 83] (by decide +kernel) (by decide +kernel)
set_option maxRecDepth 20000 in
theorem gX7_widestGap_X7_gapNumerator : GoodIn wsX7_widestGap (wsV RX7 204 RX7 yX7_gapNumerator wsX7_gapNumerator) := goodIn_app (goodIn_of _ (by decide +kernel)) ggX7_widestGap_X7_gapNumerator
set_option maxRecDepth 20000 in
theorem ggX7_widestGap_X7_gapDenominator : GoodIn wsX7_widestGap wsX7_gapDenominator := goodIn_r _ [69, 13, 14, 62, 63, 64, 18, 65, 20, 21, 22, 23, 24, 25, 26, 27, 28, 29, 40, 41, 42, 43, 34, 44, 45, 46, 5, 47, 7, 48, 49, 50, 51, 52, 53, 54, 55, 56, 57, 58, 59, 60, 61, 70, 71, 72, 73, 74, 75, 76, 77, 84, 85, 86, 87, 78, 79, 80, 81, 82, 83] (by decide +kernel) (by decide +kernel)
set_option maxRecDepth 20000 in
theorem gX7_widestGap_X7_gapDenominator : GoodIn wsX7_widestGap (wsV RX7 207 RX7 yX7_gapDenominator wsX7_gapDenominator) := goodIn_app (goodIn_of _ (by decide +kernel)) ggX7_widestGap_X7_gapDenominator
theorem dX7_widestGap_0 : decode cX7_widestGap 0 = .ok (.iconst 0, 1) := by decide +kernel
theorem dX7_widestGap_1 : decode cX7_widestGap 1 = .ok (.istore_n 1, 1) := by decide +kernel
theorem dX7_widestGap_2 : decode cX7_widestGap 2 = .ok (.iconst 1, 1) := by decide +kernel
theorem dX7_widestGap_3 : decode cX7_widestGap 3 = .ok (.istore_n 2, 1) := by decide +kernel
theorem dX7_widestGap_4 : decode cX7_widestGap 4 = .ok (.iload_n 2, 1) := by decide +kernel
theorem dX7_widestGap_5 : decode cX7_widestGap 5 = .ok (.aload_n 0, 1) := by decide +kernel
theorem dX7_widestGap_6 : decode cX7_widestGap 6 = .ok (.getfield 33, 3) := by decide +kernel
theorem dX7_widestGap_9 : decode cX7_widestGap 9 = .ok (.invokevirtual 131, 3) := by decide +kernel
theorem dX7_widestGap_12 : decode cX7_widestGap 12 = .ok (.if_icmp .ge 43, 3) := by decide +kernel
theorem dX7_widestGap_15 : decode cX7_widestGap 15 = .ok (.aload_n 0, 1) := by decide +kernel
theorem dX7_widestGap_16 : decode cX7_widestGap 16 = .ok (.iload_n 2, 1) := by decide +kernel
theorem dX7_widestGap_17 : decode cX7_widestGap 17 = .ok (.invokevirtual 204, 3) := by decide +kernel
theorem dX7_widestGap_20 : decode cX7_widestGap 20 = .ok (.aload_n 0, 1) := by decide +kernel
theorem dX7_widestGap_21 : decode cX7_widestGap 21 = .ok (.iload_n 1, 1) := by decide +kernel
theorem dX7_widestGap_22 : decode cX7_widestGap 22 = .ok (.invokevirtual 207, 3) := by decide +kernel
theorem dX7_widestGap_25 : decode cX7_widestGap 25 = .ok (.lmul, 1) := by decide +kernel
theorem dX7_widestGap_26 : decode cX7_widestGap 26 = .ok (.lstore_n 3, 1) := by decide +kernel
theorem dX7_widestGap_27 : decode cX7_widestGap 27 = .ok (.aload_n 0, 1) := by decide +kernel
theorem dX7_widestGap_28 : decode cX7_widestGap 28 = .ok (.iload_n 1, 1) := by decide +kernel
theorem dX7_widestGap_29 : decode cX7_widestGap 29 = .ok (.invokevirtual 204, 3) := by decide +kernel
theorem dX7_widestGap_32 : decode cX7_widestGap 32 = .ok (.aload_n 0, 1) := by decide +kernel
theorem dX7_widestGap_33 : decode cX7_widestGap 33 = .ok (.iload_n 2, 1) := by decide +kernel
theorem dX7_widestGap_34 : decode cX7_widestGap 34 = .ok (.invokevirtual 207, 3) := by decide +kernel
theorem dX7_widestGap_37 : decode cX7_widestGap 37 = .ok (.lmul, 1) := by decide +kernel
theorem dX7_widestGap_38 : decode cX7_widestGap 38 = .ok (.lstore 5, 2) := by decide +kernel
theorem dX7_widestGap_40 : decode cX7_widestGap 40 = .ok (.lload_n 3, 1) := by decide +kernel
theorem dX7_widestGap_41 : decode cX7_widestGap 41 = .ok (.lload 5, 2) := by decide +kernel
theorem dX7_widestGap_43 : decode cX7_widestGap 43 = .ok (.lcmp, 1) := by decide +kernel
theorem dX7_widestGap_44 : decode cX7_widestGap 44 = .ok (.ifCond .le 5, 3) := by decide +kernel
theorem dX7_widestGap_47 : decode cX7_widestGap 47 = .ok (.iload_n 2, 1) := by decide +kernel
theorem dX7_widestGap_48 : decode cX7_widestGap 48 = .ok (.istore_n 1, 1) := by decide +kernel
theorem dX7_widestGap_49 : decode cX7_widestGap 49 = .ok (.iinc 2 1, 3) := by decide +kernel
theorem dX7_widestGap_52 : decode cX7_widestGap 52 = .ok (.goto (-48), 3) := by decide +kernel
theorem dX7_widestGap_55 : decode cX7_widestGap 55 = .ok (.iload_n 1, 1) := by decide +kernel
theorem dX7_widestGap_56 : decode cX7_widestGap 56 = .ok (.ireturn, 1) := by decide +kernel
set_option maxRecDepth 20000 in
theorem ggX7_gapNumerator_X3_numeratorAt : GoodIn wsX7_gapNumerator wsX3_numeratorAt := goodIn_r _ [7, 8, 9, 10, 6, 11, 12, 13, 14, 15, 16, 17, 18, 19, 20, 21, 22, 23, 24, 25, 26, 27, 28, 29, 30, 31, 32, 33, 34, 35, 36, 37, 38, 39, 40, 41, 42, 43, 44, 45, 46, 47, 48, 49, 50, 51, 64, 65, 66, 67, 68, 69, 70, 71, 72, 73] (by decide +kernel) (by decide +kernel)
set_option maxRecDepth 20000 in
theorem gX7_gapNumerator_X3_numeratorAt : GoodIn wsX7_gapNumerator (wsV RX7 155 RX3 yX3_numeratorAt wsX3_numeratorAt) := goodIn_app (goodIn_of _ (by decide +kernel)) ggX7_gapNumerator_X3_numeratorAt
set_option maxRecDepth 20000 in
theorem ggX7_gapNumerator_X3_denominatorAt : GoodIn wsX7_gapNumerator wsX3_denominatorAt := goodIn_r _ [55, 8, 9, 10, 6, 11, 12, 13, 14, 15, 16, 17, 30, 31, 32, 33, 22, 34, 35, 36, 26, 37, 28, 38, 39, 40, 41, 42, 43, 44, 45, 46, 47, 48, 49, 50, 51, 64, 65, 66, 67, 68, 69, 70, 71, 72, 73] (by decide +kernel) (by decide +kernel)
set_option maxRecDepth 20000 in
theorem gX7_gapNumerator_X3_denominatorAt : GoodIn wsX7_gapNumerator (wsV RX7 159 RX3 yX3_denominatorAt wsX3_denominatorAt) := goodIn_app (goodIn_of _ (by decide +kernel)) ggX7_gapNumerator_X3_denominatorAt
theorem dX7_gapNumerator_0 : decode cX7_gapNumerator 0 = .ok (.aload_n 0, 1) := by decide +kernel
theorem dX7_gapNumerator_1 : decode cX7_gapNumerator 1 = .ok (.getfield 55, 3) := by decide +kernel
theorem dX7_gapNumerator_4 : decode cX7_gapNumerator 4 = .ok (.iload_n 1, 1) := by decide +kernel
theorem dX7_gapNumerator_5 : decode cX7_gapNumerator 5 = .ok (.invokevirtual 155, 3) := by decide +kernel
theorem dX7_gapNumerator_8 : decode cX7_gapNumerator 8 = .ok (.aload_n 0, 1) := by decide +kernel
theorem dX7_gapNumerator_9 : decode cX7_gapNumerator 9 = .ok (.getfield 51, 3) := by decide +kernel
theorem dX7_gapNumerator_12 : decode cX7_gapNumerator 12 = .ok (.iload_n 1, 1) := by decide +kernel
theorem dX7_gapNumerator_13 : decode cX7_gapNumerator 13 = .ok (.invokevirtual 159, 3) := by decide +kernel
theorem dX7_gapNumerator_16 : decode cX7_gapNumerator 16 = .ok (.lmul, 1) := by decide +kernel
theorem dX7_gapNumerator_17 : decode cX7_gapNumerator 17 = .ok (.aload_n 0, 1) := by decide +kernel
theorem dX7_gapNumerator_18 : decode cX7_gapNumerator 18 = .ok (.getfield 51, 3) := by decide +kernel
theorem dX7_gapNumerator_21 : decode cX7_gapNumerator 21 = .ok (.iload_n 1, 1) := by decide +kernel
theorem dX7_gapNumerator_22 : decode cX7_gapNumerator 22 = .ok (.invokevirtual 155, 3) := by decide +kernel
theorem dX7_gapNumerator_25 : decode cX7_gapNumerator 25 = .ok (.aload_n 0, 1) := by decide +kernel
theorem dX7_gapNumerator_26 : decode cX7_gapNumerator 26 = .ok (.getfield 55, 3) := by decide +kernel
theorem dX7_gapNumerator_29 : decode cX7_gapNumerator 29 = .ok (.iload_n 1, 1) := by decide +kernel
theorem dX7_gapNumerator_30 : decode cX7_gapNumerator 30 = .ok (.invokevirtual 159, 3) := by decide +kernel
theorem dX7_gapNumerator_33 : decode cX7_gapNumerator 33 = .ok (.lmul, 1) := by decide +kernel
theorem dX7_gapNumerator_34 : decode cX7_gapNumerator 34 = .ok (.lsub, 1) := by decide +kernel
theorem dX7_gapNumerator_35 : decode cX7_gapNumerator 35 = .ok (.lreturn, 1) := by decide +kernel
set_option maxRecDepth 20000 in
theorem ggX7_gapDenominator_X3_denominatorAt : GoodIn wsX7_gapDenominator wsX3_denominatorAt := goodIn_r _ [7, 8, 9, 10, 6, 11, 12, 13, 14, 15, 16, 17, 18, 19, 20, 21, 22, 23, 24, 25, 26, 27, 28, 29, 30, 31, 32, 33, 34, 35, 36, 37, 38, 39, 40, 41, 42, 51, 52, 53, 54, 55, 56, 57, 58, 59, 60] (by decide +kernel) (by decide +kernel)
set_option maxRecDepth 20000 in
theorem gX7_gapDenominator_X3_denominatorAt : GoodIn wsX7_gapDenominator (wsV RX7 159 RX3 yX3_denominatorAt wsX3_denominatorAt) := goodIn_app (goodIn_of _ (by decide +kernel)) ggX7_gapDenominator_X3_denominatorAt
theorem dX7_gapDenominator_0 : decode cX7_gapDenominator 0 = .ok (.aload_n 0, 1) := by decide +kernel
theorem dX7_gapDenominator_1 : decode cX7_gapDenominator 1 = .ok (.getfield 55, 3) := by decide +kernel
theorem dX7_gapDenominator_4 : decode cX7_gapDenominator 4 = .ok (.iload_n 1, 1) := by decide +kernel
theorem dX7_gapDenominator_5 : decode cX7_gapDenominator 5 = .ok (.invokevirtual 159, 3) := by decide +kernel
theorem dX7_gapDenominator_8 : decode cX7_gapDenominator 8 = .ok (.aload_n 0, 1) := by decide +kernel
theorem dX7_gapDenominator_9 : decode cX7_gapDenominator 9 = .ok (.getfield 51, 3) := by decide +kernel
theorem dX7_gapDenominator_12 : decode cX7_gapDenominator 12 = .ok (.iload_n 1, 1) := by decide +kernel
theorem dX7_gapDenominator_13 : decode cX7_gapDenominator 13 = .ok (.invokevirtual 159, 3) := by decide +kernel
theorem dX7_gapDenominator_16 : decode cX7_gapDenominator 16 = .ok (.lmul, 1) := by decide +kernel
theorem dX7_gapDenominator_17 : decode cX7_gapDenominator 17 = .ok (.lreturn, 1) := by decide +kernel
set_option maxRecDepth 20000 in
theorem ggX7_lowest_X7_greatestDivisor : GoodIn wsX7_lowest wsX7_greatestDivisor := goodIn_r _ [8] (by decide +kernel) (by decide +kernel)
set_option maxRecDepth 20000 in
theorem gX7_lowest_X7_greatestDivisor : GoodIn wsX7_lowest (va_wsS RX7 253 yX7_greatestDivisor wsX7_greatestDivisor) := goodIn_app (goodIn_of _ (by decide +kernel)) ggX7_lowest_X7_greatestDivisor
theorem dX7_lowest_0 : decode cX7_lowest 0 = .ok (.iload 4, 2) := by decide +kernel
theorem dX7_lowest_2 : decode cX7_lowest 2 = .ok (.ifCond .ne 7, 3) := by decide +kernel
theorem dX7_lowest_5 : decode cX7_lowest 5 = .ok (.lload_n 0, 1) := by decide +kernel
theorem dX7_lowest_6 : decode cX7_lowest 6 = .ok (.goto 4, 3) := by decide +kernel
theorem dX7_lowest_9 : decode cX7_lowest 9 = .ok (.lload_n 2, 1) := by decide +kernel
theorem dX7_lowest_10 : decode cX7_lowest 10 = .ok (.lstore 5, 2) := by decide +kernel
theorem dX7_lowest_12 : decode cX7_lowest 12 = .ok (.lload_n 0, 1) := by decide +kernel
theorem dX7_lowest_13 : decode cX7_lowest 13 = .ok (.invokestatic 247, 3) := by decide +kernel
theorem dX7_lowest_16 : decode cX7_lowest 16 = .ok (.lload_n 2, 1) := by decide +kernel
theorem dX7_lowest_17 : decode cX7_lowest 17 = .ok (.invokestatic 253, 3) := by decide +kernel
theorem dX7_lowest_20 : decode cX7_lowest 20 = .ok (.lstore 7, 2) := by decide +kernel
theorem dX7_lowest_22 : decode cX7_lowest 22 = .ok (.lload 7, 2) := by decide +kernel
theorem dX7_lowest_24 : decode cX7_lowest 24 = .ok (.lconst 0, 1) := by decide +kernel
theorem dX7_lowest_25 : decode cX7_lowest 25 = .ok (.lcmp, 1) := by decide +kernel
theorem dX7_lowest_26 : decode cX7_lowest 26 = .ok (.ifCond .ne 8, 3) := by decide +kernel
theorem dX7_lowest_29 : decode cX7_lowest 29 = .ok (.lload 5, 2) := by decide +kernel
theorem dX7_lowest_31 : decode cX7_lowest 31 = .ok (.goto 8, 3) := by decide +kernel
theorem dX7_lowest_34 : decode cX7_lowest 34 = .ok (.lload 5, 2) := by decide +kernel
theorem dX7_lowest_36 : decode cX7_lowest 36 = .ok (.lload 7, 2) := by decide +kernel
theorem dX7_lowest_38 : decode cX7_lowest 38 = .ok (.ldiv, 1) := by decide +kernel
theorem dX7_lowest_39 : decode cX7_lowest 39 = .ok (.lreturn, 1) := by decide +kernel
theorem dX7_greatestDivisor_0 : decode cX7_greatestDivisor 0 = .ok (.lload_n 0, 1) := by decide +kernel
theorem dX7_greatestDivisor_1 : decode cX7_greatestDivisor 1 = .ok (.lstore 4, 2) := by decide +kernel
theorem dX7_greatestDivisor_3 : decode cX7_greatestDivisor 3 = .ok (.lload_n 2, 1) := by decide +kernel
theorem dX7_greatestDivisor_4 : decode cX7_greatestDivisor 4 = .ok (.lstore 6, 2) := by decide +kernel
theorem dX7_greatestDivisor_6 : decode cX7_greatestDivisor 6 = .ok (.iconst 0, 1) := by decide +kernel
theorem dX7_greatestDivisor_7 : decode cX7_greatestDivisor 7 = .ok (.istore 8, 2) := by decide +kernel
theorem dX7_greatestDivisor_9 : decode cX7_greatestDivisor 9 = .ok (.iload 8, 2) := by decide +kernel
theorem dX7_greatestDivisor_11 : decode cX7_greatestDivisor 11 = .ok (.sipush 1000, 3) := by decide +kernel
theorem dX7_greatestDivisor_14 : decode cX7_greatestDivisor 14 = .ok (.if_icmp .ge 31, 3) := by decide +kernel
theorem dX7_greatestDivisor_17 : decode cX7_greatestDivisor 17 = .ok (.lload 6, 2) := by decide +kernel
theorem dX7_greatestDivisor_19 : decode cX7_greatestDivisor 19 = .ok (.lconst 0, 1) := by decide +kernel
theorem dX7_greatestDivisor_20 : decode cX7_greatestDivisor 20 = .ok (.lcmp, 1) := by decide +kernel
theorem dX7_greatestDivisor_21 : decode cX7_greatestDivisor 21 = .ok (.ifCond .eq 24, 3) := by decide +kernel
theorem dX7_greatestDivisor_24 : decode cX7_greatestDivisor 24 = .ok (.lload 4, 2) := by decide +kernel
theorem dX7_greatestDivisor_26 : decode cX7_greatestDivisor 26 = .ok (.lload 6, 2) := by decide +kernel
theorem dX7_greatestDivisor_28 : decode cX7_greatestDivisor 28 = .ok (.lrem, 1) := by decide +kernel
theorem dX7_greatestDivisor_29 : decode cX7_greatestDivisor 29 = .ok (.lstore 9, 2) := by decide +kernel
theorem dX7_greatestDivisor_31 : decode cX7_greatestDivisor 31 = .ok (.lload 6, 2) := by decide +kernel
theorem dX7_greatestDivisor_33 : decode cX7_greatestDivisor 33 = .ok (.lstore 4, 2) := by decide +kernel
theorem dX7_greatestDivisor_35 : decode cX7_greatestDivisor 35 = .ok (.lload 9, 2) := by decide +kernel
theorem dX7_greatestDivisor_37 : decode cX7_greatestDivisor 37 = .ok (.lstore 6, 2) := by decide +kernel
theorem dX7_greatestDivisor_39 : decode cX7_greatestDivisor 39 = .ok (.iinc 8 1, 3) := by decide +kernel
theorem dX7_greatestDivisor_42 : decode cX7_greatestDivisor 42 = .ok (.goto (-33), 3) := by decide +kernel
theorem dX7_greatestDivisor_45 : decode cX7_greatestDivisor 45 = .ok (.lload 4, 2) := by decide +kernel
theorem dX7_greatestDivisor_47 : decode cX7_greatestDivisor 47 = .ok (.lreturn, 1) := by decide +kernel
