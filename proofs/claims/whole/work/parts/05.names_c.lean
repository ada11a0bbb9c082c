theorem dX8_init_0 : decode cX8_init 0 = .ok (.aload_n 0, 1) := by decide +kernel
theorem dX8_init_1 : decode cX8_init 1 = .ok (.invokespecial 1, 3) := by decide +kernel
theorem dX8_init_4 : decode cX8_init 4 = .ok (.aload_n 0, 1) := by decide +kernel
theorem dX8_init_5 : decode cX8_init 5 = .ok (.bipush 37, 2) := by decide +kernel
theorem dX8_init_7 : decode cX8_init 7 = .ok (.newarray .int, 2) := by decide +kernel
theorem dX8_init_9 : decode cX8_init 9 = .ok (.putfield 7, 3) := by decide +kernel
theorem dX8_init_12 : decode cX8_init 12 = .ok (.aload_n 0, 1) := by decide +kernel
theorem dX8_init_13 : decode cX8_init 13 = .ok (.sipush 222, 3) := by decide +kernel
theorem dX8_init_16 : decode cX8_init 16 = .ok (.newarray .int, 2) := by decide +kernel
theorem dX8_init_18 : decode cX8_init 18 = .ok (.putfield 13, 3) := by decide +kernel
theorem dX8_init_21 : decode cX8_init 21 = .ok (.aload_n 0, 1) := by decide +kernel
theorem dX8_init_22 : decode cX8_init 22 = .ok (.bipush 90, 2) := by decide +kernel
theorem dX8_init_24 : decode cX8_init 24 = .ok (.newarray .char, 2) := by decide +kernel
theorem dX8_init_26 : decode cX8_init 26 = .ok (.putfield 16, 3) := by decide +kernel
theorem dX8_init_29 : decode cX8_init 29 = .ok (.aload_n 0, 1) := by decide +kernel
theorem dX8_init_30 : decode cX8_init 30 = .ok (.iconst 3, 1) := by decide +kernel
theorem dX8_init_31 : decode cX8_init 31 = .ok (.newarray .int, 2) := by decide +kernel
theorem dX8_init_33 : decode cX8_init 33 = .ok (.putfield 20, 3) := by decide +kernel
theorem dX8_init_36 : decode cX8_init 36 = .ok (.aload_n 0, 1) := by decide +kernel
theorem dX8_init_37 : decode cX8_init 37 = .ok (.bipush 36, 2) := by decide +kernel
theorem dX8_init_39 : decode cX8_init 39 = .ok (.newarray .int, 2) := by decide +kernel
theorem dX8_init_41 : decode cX8_init 41 = .ok (.putfield 23, 3) := by decide +kernel
theorem dX8_init_44 : decode cX8_init 44 = .ok (.aload_n 0, 1) := by decide +kernel
theorem dX8_init_45 : decode cX8_init 45 = .ok (.bipush 12, 2) := by decide +kernel
theorem dX8_init_47 : decode cX8_init 47 = .ok (.newarray .int, 2) := by decide +kernel
theorem dX8_init_49 : decode cX8_init 49 = .ok (.putfield 26, 3) := by decide +kernel
theorem dX8_init_52 : decode cX8_init 52 = .ok (.aload_n 0, 1) := by decide +kernel
theorem dX8_init_53 : decode cX8_init 53 = .ok (.bipush 12, 2) := by decide +kernel
theorem dX8_init_55 : decode cX8_init 55 = .ok (.newarray .int, 2) := by decide +kernel
theorem dX8_init_57 : decode cX8_init 57 = .ok (.putfield 29, 3) := by decide +kernel
theorem dX8_init_60 : decode cX8_init 60 = .ok (.aload_n 0, 1) := by decide +kernel
theorem dX8_init_61 : decode cX8_init 61 = .ok (.bipush 12, 2) := by decide +kernel
theorem dX8_init_63 : decode cX8_init 63 = .ok (.newarray .int, 2) := by decide +kernel
theorem dX8_init_65 : decode cX8_init 65 = .ok (.putfield 32, 3) := by decide +kernel
theorem dX8_init_68 : decode cX8_init 68 = .ok (.aload_n 0, 1) := by decide +kernel
theorem dX8_init_69 : decode cX8_init 69 = .ok (.bipush 14, 2) := by decide +kernel
theorem dX8_init_71 : decode cX8_init 71 = .ok (.newarray .int, 2) := by decide +kernel
theorem dX8_init_73 : decode cX8_init 73 = .ok (.putfield 35, 3) := by decide +kernel
theorem dX8_init_76 : decode cX8_init 76 = .ok (.aload_n 0, 1) := by decide +kernel
theorem dX8_init_77 : decode cX8_init 77 = .ok (.bipush 13, 2) := by decide +kernel
theorem dX8_init_79 : decode cX8_init 79 = .ok (.newarray .int, 2) := by decide +kernel
theorem dX8_init_81 : decode cX8_init 81 = .ok (.putfield 38, 3) := by decide +kernel
theorem dX8_init_84 : decode cX8_init 84 = .ok (.aload_n 0, 1) := by decide +kernel
theorem dX8_init_85 : decode cX8_init 85 = .ok (.bipush 13, 2) := by decide +kernel
theorem dX8_init_87 : decode cX8_init 87 = .ok (.newarray .int, 2) := by decide +kernel
theorem dX8_init_89 : decode cX8_init 89 = .ok (.putfield 41, 3) := by decide +kernel
theorem dX8_init_92 : decode cX8_init 92 = .ok (.aload_n 0, 1) := by decide +kernel
theorem dX8_init_93 : decode cX8_init 93 = .ok (.bipush 13, 2) := by decide +kernel
theorem dX8_init_95 : decode cX8_init 95 = .ok (.newarray .int, 2) := by decide +kernel
theorem dX8_init_97 : decode cX8_init 97 = .ok (.putfield 44, 3) := by decide +kernel
theorem dX8_init_100 : decode cX8_init 100 = .ok (.aload_n 0, 1) := by decide +kernel
theorem dX8_init_101 : decode cX8_init 101 = .ok (.sipush 169, 3) := by decide +kernel
theorem dX8_init_104 : decode cX8_init 104 = .ok (.newarray .long, 2) := by decide +kernel
theorem dX8_init_106 : decode cX8_init 106 = .ok (.putfield 47, 3) := by decide +kernel
theorem dX8_init_109 : decode cX8_init 109 = .ok (.aload_n 0, 1) := by decide +kernel
theorem dX8_init_110 : decode cX8_init 110 = .ok (.sipush 169, 3) := by decide +kernel
theorem dX8_init_113 : decode cX8_init 113 = .ok (.newarray .int, 2) := by decide +kernel
theorem dX8_init_115 : decode cX8_init 115 = .ok (.putfield 51, 3) := by decide +kernel
theorem dX8_init_118 : decode cX8_init 118 = .ok (.return_, 1) := by decide +kernel
theorem dX8_in_0 : decode cX8_in 0 = .ok (.iload_n 0, 1) := by decide +kernel
theorem dX8_in_1 : decode cX8_in 1 = .ok (.iload_n 1, 1) := by decide +kernel
theorem dX8_in_2 : decode cX8_in 2 = .ok (.if_icmp .lt 12, 3) := by decide +kernel
theorem dX8_in_5 : decode cX8_in 5 = .ok (.iload_n 0, 1) := by decide +kernel
theorem dX8_in_6 : decode cX8_in 6 = .ok (.iload_n 2, 1) := by decide +kernel
theorem dX8_in_7 : decode cX8_in 7 = .ok (.if_icmp .gt 7, 3) := by decide +kernel
theorem dX8_in_10 : decode cX8_in 10 = .ok (.iconst 1, 1) := by decide +kernel
theorem dX8_in_11 : decode cX8_in 11 = .ok (.goto 4, 3) := by decide +kernel
theorem dX8_in_14 : decode cX8_in 14 = .ok (.iconst 0, 1) := by decide +kernel
theorem dX8_in_15 : decode cX8_in 15 = .ok (.ireturn, 1) := by decide +kernel
set_option maxRecDepth 20000 in
theorem ggX8_isPoint_X8_in : GoodIn wsX8_isPoint wsX8_in := goodIn_r _ [5] (by decide +kernel) (by decide +kernel)
set_option maxRecDepth 20000 in
theorem gX8_isPoint_X8_in : GoodIn wsX8_isPoint (va_wsS RX8 54 yX8_in wsX8_in) := goodIn_app (goodIn_of _ (by decide +kernel)) ggX8_isPoint_X8_in
theorem dX8_isPoint_0 : decode cX8_isPoint 0 = .ok (.iload_n 1, 1) := by decide +kernel
theorem dX8_isPoint_1 : decode cX8_isPoint 1 = .ok (.iconst 0, 1) := by decide +kernel
theorem dX8_isPoint_2 : decode cX8_isPoint 2 = .ok (.aload_n 0, 1) := by decide +kernel
theorem dX8_isPoint_3 : decode cX8_isPoint 3 = .ok (.getfield 7, 3) := by decide +kernel
theorem dX8_isPoint_6 : decode cX8_isPoint 6 = .ok (.iconst 0, 1) := by decide +kernel
theorem dX8_isPoint_7 : decode cX8_isPoint 7 = .ok (.iaload, 1) := by decide +kernel
theorem dX8_isPoint_8 : decode cX8_isPoint 8 = .ok (.iconst 1, 1) := by decide +kernel
theorem dX8_isPoint_9 : decode cX8_isPoint 9 = .ok (.isub, 1) := by decide +kernel
theorem dX8_isPoint_10 : decode cX8_isPoint 10 = .ok (.invokestatic 54, 3) := by decide +kernel
theorem dX8_isPoint_13 : decode cX8_isPoint 13 = .ok (.ireturn, 1) := by decide +kernel
theorem dX8_records_0 : decode cX8_records 0 = .ok (.aload_n 0, 1) := by decide +kernel
theorem dX8_records_1 : decode cX8_records 1 = .ok (.getfield 58, 3) := by decide +kernel
theorem dX8_records_4 : decode cX8_records 4 = .ok (.bipush 6, 2) := by decide +kernel
theorem dX8_records_6 : decode cX8_records 6 = .ok (.if_icmp .ne 43, 3) := by decide +kernel
theorem dX8_records_9 : decode cX8_records 9 = .ok (.iconst 0, 1) := by decide +kernel
theorem dX8_records_10 : decode cX8_records 10 = .ok (.istore_n 1, 1) := by decide +kernel
theorem dX8_records_11 : decode cX8_records 11 = .ok (.iload_n 1, 1) := by decide +kernel
theorem dX8_records_12 : decode cX8_records 12 = .ok (.sipush 185, 3) := by decide +kernel
theorem dX8_records_15 : decode cX8_records 15 = .ok (.if_icmp .ge 24, 3) := by decide +kernel
theorem dX8_records_18 : decode cX8_records 18 = .ok (.aload_n 0, 1) := by decide +kernel
theorem dX8_records_19 : decode cX8_records 19 = .ok (.getfield 13, 3) := by decide +kernel
theorem dX8_records_22 : decode cX8_records 22 = .ok (.iload_n 1, 1) := by decide +kernel
theorem dX8_records_23 : decode cX8_records 23 = .ok (.aload_n 0, 1) := by decide +kernel
theorem dX8_records_24 : decode cX8_records 24 = .ok (.getfield 13, 3) := by decide +kernel
theorem dX8_records_27 : decode cX8_records 27 = .ok (.iload_n 1, 1) := by decide +kernel
theorem dX8_records_28 : decode cX8_records 28 = .ok (.bipush 37, 2) := by decide +kernel
theorem dX8_records_30 : decode cX8_records 30 = .ok (.iadd, 1) := by decide +kernel
theorem dX8_records_31 : decode cX8_records 31 = .ok (.iaload, 1) := by decide +kernel
theorem dX8_records_32 : decode cX8_records 32 = .ok (.iastore, 1) := by decide +kernel
theorem dX8_records_33 : decode cX8_records 33 = .ok (.iinc 1 1, 3) := by decide +kernel
theorem dX8_records_36 : decode cX8_records 36 = .ok (.goto (-25), 3) := by decide +kernel
theorem dX8_records_39 : decode cX8_records 39 = .ok (.aload_n 0, 1) := by decide +kernel
theorem dX8_records_40 : decode cX8_records 40 = .ok (.dup, 1) := by decide +kernel
theorem dX8_records_41 : decode cX8_records 41 = .ok (.getfield 58, 3) := by decide +kernel
theorem dX8_records_44 : decode cX8_records 44 = .ok (.iconst 1, 1) := by decide +kernel
theorem dX8_records_45 : decode cX8_records 45 = .ok (.isub, 1) := by decide +kernel
theorem dX8_records_46 : decode cX8_records 46 = .ok (.putfield 58, 3) := by decide +kernel
theorem dX8_records_49 : decode cX8_records 49 = .ok (.iconst 0, 1) := by decide +kernel
theorem dX8_records_50 : decode cX8_records 50 = .ok (.istore_n 1, 1) := by decide +kernel
theorem dX8_records_51 : decode cX8_records 51 = .ok (.iload_n 1, 1) := by decide +kernel
theorem dX8_records_52 : decode cX8_records 52 = .ok (.bipush 37, 2) := by decide +kernel
theorem dX8_records_54 : decode cX8_records 54 = .ok (.if_icmp .ge 29, 3) := by decide +kernel
theorem dX8_records_57 : decode cX8_records 57 = .ok (.aload_n 0, 1) := by decide +kernel
theorem dX8_records_58 : decode cX8_records 58 = .ok (.getfield 13, 3) := by decide +kernel
theorem dX8_records_61 : decode cX8_records 61 = .ok (.bipush 37, 2) := by decide +kernel
theorem dX8_records_63 : decode cX8_records 63 = .ok (.aload_n 0, 1) := by decide +kernel
theorem dX8_records_64 : decode cX8_records 64 = .ok (.getfield 58, 3) := by decide +kernel
theorem dX8_records_67 : decode cX8_records 67 = .ok (.imul, 1) := by decide +kernel
theorem dX8_records_68 : decode cX8_records 68 = .ok (.iload_n 1, 1) := by decide +kernel
theorem dX8_records_69 : decode cX8_records 69 = .ok (.iadd, 1) := by decide +kernel
theorem dX8_records_70 : decode cX8_records 70 = .ok (.aload_n 0, 1) := by decide +kernel
theorem dX8_records_71 : decode cX8_records 71 = .ok (.getfield 7, 3) := by decide +kernel
theorem dX8_records_74 : decode cX8_records 74 = .ok (.iload_n 1, 1) := by decide +kernel
theorem dX8_records_75 : decode cX8_records 75 = .ok (.iaload, 1) := by decide +kernel
theorem dX8_records_76 : decode cX8_records 76 = .ok (.iastore, 1) := by decide +kernel
theorem dX8_records_77 : decode cX8_records 77 = .ok (.iinc 1 1, 3) := by decide +kernel
theorem dX8_records_80 : decode cX8_records 80 = .ok (.goto (-29), 3) := by decide +kernel
theorem dX8_records_83 : decode cX8_records 83 = .ok (.aload_n 0, 1) := by decide +kernel
theorem dX8_records_84 : decode cX8_records 84 = .ok (.dup, 1) := by decide +kernel
theorem dX8_records_85 : decode cX8_records 85 = .ok (.getfield 58, 3) := by decide +kernel
theorem dX8_records_88 : decode cX8_records 88 = .ok (.iconst 1, 1) := by decide +kernel
theorem dX8_records_89 : decode cX8_records 89 = .ok (.iadd, 1) := by decide +kernel
theorem dX8_records_90 : decode cX8_records 90 = .ok (.putfield 58, 3) := by decide +kernel
theorem dX8_records_93 : decode cX8_records 93 = .ok (.return_, 1) := by decide +kernel
set_option maxRecDepth 20000 in
theorem ggX8_add_X8_in : GoodIn wsX8_add wsX8_in := goodIn_r _ [7] (by decide +kernel) (by decide +kernel)
set_option maxRecDepth 20000 in
theorem gX8_add_X8_in : GoodIn wsX8_add (va_wsS RX8 54 yX8_in wsX8_in) := goodIn_app (goodIn_of _ (by decide +kernel)) ggX8_add_X8_in
set_option maxRecDepth 20000 in
theorem ggX8_add_X8_records : GoodIn wsX8_add wsX8_records := goodIn_r _ [11, 12, 13, 2, 14, 15, 16, 17, 18, 19, 20, 21, 22, 23, 24, 25, 26, 27, 28, 29, 30, 31, 32, 33, 34, 35, 36, 37] (by decide +kernel) (by decide +kernel)
set_option maxRecDepth 20000 in
theorem gX8_add_X8_records : GoodIn wsX8_add (wsV RX8 64 RX8 yX8_records wsX8_records) := goodIn_app (goodIn_of _ (by decide +kernel)) ggX8_add_X8_records
theorem dX8_add_0 : decode cX8_add 0 = .ok (.iload_n 1, 1) := by decide +kernel
theorem dX8_add_1 : decode cX8_add 1 = .ok (.iconst 0, 1) := by decide +kernel
theorem dX8_add_2 : decode cX8_add 2 = .ok (.bipush 40, 2) := by decide +kernel
theorem dX8_add_4 : decode cX8_add 4 = .ok (.invokestatic 54, 3) := by decide +kernel
theorem dX8_add_7 : decode cX8_add 7 = .ok (.ifCond .eq 23, 3) := by decide +kernel
theorem dX8_add_10 : decode cX8_add 10 = .ok (.iload_n 2, 1) := by decide +kernel
theorem dX8_add_11 : decode cX8_add 11 = .ok (.bipush (-99), 2) := by decide +kernel
theorem dX8_add_13 : decode cX8_add 13 = .ok (.bipush 99, 2) := by decide +kernel
theorem dX8_add_15 : decode cX8_add 15 = .ok (.invokestatic 54, 3) := by decide +kernel
theorem dX8_add_18 : decode cX8_add 18 = .ok (.ifCond .eq 12, 3) := by decide +kernel
theorem dX8_add_21 : decode cX8_add 21 = .ok (.iload_n 3, 1) := by decide +kernel
theorem dX8_add_22 : decode cX8_add 22 = .ok (.iconst 1, 1) := by decide +kernel
theorem dX8_add_23 : decode cX8_add 23 = .ok (.iconst 2, 1) := by decide +kernel
theorem dX8_add_24 : decode cX8_add 24 = .ok (.invokestatic 54, 3) := by decide +kernel
theorem dX8_add_27 : decode cX8_add 27 = .ok (.ifCond .ne 6, 3) := by decide +kernel
theorem dX8_add_30 : decode cX8_add 30 = .ok (.ldc 62, 2) := by decide +kernel
theorem dX8_add_32 : decode cX8_add 32 = .ok (.ireturn, 1) := by decide +kernel
theorem dX8_add_33 : decode cX8_add 33 = .ok (.aload_n 0, 1) := by decide +kernel
theorem dX8_add_34 : decode cX8_add 34 = .ok (.getfield 7, 3) := by decide +kernel
theorem dX8_add_37 : decode cX8_add 37 = .ok (.iconst 0, 1) := by decide +kernel
theorem dX8_add_38 : decode cX8_add 38 = .ok (.iaload, 1) := by decide +kernel
theorem dX8_add_39 : decode cX8_add 39 = .ok (.bipush 12, 2) := by decide +kernel
theorem dX8_add_41 : decode cX8_add 41 = .ok (.if_icmp .ne 6, 3) := by decide +kernel
theorem dX8_add_44 : decode cX8_add 44 = .ok (.ldc 63, 2) := by decide +kernel
theorem dX8_add_46 : decode cX8_add 46 = .ok (.ireturn, 1) := by decide +kernel
theorem dX8_add_47 : decode cX8_add 47 = .ok (.aload_n 0, 1) := by decide +kernel
theorem dX8_add_48 : decode cX8_add 48 = .ok (.invokevirtual 64, 3) := by decide +kernel
theorem dX8_add_51 : decode cX8_add 51 = .ok (.aload_n 0, 1) := by decide +kernel
theorem dX8_add_52 : decode cX8_add 52 = .ok (.getfield 7, 3) := by decide +kernel
theorem dX8_add_55 : decode cX8_add 55 = .ok (.iconst 1, 1) := by decide +kernel
theorem dX8_add_56 : decode cX8_add 56 = .ok (.aload_n 0, 1) := by decide +kernel
theorem dX8_add_57 : decode cX8_add 57 = .ok (.getfield 7, 3) := by decide +kernel
theorem dX8_add_60 : decode cX8_add 60 = .ok (.iconst 0, 1) := by decide +kernel
theorem dX8_add_61 : decode cX8_add 61 = .ok (.iaload, 1) := by decide +kernel
theorem dX8_add_62 : decode cX8_add 62 = .ok (.iadd, 1) := by decide +kernel
theorem dX8_add_63 : decode cX8_add 63 = .ok (.iload_n 1, 1) := by decide +kernel
theorem dX8_add_64 : decode cX8_add 64 = .ok (.iastore, 1) := by decide +kernel
theorem dX8_add_65 : decode cX8_add 65 = .ok (.aload_n 0, 1) := by decide +kernel
theorem dX8_add_66 : decode cX8_add 66 = .ok (.getfield 7, 3) := by decide +kernel
theorem dX8_add_69 : decode cX8_add 69 = .ok (.bipush 13, 2) := by decide +kernel
theorem dX8_add_71 : decode cX8_add 71 = .ok (.aload_n 0, 1) := by decide +kernel
theorem dX8_add_72 : decode cX8_add 72 = .ok (.getfield 7, 3) := by decide +kernel
theorem dX8_add_75 : decode cX8_add 75 = .ok (.iconst 0, 1) := by decide +kernel
theorem dX8_add_76 : decode cX8_add 76 = .ok (.iaload, 1) := by decide +kernel
theorem dX8_add_77 : decode cX8_add 77 = .ok (.iadd, 1) := by decide +kernel
theorem dX8_add_78 : decode cX8_add 78 = .ok (.iload_n 2, 1) := by decide +kernel
theorem dX8_add_79 : decode cX8_add 79 = .ok (.iastore, 1) := by decide +kernel
theorem dX8_add_80 : decode cX8_add 80 = .ok (.aload_n 0, 1) := by decide +kernel
theorem dX8_add_81 : decode cX8_add 81 = .ok (.getfield 7, 3) := by decide +kernel
theorem dX8_add_84 : decode cX8_add 84 = .ok (.bipush 25, 2) := by decide +kernel
theorem dX8_add_86 : decode cX8_add 86 = .ok (.aload_n 0, 1) := by decide +kernel
theorem dX8_add_87 : decode cX8_add 87 = .ok (.getfield 7, 3) := by decide +kernel
theorem dX8_add_90 : decode cX8_add 90 = .ok (.iconst 0, 1) := by decide +kernel
theorem dX8_add_91 : decode cX8_add 91 = .ok (.iaload, 1) := by decide +kernel
theorem dX8_add_92 : decode cX8_add 92 = .ok (.iadd, 1) := by decide +kernel
theorem dX8_add_93 : decode cX8_add 93 = .ok (.iload_n 3, 1) := by decide +kernel
theorem dX8_add_94 : decode cX8_add 94 = .ok (.iastore, 1) := by decide +kernel
theorem dX8_add_95 : decode cX8_add 95 = .ok (.aload_n 0, 1) := by decide +kernel
theorem dX8_add_96 : decode cX8_add 96 = .ok (.getfield 7, 3) := by decide +kernel
theorem dX8_add_99 : decode cX8_add 99 = .ok (.iconst 0, 1) := by decide +kernel
theorem dX8_add_100 : decode cX8_add 100 = .ok (.dup2, 1) := by decide +kernel
theorem dX8_add_101 : decode cX8_add 101 = .ok (.iaload, 1) := by decide +kernel
theorem dX8_add_102 : decode cX8_add 102 = .ok (.iconst 1, 1) := by decide +kernel
theorem dX8_add_103 : decode cX8_add 103 = .ok (.iadd, 1) := by decide +kernel
theorem dX8_add_104 : decode cX8_add 104 = .ok (.iastore, 1) := by decide +kernel
theorem dX8_add_105 : decode cX8_add 105 = .ok (.aload_n 0, 1) := by decide +kernel
theorem dX8_add_106 : decode cX8_add 106 = .ok (.getfield 7, 3) := by decide +kernel
theorem dX8_add_109 : decode cX8_add 109 = .ok (.iconst 0, 1) := by decide +kernel
theorem dX8_add_110 : decode cX8_add 110 = .ok (.iaload, 1) := by decide +kernel
theorem dX8_add_111 : decode cX8_add 111 = .ok (.iconst 1, 1) := by decide +kernel
theorem dX8_add_112 : decode cX8_add 112 = .ok (.isub, 1) := by decide +kernel
theorem dX8_add_113 : decode cX8_add 113 = .ok (.ireturn, 1) := by decide +kernel
set_option maxRecDepth 20000 in
theorem ggX8_remove_X8_isPoint : GoodIn wsX8_remove wsX8_isPoint := goodIn_r _ [7, 2, 8, 9, 6, 10, 17, 18, 19, 20, 21, 22, 23, 24, 25, 26, 27, 28, 29, 30, 31, 32, 33, 34, 35, 36, 37, 38, 39, 40] (by decide +kernel) (by decide +kernel)
set_option maxRecDepth 20000 in
theorem gX8_remove_X8_isPoint : GoodIn wsX8_remove (wsV RX8 67 RX8 yX8_isPoint wsX8_isPoint) := goodIn_app (goodIn_of _ (by decide +kernel)) ggX8_remove_X8_isPoint
set_option maxRecDepth 20000 in
theorem ggX8_remove_X8_records : GoodIn wsX8_remove wsX8_records := goodIn_r _ [14, 15, 16, 2, 17, 18, 19, 20, 21, 22, 23, 24, 25, 26, 27, 28, 29, 30, 31, 32, 33, 34, 35, 36, 37, 38, 39, 40] (by decide +kernel) (by decide +kernel)
set_option maxRecDepth 20000 in
theorem gX8_remove_X8_records : GoodIn wsX8_remove (wsV RX8 64 RX8 yX8_records wsX8_records) := goodIn_app (goodIn_of _ (by decide +kernel)) ggX8_remove_X8_records
theorem dX8_remove_0 : decode cX8_remove 0 = .ok (.aload_n 0, 1) := by decide +kernel
theorem dX8_remove_1 : decode cX8_remove 1 = .ok (.iload_n 1, 1) := by decide +kernel
theorem dX8_remove_2 : decode cX8_remove 2 = .ok (.invokevirtual 67, 3) := by decide +kernel
theorem dX8_remove_5 : decode cX8_remove 5 = .ok (.ifCond .ne 6, 3) := by decide +kernel
theorem dX8_remove_8 : decode cX8_remove 8 = .ok (.ldc 62, 2) := by decide +kernel
theorem dX8_remove_10 : decode cX8_remove 10 = .ok (.ireturn, 1) := by decide +kernel
theorem dX8_remove_11 : decode cX8_remove 11 = .ok (.aload_n 0, 1) := by decide +kernel
theorem dX8_remove_12 : decode cX8_remove 12 = .ok (.invokevirtual 64, 3) := by decide +kernel
theorem dX8_remove_15 : decode cX8_remove 15 = .ok (.aload_n 0, 1) := by decide +kernel
theorem dX8_remove_16 : decode cX8_remove 16 = .ok (.getfield 7, 3) := by decide +kernel
theorem dX8_remove_19 : decode cX8_remove 19 = .ok (.iconst 0, 1) := by decide +kernel
theorem dX8_remove_20 : decode cX8_remove 20 = .ok (.dup2, 1) := by decide +kernel
theorem dX8_remove_21 : decode cX8_remove 21 = .ok (.iaload, 1) := by decide +kernel
theorem dX8_remove_22 : decode cX8_remove 22 = .ok (.iconst 1, 1) := by decide +kernel
theorem dX8_remove_23 : decode cX8_remove 23 = .ok (.isub, 1) := by decide +kernel
theorem dX8_remove_24 : decode cX8_remove 24 = .ok (.iastore, 1) := by decide +kernel
theorem dX8_remove_25 : decode cX8_remove 25 = .ok (.iload_n 1, 1) := by decide +kernel
theorem dX8_remove_26 : decode cX8_remove 26 = .ok (.istore_n 2, 1) := by decide +kernel
theorem dX8_remove_27 : decode cX8_remove 27 = .ok (.iload_n 2, 1) := by decide +kernel
theorem dX8_remove_28 : decode cX8_remove 28 = .ok (.aload_n 0, 1) := by decide +kernel
theorem dX8_remove_29 : decode cX8_remove 29 = .ok (.getfield 7, 3) := by decide +kernel
theorem dX8_remove_32 : decode cX8_remove 32 = .ok (.iconst 0, 1) := by decide +kernel
theorem dX8_remove_33 : decode cX8_remove 33 = .ok (.iaload, 1) := by decide +kernel
theorem dX8_remove_34 : decode cX8_remove 34 = .ok (.if_icmp .ge 65, 3) := by decide +kernel
theorem dX8_remove_37 : decode cX8_remove 37 = .ok (.aload_n 0, 1) := by decide +kernel
theorem dX8_remove_38 : decode cX8_remove 38 = .ok (.getfield 7, 3) := by decide +kernel
theorem dX8_remove_41 : decode cX8_remove 41 = .ok (.iconst 1, 1) := by decide +kernel
theorem dX8_remove_42 : decode cX8_remove 42 = .ok (.iload_n 2, 1) := by decide +kernel
theorem dX8_remove_43 : decode cX8_remove 43 = .ok (.iadd, 1) := by decide +kernel
theorem dX8_remove_44 : decode cX8_remove 44 = .ok (.aload_n 0, 1) := by decide +kernel
theorem dX8_remove_45 : decode cX8_remove 45 = .ok (.getfield 7, 3) := by decide +kernel
theorem dX8_remove_48 : decode cX8_remove 48 = .ok (.iconst 2, 1) := by decide +kernel
theorem dX8_remove_49 : decode cX8_remove 49 = .ok (.iload_n 2, 1) := by decide +kernel
theorem dX8_remove_50 : decode cX8_remove 50 = .ok (.iadd, 1) := by decide +kernel
theorem dX8_remove_51 : decode cX8_remove 51 = .ok (.iaload, 1) := by decide +kernel
theorem dX8_remove_52 : decode cX8_remove 52 = .ok (.iastore, 1) := by decide +kernel
theorem dX8_remove_53 : decode cX8_remove 53 = .ok (.aload_n 0, 1) := by decide +kernel
theorem dX8_remove_54 : decode cX8_remove 54 = .ok (.getfield 7, 3) := by decide +kernel
theorem dX8_remove_57 : decode cX8_remove 57 = .ok (.bipush 13, 2) := by decide +kernel
theorem dX8_remove_59 : decode cX8_remove 59 = .ok (.iload_n 2, 1) := by decide +kernel
theorem dX8_remove_60 : decode cX8_remove 60 = .ok (.iadd, 1) := by decide +kernel
theorem dX8_remove_61 : decode cX8_remove 61 = .ok (.aload_n 0, 1) := by decide +kernel
theorem dX8_remove_62 : decode cX8_remove 62 = .ok (.getfield 7, 3) := by decide +kernel
theorem dX8_remove_65 : decode cX8_remove 65 = .ok (.bipush 13, 2) := by decide +kernel
theorem dX8_remove_67 : decode cX8_remove 67 = .ok (.iload_n 2, 1) := by decide +kernel
theorem dX8_remove_68 : decode cX8_remove 68 = .ok (.iadd, 1) := by decide +kernel
theorem dX8_remove_69 : decode cX8_remove 69 = .ok (.iconst 1, 1) := by decide +kernel
theorem dX8_remove_70 : decode cX8_remove 70 = .ok (.iadd, 1) := by decide +kernel
theorem dX8_remove_71 : decode cX8_remove 71 = .ok (.iaload, 1) := by decide +kernel
theorem dX8_remove_72 : decode cX8_remove 72 = .ok (.iastore, 1) := by decide +kernel
theorem dX8_remove_73 : decode cX8_remove 73 = .ok (.aload_n 0, 1) := by decide +kernel
theorem dX8_remove_74 : decode cX8_remove 74 = .ok (.getfield 7, 3) := by decide +kernel
theorem dX8_remove_77 : decode cX8_remove 77 = .ok (.bipush 25, 2) := by decide +kernel
theorem dX8_remove_79 : decode cX8_remove 79 = .ok (.iload_n 2, 1) := by decide +kernel
theorem dX8_remove_80 : decode cX8_remove 80 = .ok (.iadd, 1) := by decide +kernel
theorem dX8_remove_81 : decode cX8_remove 81 = .ok (.aload_n 0, 1) := by decide +kernel
theorem dX8_remove_82 : decode cX8_remove 82 = .ok (.getfield 7, 3) := by decide +kernel
theorem dX8_remove_85 : decode cX8_remove 85 = .ok (.bipush 25, 2) := by decide +kernel
theorem dX8_remove_87 : decode cX8_remove 87 = .ok (.iload_n 2, 1) := by decide +kernel
theorem dX8_remove_88 : decode cX8_remove 88 = .ok (.iadd, 1) := by decide +kernel
theorem dX8_remove_89 : decode cX8_remove 89 = .ok (.iconst 1, 1) := by decide +kernel
theorem dX8_remove_90 : decode cX8_remove 90 = .ok (.iadd, 1) := by decide +kernel
theorem dX8_remove_91 : decode cX8_remove 91 = .ok (.iaload, 1) := by decide +kernel
theorem dX8_remove_92 : decode cX8_remove 92 = .ok (.iastore, 1) := by decide +kernel
theorem dX8_remove_93 : decode cX8_remove 93 = .ok (.iinc 2 1, 3) := by decide +kernel
theorem dX8_remove_96 : decode cX8_remove 96 = .ok (.goto (-69), 3) := by decide +kernel
theorem dX8_remove_99 : decode cX8_remove 99 = .ok (.aload_n 0, 1) := by decide +kernel
theorem dX8_remove_100 : decode cX8_remove 100 = .ok (.getfield 7, 3) := by decide +kernel
theorem dX8_remove_103 : decode cX8_remove 103 = .ok (.iconst 0, 1) := by decide +kernel
theorem dX8_remove_104 : decode cX8_remove 104 = .ok (.iaload, 1) := by decide +kernel
theorem dX8_remove_105 : decode cX8_remove 105 = .ok (.ireturn, 1) := by decide +kernel
set_option maxRecDepth 20000 in
theorem ggX8_setPoint_X8_isPoint : GoodIn wsX8_setPoint wsX8_isPoint := goodIn_r _ [7, 2, 8, 9, 6, 10, 17, 18, 19, 20, 21, 22, 23, 24, 25, 26, 27, 28, 29, 30, 31, 32, 33, 34, 35, 36, 37, 38, 39, 40] (by decide +kernel) (by decide +kernel)
set_option maxRecDepth 20000 in
theorem gX8_setPoint_X8_isPoint : GoodIn wsX8_setPoint (wsV RX8 67 RX8 yX8_isPoint wsX8_isPoint) := goodIn_app (goodIn_of _ (by decide +kernel)) ggX8_setPoint_X8_isPoint
set_option maxRecDepth 20000 in
theorem ggX8_setPoint_X8_in : GoodIn wsX8_setPoint wsX8_in := goodIn_r _ [10] (by decide +kernel) (by decide +kernel)
set_option maxRecDepth 20000 in
theorem gX8_setPoint_X8_in : GoodIn wsX8_setPoint (va_wsS RX8 54 yX8_in wsX8_in) := goodIn_app (goodIn_of _ (by decide +kernel)) ggX8_setPoint_X8_in
set_option maxRecDepth 20000 in
theorem ggX8_setPoint_X8_records : GoodIn wsX8_setPoint wsX8_records := goodIn_r _ [14, 15, 16, 2, 17, 18, 19, 20, 21, 22, 23, 24, 25, 26, 27, 28, 29, 30, 31, 32, 33, 34, 35, 36, 37, 38, 39, 40] (by decide +kernel) (by decide +kernel)
set_option maxRecDepth 20000 in
theorem gX8_setPoint_X8_records : GoodIn wsX8_setPoint (wsV RX8 64 RX8 yX8_records wsX8_records) := goodIn_app (goodIn_of _ (by decide +kernel)) ggX8_setPoint_X8_records
theorem dX8_setPoint_0 : decode cX8_setPoint 0 = .ok (.aload_n 0, 1) := by decide +kernel
theorem dX8_setPoint_1 : decode cX8_setPoint 1 = .ok (.iload_n 1, 1) := by decide +kernel
theorem dX8_setPoint_2 : decode cX8_setPoint 2 = .ok (.invokevirtual 67, 3) := by decide +kernel
theorem dX8_setPoint_5 : decode cX8_setPoint 5 = .ok (.ifCond .eq 23, 3) := by decide +kernel
theorem dX8_setPoint_8 : decode cX8_setPoint 8 = .ok (.iload_n 2, 1) := by decide +kernel
theorem dX8_setPoint_9 : decode cX8_setPoint 9 = .ok (.bipush (-99), 2) := by decide +kernel
theorem dX8_setPoint_11 : decode cX8_setPoint 11 = .ok (.bipush 99, 2) := by decide +kernel
theorem dX8_setPoint_13 : decode cX8_setPoint 13 = .ok (.invokestatic 54, 3) := by decide +kernel
theorem dX8_setPoint_16 : decode cX8_setPoint 16 = .ok (.ifCond .eq 12, 3) := by decide +kernel
theorem dX8_setPoint_19 : decode cX8_setPoint 19 = .ok (.iload_n 3, 1) := by decide +kernel
theorem dX8_setPoint_20 : decode cX8_setPoint 20 = .ok (.iconst 1, 1) := by decide +kernel
theorem dX8_setPoint_21 : decode cX8_setPoint 21 = .ok (.iconst 2, 1) := by decide +kernel
theorem dX8_setPoint_22 : decode cX8_setPoint 22 = .ok (.invokestatic 54, 3) := by decide +kernel
theorem dX8_setPoint_25 : decode cX8_setPoint 25 = .ok (.ifCond .ne 6, 3) := by decide +kernel
theorem dX8_setPoint_28 : decode cX8_setPoint 28 = .ok (.ldc 62, 2) := by decide +kernel
theorem dX8_setPoint_30 : decode cX8_setPoint 30 = .ok (.ireturn, 1) := by decide +kernel
theorem dX8_setPoint_31 : decode cX8_setPoint 31 = .ok (.aload_n 0, 1) := by decide +kernel
theorem dX8_setPoint_32 : decode cX8_setPoint 32 = .ok (.invokevirtual 64, 3) := by decide +kernel
theorem dX8_setPoint_35 : decode cX8_setPoint 35 = .ok (.bipush 10, 2) := by decide +kernel
theorem dX8_setPoint_37 : decode cX8_setPoint 37 = .ok (.aload_n 0, 1) := by decide +kernel
theorem dX8_setPoint_38 : decode cX8_setPoint 38 = .ok (.getfield 7, 3) := by decide +kernel
theorem dX8_setPoint_41 : decode cX8_setPoint 41 = .ok (.bipush 13, 2) := by decide +kernel
theorem dX8_setPoint_43 : decode cX8_setPoint 43 = .ok (.iload_n 1, 1) := by decide +kernel
theorem dX8_setPoint_44 : decode cX8_setPoint 44 = .ok (.iadd, 1) := by decide +kernel
theorem dX8_setPoint_45 : decode cX8_setPoint 45 = .ok (.iaload, 1) := by decide +kernel
theorem dX8_setPoint_46 : decode cX8_setPoint 46 = .ok (.imul, 1) := by decide +kernel
theorem dX8_setPoint_47 : decode cX8_setPoint 47 = .ok (.aload_n 0, 1) := by decide +kernel
theorem dX8_setPoint_48 : decode cX8_setPoint 48 = .ok (.getfield 7, 3) := by decide +kernel
theorem dX8_setPoint_51 : decode cX8_setPoint 51 = .ok (.bipush 25, 2) := by decide +kernel
theorem dX8_setPoint_53 : decode cX8_setPoint 53 = .ok (.iload_n 1, 1) := by decide +kernel
theorem dX8_setPoint_54 : decode cX8_setPoint 54 = .ok (.iadd, 1) := by decide +kernel
theorem dX8_setPoint_55 : decode cX8_setPoint 55 = .ok (.iaload, 1) := by decide +kernel
theorem dX8_setPoint_56 : decode cX8_setPoint 56 = .ok (.iadd, 1) := by decide +kernel
theorem dX8_setPoint_57 : decode cX8_setPoint 57 = .ok (.istore 4, 2) := by decide +kernel
theorem dX8_setPoint_59 : decode cX8_setPoint 59 = .ok (.aload_n 0, 1) := by decide +kernel
theorem dX8_setPoint_60 : decode cX8_setPoint 60 = .ok (.getfield 7, 3) := by decide +kernel
theorem dX8_setPoint_63 : decode cX8_setPoint 63 = .ok (.bipush 13, 2) := by decide +kernel
theorem dX8_setPoint_65 : decode cX8_setPoint 65 = .ok (.iload_n 1, 1) := by decide +kernel
theorem dX8_setPoint_66 : decode cX8_setPoint 66 = .ok (.iadd, 1) := by decide +kernel
theorem dX8_setPoint_67 : decode cX8_setPoint 67 = .ok (.iload_n 2, 1) := by decide +kernel
theorem dX8_setPoint_68 : decode cX8_setPoint 68 = .ok (.iastore, 1) := by decide +kernel
theorem dX8_setPoint_69 : decode cX8_setPoint 69 = .ok (.aload_n 0, 1) := by decide +kernel
theorem dX8_setPoint_70 : decode cX8_setPoint 70 = .ok (.getfield 7, 3) := by decide +kernel
theorem dX8_setPoint_73 : decode cX8_setPoint 73 = .ok (.bipush 25, 2) := by decide +kernel
theorem dX8_setPoint_75 : decode cX8_setPoint 75 = .ok (.iload_n 1, 1) := by decide +kernel
theorem dX8_setPoint_76 : decode cX8_setPoint 76 = .ok (.iadd, 1) := by decide +kernel
theorem dX8_setPoint_77 : decode cX8_setPoint 77 = .ok (.iload_n 3, 1) := by decide +kernel
theorem dX8_setPoint_78 : decode cX8_setPoint 78 = .ok (.iastore, 1) := by decide +kernel
theorem dX8_setPoint_79 : decode cX8_setPoint 79 = .ok (.iload 4, 2) := by decide +kernel
theorem dX8_setPoint_81 : decode cX8_setPoint 81 = .ok (.ireturn, 1) := by decide +kernel
set_option maxRecDepth 20000 in
theorem ggX8_mirror_X8_in : GoodIn wsX8_mirror wsX8_in := goodIn_r _ [6] (by decide +kernel) (by decide +kernel)
set_option maxRecDepth 20000 in
theorem gX8_mirror_X8_in : GoodIn wsX8_mirror (va_wsS RX8 54 yX8_in wsX8_in) := goodIn_app (goodIn_of _ (by decide +kernel)) ggX8_mirror_X8_in
set_option maxRecDepth 20000 in
theorem ggX8_mirror_X8_records : GoodIn wsX8_mirror wsX8_records := goodIn_r _ [10, 11, 12, 2, 13, 14, 15, 16, 17, 18, 19, 20, 21, 22, 23, 24, 25, 26, 27, 28, 29, 30, 31, 32, 33, 34, 35, 36] (by decide +kernel) (by decide +kernel)
set_option maxRecDepth 20000 in
theorem gX8_mirror_X8_records : GoodIn wsX8_mirror (wsV RX8 64 RX8 yX8_records wsX8_records) := goodIn_app (goodIn_of _ (by decide +kernel)) ggX8_mirror_X8_records
theorem dX8_mirror_0 : decode cX8_mirror 0 = .ok (.iload_n 1, 1) := by decide +kernel
theorem dX8_mirror_1 : decode cX8_mirror 1 = .ok (.iconst 0, 1) := by decide +kernel
theorem dX8_mirror_2 : decode cX8_mirror 2 = .ok (.iconst 1, 1) := by decide +kernel
theorem dX8_mirror_3 : decode cX8_mirror 3 = .ok (.invokestatic 54, 3) := by decide +kernel
theorem dX8_mirror_6 : decode cX8_mirror 6 = .ok (.ifCond .ne 6, 3) := by decide +kernel
theorem dX8_mirror_9 : decode cX8_mirror 9 = .ok (.ldc 62, 2) := by decide +kernel
theorem dX8_mirror_11 : decode cX8_mirror 11 = .ok (.ireturn, 1) := by decide +kernel
theorem dX8_mirror_12 : decode cX8_mirror 12 = .ok (.aload_n 0, 1) := by decide +kernel
theorem dX8_mirror_13 : decode cX8_mirror 13 = .ok (.invokevirtual 64, 3) := by decide +kernel
theorem dX8_mirror_16 : decode cX8_mirror 16 = .ok (.iconst 0, 1) := by decide +kernel
theorem dX8_mirror_17 : decode cX8_mirror 17 = .ok (.istore_n 2, 1) := by decide +kernel
theorem dX8_mirror_18 : decode cX8_mirror 18 = .ok (.iload_n 2, 1) := by decide +kernel
theorem dX8_mirror_19 : decode cX8_mirror 19 = .ok (.aload_n 0, 1) := by decide +kernel
theorem dX8_mirror_20 : decode cX8_mirror 20 = .ok (.getfield 7, 3) := by decide +kernel
theorem dX8_mirror_23 : decode cX8_mirror 23 = .ok (.iconst 0, 1) := by decide +kernel
theorem dX8_mirror_24 : decode cX8_mirror 24 = .ok (.iaload, 1) := by decide +kernel
theorem dX8_mirror_25 : decode cX8_mirror 25 = .ok (.if_icmp .ge 79, 3) := by decide +kernel
theorem dX8_mirror_28 : decode cX8_mirror 28 = .ok (.aload_n 0, 1) := by decide +kernel
theorem dX8_mirror_29 : decode cX8_mirror 29 = .ok (.getfield 7, 3) := by decide +kernel
theorem dX8_mirror_32 : decode cX8_mirror 32 = .ok (.iconst 1, 1) := by decide +kernel
theorem dX8_mirror_33 : decode cX8_mirror 33 = .ok (.iload_n 2, 1) := by decide +kernel
theorem dX8_mirror_34 : decode cX8_mirror 34 = .ok (.iadd, 1) := by decide +kernel
theorem dX8_mirror_35 : decode cX8_mirror 35 = .ok (.iload_n 1, 1) := by decide +kernel
theorem dX8_mirror_36 : decode cX8_mirror 36 = .ok (.ifCond .ne 17, 3) := by decide +kernel
theorem dX8_mirror_39 : decode cX8_mirror 39 = .ok (.bipush 40, 2) := by decide +kernel
theorem dX8_mirror_41 : decode cX8_mirror 41 = .ok (.aload_n 0, 1) := by decide +kernel
theorem dX8_mirror_42 : decode cX8_mirror 42 = .ok (.getfield 7, 3) := by decide +kernel
theorem dX8_mirror_45 : decode cX8_mirror 45 = .ok (.iconst 1, 1) := by decide +kernel
theorem dX8_mirror_46 : decode cX8_mirror 46 = .ok (.iload_n 2, 1) := by decide +kernel
theorem dX8_mirror_47 : decode cX8_mirror 47 = .ok (.iadd, 1) := by decide +kernel
theorem dX8_mirror_48 : decode cX8_mirror 48 = .ok (.iaload, 1) := by decide +kernel
theorem dX8_mirror_49 : decode cX8_mirror 49 = .ok (.isub, 1) := by decide +kernel
theorem dX8_mirror_50 : decode cX8_mirror 50 = .ok (.goto 11, 3) := by decide +kernel
theorem dX8_mirror_53 : decode cX8_mirror 53 = .ok (.aload_n 0, 1) := by decide +kernel
theorem dX8_mirror_54 : decode cX8_mirror 54 = .ok (.getfield 7, 3) := by decide +kernel
theorem dX8_mirror_57 : decode cX8_mirror 57 = .ok (.iconst 1, 1) := by decide +kernel
theorem dX8_mirror_58 : decode cX8_mirror 58 = .ok (.iload_n 2, 1) := by decide +kernel
theorem dX8_mirror_59 : decode cX8_mirror 59 = .ok (.iadd, 1) := by decide +kernel
theorem dX8_mirror_60 : decode cX8_mirror 60 = .ok (.iaload, 1) := by decide +kernel
theorem dX8_mirror_61 : decode cX8_mirror 61 = .ok (.iastore, 1) := by decide +kernel
theorem dX8_mirror_62 : decode cX8_mirror 62 = .ok (.aload_n 0, 1) := by decide +kernel
theorem dX8_mirror_63 : decode cX8_mirror 63 = .ok (.getfield 7, 3) := by decide +kernel
theorem dX8_mirror_66 : decode cX8_mirror 66 = .ok (.bipush 13, 2) := by decide +kernel
theorem dX8_mirror_68 : decode cX8_mirror 68 = .ok (.iload_n 2, 1) := by decide +kernel
theorem dX8_mirror_69 : decode cX8_mirror 69 = .ok (.iadd, 1) := by decide +kernel
theorem dX8_mirror_70 : decode cX8_mirror 70 = .ok (.iload_n 1, 1) := by decide +kernel
theorem dX8_mirror_71 : decode cX8_mirror 71 = .ok (.iconst 1, 1) := by decide +kernel
theorem dX8_mirror_72 : decode cX8_mirror 72 = .ok (.if_icmp .ne 16, 3) := by decide +kernel
theorem dX8_mirror_75 : decode cX8_mirror 75 = .ok (.aload_n 0, 1) := by decide +kernel
theorem dX8_mirror_76 : decode cX8_mirror 76 = .ok (.getfield 7, 3) := by decide +kernel
theorem dX8_mirror_79 : decode cX8_mirror 79 = .ok (.bipush 13, 2) := by decide +kernel
theorem dX8_mirror_81 : decode cX8_mirror 81 = .ok (.iload_n 2, 1) := by decide +kernel
theorem dX8_mirror_82 : decode cX8_mirror 82 = .ok (.iadd, 1) := by decide +kernel
theorem dX8_mirror_83 : decode cX8_mirror 83 = .ok (.iaload, 1) := by decide +kernel
theorem dX8_mirror_84 : decode cX8_mirror 84 = .ok (.ineg, 1) := by decide +kernel
theorem dX8_mirror_85 : decode cX8_mirror 85 = .ok (.goto 12, 3) := by decide +kernel
theorem dX8_mirror_88 : decode cX8_mirror 88 = .ok (.aload_n 0, 1) := by decide +kernel
theorem dX8_mirror_89 : decode cX8_mirror 89 = .ok (.getfield 7, 3) := by decide +kernel
theorem dX8_mirror_92 : decode cX8_mirror 92 = .ok (.bipush 13, 2) := by decide +kernel
theorem dX8_mirror_94 : decode cX8_mirror 94 = .ok (.iload_n 2, 1) := by decide +kernel
theorem dX8_mirror_95 : decode cX8_mirror 95 = .ok (.iadd, 1) := by decide +kernel
theorem dX8_mirror_96 : decode cX8_mirror 96 = .ok (.iaload, 1) := by decide +kernel
theorem dX8_mirror_97 : decode cX8_mirror 97 = .ok (.iastore, 1) := by decide +kernel
theorem dX8_mirror_98 : decode cX8_mirror 98 = .ok (.iinc 2 1, 3) := by decide +kernel
theorem dX8_mirror_101 : decode cX8_mirror 101 = .ok (.goto (-83), 3) := by decide +kernel
theorem dX8_mirror_104 : decode cX8_mirror 104 = .ok (.aload_n 0, 1) := by decide +kernel
theorem dX8_mirror_105 : decode cX8_mirror 105 = .ok (.getfield 7, 3) := by decide +kernel
theorem dX8_mirror_108 : decode cX8_mirror 108 = .ok (.iconst 0, 1) := by decide +kernel
theorem dX8_mirror_109 : decode cX8_mirror 109 = .ok (.iaload, 1) := by decide +kernel
theorem dX8_mirror_110 : decode cX8_mirror 110 = .ok (.ireturn, 1) := by decide +kernel
theorem dX8_undo_0 : decode cX8_undo 0 = .ok (.aload_n 0, 1) := by decide +kernel
theorem dX8_undo_1 : decode cX8_undo 1 = .ok (.getfield 58, 3) := by decide +kernel
theorem dX8_undo_4 : decode cX8_undo 4 = .ok (.ifCond .ne 6, 3) := by decide +kernel
theorem dX8_undo_7 : decode cX8_undo 7 = .ok (.ldc 71, 2) := by decide +kernel
theorem dX8_undo_9 : decode cX8_undo 9 = .ok (.ireturn, 1) := by decide +kernel
theorem dX8_undo_10 : decode cX8_undo 10 = .ok (.aload_n 0, 1) := by decide +kernel
theorem dX8_undo_11 : decode cX8_undo 11 = .ok (.dup, 1) := by decide +kernel
theorem dX8_undo_12 : decode cX8_undo 12 = .ok (.getfield 58, 3) := by decide +kernel
theorem dX8_undo_15 : decode cX8_undo 15 = .ok (.iconst 1, 1) := by decide +kernel
theorem dX8_undo_16 : decode cX8_undo 16 = .ok (.isub, 1) := by decide +kernel
theorem dX8_undo_17 : decode cX8_undo 17 = .ok (.putfield 58, 3) := by decide +kernel
theorem dX8_undo_20 : decode cX8_undo 20 = .ok (.iconst 0, 1) := by decide +kernel
theorem dX8_undo_21 : decode cX8_undo 21 = .ok (.istore_n 1, 1) := by decide +kernel
theorem dX8_undo_22 : decode cX8_undo 22 = .ok (.iload_n 1, 1) := by decide +kernel
theorem dX8_undo_23 : decode cX8_undo 23 = .ok (.bipush 37, 2) := by decide +kernel
theorem dX8_undo_25 : decode cX8_undo 25 = .ok (.if_icmp .ge 29, 3) := by decide +kernel
theorem dX8_undo_28 : decode cX8_undo 28 = .ok (.aload_n 0, 1) := by decide +kernel
theorem dX8_undo_29 : decode cX8_undo 29 = .ok (.getfield 7, 3) := by decide +kernel
theorem dX8_undo_32 : decode cX8_undo 32 = .ok (.iload_n 1, 1) := by decide +kernel
theorem dX8_undo_33 : decode cX8_undo 33 = .ok (.aload_n 0, 1) := by decide +kernel
theorem dX8_undo_34 : decode cX8_undo 34 = .ok (.getfield 13, 3) := by decide +kernel
theorem dX8_undo_37 : decode cX8_undo 37 = .ok (.bipush 37, 2) := by decide +kernel
theorem dX8_undo_39 : decode cX8_undo 39 = .ok (.aload_n 0, 1) := by decide +kernel
theorem dX8_undo_40 : decode cX8_undo 40 = .ok (.getfield 58, 3) := by decide +kernel
theorem dX8_undo_43 : decode cX8_undo 43 = .ok (.imul, 1) := by decide +kernel
theorem dX8_undo_44 : decode cX8_undo 44 = .ok (.iload_n 1, 1) := by decide +kernel
theorem dX8_undo_45 : decode cX8_undo 45 = .ok (.iadd, 1) := by decide +kernel
theorem dX8_undo_46 : decode cX8_undo 46 = .ok (.iaload, 1) := by decide +kernel
theorem dX8_undo_47 : decode cX8_undo 47 = .ok (.iastore, 1) := by decide +kernel
theorem dX8_undo_48 : decode cX8_undo 48 = .ok (.iinc 1 1, 3) := by decide +kernel
theorem dX8_undo_51 : decode cX8_undo 51 = .ok (.goto (-29), 3) := by decide +kernel
theorem dX8_undo_54 : decode cX8_undo 54 = .ok (.aload_n 0, 1) := by decide +kernel
theorem dX8_undo_55 : decode cX8_undo 55 = .ok (.getfield 58, 3) := by decide +kernel
theorem dX8_undo_58 : decode cX8_undo 58 = .ok (.ireturn, 1) := by decide +kernel
theorem dX8_points_0 : decode cX8_points 0 = .ok (.aload_n 0, 1) := by decide +kernel
theorem dX8_points_1 : decode cX8_points 1 = .ok (.getfield 7, 3) := by decide +kernel
theorem dX8_points_4 : decode cX8_points 4 = .ok (.iconst 0, 1) := by decide +kernel
theorem dX8_points_5 : decode cX8_points 5 = .ok (.iaload, 1) := by decide +kernel
theorem dX8_points_6 : decode cX8_points 6 = .ok (.ireturn, 1) := by decide +kernel
theorem dX8_finds_0 : decode cX8_finds 0 = .ok (.aload_n 0, 1) := by decide +kernel
theorem dX8_finds_1 : decode cX8_finds 1 = .ok (.iconst 0, 1) := by decide +kernel
theorem dX8_finds_2 : decode cX8_finds 2 = .ok (.putfield 72, 3) := by decide +kernel
theorem dX8_finds_5 : decode cX8_finds 5 = .ok (.iconst 0, 1) := by decide +kernel
theorem dX8_finds_6 : decode cX8_finds 6 = .ok (.istore_n 1, 1) := by decide +kernel
theorem dX8_finds_7 : decode cX8_finds 7 = .ok (.iload_n 1, 1) := by decide +kernel
theorem dX8_finds_8 : decode cX8_finds 8 = .ok (.bipush 40, 2) := by decide +kernel
theorem dX8_finds_10 : decode cX8_finds 10 = .ok (.if_icmp .gt 148, 3) := by decide +kernel
theorem dX8_finds_13 : decode cX8_finds 13 = .ok (.iconst 0, 1) := by decide +kernel
theorem dX8_finds_14 : decode cX8_finds 14 = .ok (.istore_n 2, 1) := by decide +kernel
theorem dX8_finds_15 : decode cX8_finds 15 = .ok (.iconst 0, 1) := by decide +kernel
theorem dX8_finds_16 : decode cX8_finds 16 = .ok (.istore_n 3, 1) := by decide +kernel
theorem dX8_finds_17 : decode cX8_finds 17 = .ok (.iconst 0, 1) := by decide +kernel
theorem dX8_finds_18 : decode cX8_finds 18 = .ok (.istore 4, 2) := by decide +kernel
theorem dX8_finds_20 : decode cX8_finds 20 = .ok (.iload 4, 2) := by decide +kernel
theorem dX8_finds_22 : decode cX8_finds 22 = .ok (.aload_n 0, 1) := by decide +kernel
theorem dX8_finds_23 : decode cX8_finds 23 = .ok (.getfield 7, 3) := by decide +kernel
theorem dX8_finds_26 : decode cX8_finds 26 = .ok (.iconst 0, 1) := by decide +kernel
theorem dX8_finds_27 : decode cX8_finds 27 = .ok (.iaload, 1) := by decide +kernel
theorem dX8_finds_28 : decode cX8_finds 28 = .ok (.if_icmp .ge 80, 3) := by decide +kernel
theorem dX8_finds_31 : decode cX8_finds 31 = .ok (.iload_n 2, 1) := by decide +kernel
theorem dX8_finds_32 : decode cX8_finds 32 = .ok (.aload_n 0, 1) := by decide +kernel
theorem dX8_finds_33 : decode cX8_finds 33 = .ok (.getfield 7, 3) := by decide +kernel
theorem dX8_finds_36 : decode cX8_finds 36 = .ok (.iconst 1, 1) := by decide +kernel
theorem dX8_finds_37 : decode cX8_finds 37 = .ok (.iload 4, 2) := by decide +kernel
theorem dX8_finds_39 : decode cX8_finds 39 = .ok (.iadd, 1) := by decide +kernel
theorem dX8_finds_40 : decode cX8_finds 40 = .ok (.iaload, 1) := by decide +kernel
theorem dX8_finds_41 : decode cX8_finds 41 = .ok (.iload_n 1, 1) := by decide +kernel
theorem dX8_finds_42 : decode cX8_finds 42 = .ok (.if_icmp .ne 16, 3) := by decide +kernel
theorem dX8_finds_45 : decode cX8_finds 45 = .ok (.aload_n 0, 1) := by decide +kernel
theorem dX8_finds_46 : decode cX8_finds 46 = .ok (.getfield 7, 3) := by decide +kernel
theorem dX8_finds_49 : decode cX8_finds 49 = .ok (.bipush 25, 2) := by decide +kernel
theorem dX8_finds_51 : decode cX8_finds 51 = .ok (.iload 4, 2) := by decide +kernel
theorem dX8_finds_53 : decode cX8_finds 53 = .ok (.iadd, 1) := by decide +kernel
theorem dX8_finds_54 : decode cX8_finds 54 = .ok (.iaload, 1) := by decide +kernel
theorem dX8_finds_55 : decode cX8_finds 55 = .ok (.goto 4, 3) := by decide +kernel
theorem dX8_finds_58 : decode cX8_finds 58 = .ok (.iconst 0, 1) := by decide +kernel
theorem dX8_finds_59 : decode cX8_finds 59 = .ok (.iadd, 1) := by decide +kernel
theorem dX8_finds_60 : decode cX8_finds 60 = .ok (.istore_n 2, 1) := by decide +kernel
theorem dX8_finds_61 : decode cX8_finds 61 = .ok (.iload_n 3, 1) := by decide +kernel
theorem dX8_finds_62 : decode cX8_finds 62 = .ok (.aload_n 0, 1) := by decide +kernel
theorem dX8_finds_63 : decode cX8_finds 63 = .ok (.getfield 7, 3) := by decide +kernel
theorem dX8_finds_66 : decode cX8_finds 66 = .ok (.iconst 1, 1) := by decide +kernel
theorem dX8_finds_67 : decode cX8_finds 67 = .ok (.iload 4, 2) := by decide +kernel
theorem dX8_finds_69 : decode cX8_finds 69 = .ok (.iadd, 1) := by decide +kernel
theorem dX8_finds_70 : decode cX8_finds 70 = .ok (.iaload, 1) := by decide +kernel
theorem dX8_finds_71 : decode cX8_finds 71 = .ok (.iload_n 1, 1) := by decide +kernel
theorem dX8_finds_72 : decode cX8_finds 72 = .ok (.if_icmp .ne 27, 3) := by decide +kernel
theorem dX8_finds_75 : decode cX8_finds 75 = .ok (.aload_n 0, 1) := by decide +kernel
theorem dX8_finds_76 : decode cX8_finds 76 = .ok (.getfield 7, 3) := by decide +kernel
theorem dX8_finds_79 : decode cX8_finds 79 = .ok (.bipush 25, 2) := by decide +kernel
theorem dX8_finds_81 : decode cX8_finds 81 = .ok (.iload 4, 2) := by decide +kernel
theorem dX8_finds_83 : decode cX8_finds 83 = .ok (.iadd, 1) := by decide +kernel
theorem dX8_finds_84 : decode cX8_finds 84 = .ok (.iaload, 1) := by decide +kernel
theorem dX8_finds_85 : decode cX8_finds 85 = .ok (.aload_n 0, 1) := by decide +kernel
theorem dX8_finds_86 : decode cX8_finds 86 = .ok (.getfield 7, 3) := by decide +kernel
theorem dX8_finds_89 : decode cX8_finds 89 = .ok (.bipush 13, 2) := by decide +kernel
theorem dX8_finds_91 : decode cX8_finds 91 = .ok (.iload 4, 2) := by decide +kernel
theorem dX8_finds_93 : decode cX8_finds 93 = .ok (.iadd, 1) := by decide +kernel
theorem dX8_finds_94 : decode cX8_finds 94 = .ok (.iaload, 1) := by decide +kernel
theorem dX8_finds_95 : decode cX8_finds 95 = .ok (.imul, 1) := by decide +kernel
theorem dX8_finds_96 : decode cX8_finds 96 = .ok (.goto 4, 3) := by decide +kernel
theorem dX8_finds_99 : decode cX8_finds 99 = .ok (.iconst 0, 1) := by decide +kernel
theorem dX8_finds_100 : decode cX8_finds 100 = .ok (.iadd, 1) := by decide +kernel
theorem dX8_finds_101 : decode cX8_finds 101 = .ok (.istore_n 3, 1) := by decide +kernel
theorem dX8_finds_102 : decode cX8_finds 102 = .ok (.iinc 4 1, 3) := by decide +kernel
theorem dX8_finds_105 : decode cX8_finds 105 = .ok (.goto (-85), 3) := by decide +kernel
theorem dX8_finds_108 : decode cX8_finds 108 = .ok (.iload_n 2, 1) := by decide +kernel
theorem dX8_finds_109 : decode cX8_finds 109 = .ok (.ifCond .le 43, 3) := by decide +kernel
theorem dX8_finds_112 : decode cX8_finds 112 = .ok (.aload_n 0, 1) := by decide +kernel
theorem dX8_finds_113 : decode cX8_finds 113 = .ok (.getfield 26, 3) := by decide +kernel
theorem dX8_finds_116 : decode cX8_finds 116 = .ok (.aload_n 0, 1) := by decide +kernel
theorem dX8_finds_117 : decode cX8_finds 117 = .ok (.getfield 72, 3) := by decide +kernel
theorem dX8_finds_120 : decode cX8_finds 120 = .ok (.iload_n 1, 1) := by decide +kernel
theorem dX8_finds_121 : decode cX8_finds 121 = .ok (.iastore, 1) := by decide +kernel
theorem dX8_finds_122 : decode cX8_finds 122 = .ok (.aload_n 0, 1) := by decide +kernel
theorem dX8_finds_123 : decode cX8_finds 123 = .ok (.getfield 29, 3) := by decide +kernel
theorem dX8_finds_126 : decode cX8_finds 126 = .ok (.aload_n 0, 1) := by decide +kernel
theorem dX8_finds_127 : decode cX8_finds 127 = .ok (.getfield 72, 3) := by decide +kernel
theorem dX8_finds_130 : decode cX8_finds 130 = .ok (.iload_n 2, 1) := by decide +kernel
theorem dX8_finds_131 : decode cX8_finds 131 = .ok (.iastore, 1) := by decide +kernel
theorem dX8_finds_132 : decode cX8_finds 132 = .ok (.aload_n 0, 1) := by decide +kernel
theorem dX8_finds_133 : decode cX8_finds 133 = .ok (.getfield 32, 3) := by decide +kernel
theorem dX8_finds_136 : decode cX8_finds 136 = .ok (.aload_n 0, 1) := by decide +kernel
theorem dX8_finds_137 : decode cX8_finds 137 = .ok (.getfield 72, 3) := by decide +kernel
theorem dX8_finds_140 : decode cX8_finds 140 = .ok (.iload_n 3, 1) := by decide +kernel
theorem dX8_finds_141 : decode cX8_finds 141 = .ok (.iastore, 1) := by decide +kernel
theorem dX8_finds_142 : decode cX8_finds 142 = .ok (.aload_n 0, 1) := by decide +kernel
theorem dX8_finds_143 : decode cX8_finds 143 = .ok (.dup, 1) := by decide +kernel
theorem dX8_finds_144 : decode cX8_finds 144 = .ok (.getfield 72, 3) := by decide +kernel
theorem dX8_finds_147 : decode cX8_finds 147 = .ok (.iconst 1, 1) := by decide +kernel
theorem dX8_finds_148 : decode cX8_finds 148 = .ok (.iadd, 1) := by decide +kernel
theorem dX8_finds_149 : decode cX8_finds 149 = .ok (.putfield 72, 3) := by decide +kernel
theorem dX8_finds_152 : decode cX8_finds 152 = .ok (.iinc 1 1, 3) := by decide +kernel
theorem dX8_finds_155 : decode cX8_finds 155 = .ok (.goto (-148), 3) := by decide +kernel
theorem dX8_finds_158 : decode cX8_finds 158 = .ok (.return_, 1) := by decide +kernel
set_option maxRecDepth 20000 in
theorem ggX8_groupOf_X8_finds : GoodIn wsX8_groupOf wsX8_finds := goodIn_r _ [6, 7, 8, 1, 9, 10, 11, 12, 13, 14, 15, 16, 17, 18, 19, 20, 21, 22, 23, 24, 25, 26, 27, 28, 29, 30, 31, 32, 33, 34] (by decide +kernel) (by decide +kernel)
set_option maxRecDepth 20000 in
theorem gX8_groupOf_X8_finds : GoodIn wsX8_groupOf (wsV RX8 75 RX8 yX8_finds wsX8_finds) := goodIn_app (goodIn_of _ (by decide +kernel)) ggX8_groupOf_X8_finds
theorem dX8_groupOf_0 : decode cX8_groupOf 0 = .ok (.aload_n 0, 1) := by decide +kernel
theorem dX8_groupOf_1 : decode cX8_groupOf 1 = .ok (.invokevirtual 75, 3) := by decide +kernel
theorem dX8_groupOf_4 : decode cX8_groupOf 4 = .ok (.iconst 0, 1) := by decide +kernel
theorem dX8_groupOf_5 : decode cX8_groupOf 5 = .ok (.istore_n 2, 1) := by decide +kernel
theorem dX8_groupOf_6 : decode cX8_groupOf 6 = .ok (.aload_n 0, 1) := by decide +kernel
theorem dX8_groupOf_7 : decode cX8_groupOf 7 = .ok (.getfield 26, 3) := by decide +kernel
theorem dX8_groupOf_10 : decode cX8_groupOf 10 = .ok (.iload_n 2, 1) := by decide +kernel
theorem dX8_groupOf_11 : decode cX8_groupOf 11 = .ok (.iaload, 1) := by decide +kernel
theorem dX8_groupOf_12 : decode cX8_groupOf 12 = .ok (.iload_n 1, 1) := by decide +kernel
theorem dX8_groupOf_13 : decode cX8_groupOf 13 = .ok (.if_icmp .eq 9, 3) := by decide +kernel
theorem dX8_groupOf_16 : decode cX8_groupOf 16 = .ok (.iinc 2 1, 3) := by decide +kernel
theorem dX8_groupOf_19 : decode cX8_groupOf 19 = .ok (.goto (-13), 3) := by decide +kernel
theorem dX8_groupOf_22 : decode cX8_groupOf 22 = .ok (.iload_n 2, 1) := by decide +kernel
theorem dX8_groupOf_23 : decode cX8_groupOf 23 = .ok (.ireturn, 1) := by decide +kernel
set_option maxRecDepth 20000 in
theorem ggX8_pointInfo_X8_isPoint : GoodIn wsX8_pointInfo wsX8_isPoint := goodIn_r _ [7, 2, 8, 9, 6, 10, 23, 24, 25, 26, 27, 28, 29, 30, 31, 32, 33, 34, 35, 36, 37, 38, 39, 40, 41, 42, 43, 44, 45, 46] (by decide +kernel) (by decide +kernel)
set_option maxRecDepth 20000 in
theorem gX8_pointInfo_X8_isPoint : GoodIn wsX8_pointInfo (wsV RX8 67 RX8 yX8_isPoint wsX8_isPoint) := goodIn_app (goodIn_of _ (by decide +kernel)) ggX8_pointInfo_X8_isPoint
set_option maxRecDepth 20000 in
theorem ggX8_pointInfo_X8_in : GoodIn wsX8_pointInfo wsX8_in := goodIn_r _ [10] (by decide +kernel) (by decide +kernel)
set_option maxRecDepth 20000 in
theorem gX8_pointInfo_X8_in : GoodIn wsX8_pointInfo (va_wsS RX8 54 yX8_in wsX8_in) := goodIn_app (goodIn_of _ (by decide +kernel)) ggX8_pointInfo_X8_in
set_option maxRecDepth 20000 in
theorem ggX8_pointInfo_X8_groupOf : GoodIn wsX8_pointInfo wsX8_groupOf := goodIn_r _ [14, 15, 16, 17, 18, 6, 19, 20, 2, 21, 22, 23, 24, 25, 26, 27, 28, 29, 30, 31, 32, 33, 34, 35, 36, 37, 38, 39, 40, 41, 42, 43, 44, 45, 46] (by decide +kernel) (by decide +kernel)
set_option maxRecDepth 20000 in
theorem gX8_pointInfo_X8_groupOf : GoodIn wsX8_pointInfo (wsV RX8 78 RX8 yX8_groupOf wsX8_groupOf) := goodIn_app (goodIn_of _ (by decide +kernel)) ggX8_pointInfo_X8_groupOf
theorem dX8_pointInfo_0 : decode cX8_pointInfo 0 = .ok (.aload_n 0, 1) := by decide +kernel
theorem dX8_pointInfo_1 : decode cX8_pointInfo 1 = .ok (.iload_n 1, 1) := by decide +kernel
theorem dX8_pointInfo_2 : decode cX8_pointInfo 2 = .ok (.invokevirtual 67, 3) := by decide +kernel
theorem dX8_pointInfo_5 : decode cX8_pointInfo 5 = .ok (.ifCond .eq 12, 3) := by decide +kernel
theorem dX8_pointInfo_8 : decode cX8_pointInfo 8 = .ok (.iload_n 2, 1) := by decide +kernel
theorem dX8_pointInfo_9 : decode cX8_pointInfo 9 = .ok (.iconst 0, 1) := by decide +kernel
theorem dX8_pointInfo_10 : decode cX8_pointInfo 10 = .ok (.iconst 3, 1) := by decide +kernel
theorem dX8_pointInfo_11 : decode cX8_pointInfo 11 = .ok (.invokestatic 54, 3) := by decide +kernel
theorem dX8_pointInfo_14 : decode cX8_pointInfo 14 = .ok (.ifCond .ne 6, 3) := by decide +kernel
theorem dX8_pointInfo_17 : decode cX8_pointInfo 17 = .ok (.ldc 62, 2) := by decide +kernel
theorem dX8_pointInfo_19 : decode cX8_pointInfo 19 = .ok (.ireturn, 1) := by decide +kernel
theorem dX8_pointInfo_20 : decode cX8_pointInfo 20 = .ok (.iload_n 2, 1) := by decide +kernel
theorem dX8_pointInfo_21 : decode cX8_pointInfo 21 = .ok (.iconst 3, 1) := by decide +kernel
theorem dX8_pointInfo_22 : decode cX8_pointInfo 22 = .ok (.if_icmp .ne 18, 3) := by decide +kernel
theorem dX8_pointInfo_25 : decode cX8_pointInfo 25 = .ok (.aload_n 0, 1) := by decide +kernel
theorem dX8_pointInfo_26 : decode cX8_pointInfo 26 = .ok (.aload_n 0, 1) := by decide +kernel
theorem dX8_pointInfo_27 : decode cX8_pointInfo 27 = .ok (.getfield 7, 3) := by decide +kernel
theorem dX8_pointInfo_30 : decode cX8_pointInfo 30 = .ok (.iconst 1, 1) := by decide +kernel
theorem dX8_pointInfo_31 : decode cX8_pointInfo 31 = .ok (.iload_n 1, 1) := by decide +kernel
theorem dX8_pointInfo_32 : decode cX8_pointInfo 32 = .ok (.iadd, 1) := by decide +kernel
theorem dX8_pointInfo_33 : decode cX8_pointInfo 33 = .ok (.iaload, 1) := by decide +kernel
theorem dX8_pointInfo_34 : decode cX8_pointInfo 34 = .ok (.invokevirtual 78, 3) := by decide +kernel
theorem dX8_pointInfo_37 : decode cX8_pointInfo 37 = .ok (.goto 16, 3) := by decide +kernel
theorem dX8_pointInfo_40 : decode cX8_pointInfo 40 = .ok (.aload_n 0, 1) := by decide +kernel
theorem dX8_pointInfo_41 : decode cX8_pointInfo 41 = .ok (.getfield 7, 3) := by decide +kernel
theorem dX8_pointInfo_44 : decode cX8_pointInfo 44 = .ok (.iconst 1, 1) := by decide +kernel
theorem dX8_pointInfo_45 : decode cX8_pointInfo 45 = .ok (.bipush 12, 2) := by decide +kernel
theorem dX8_pointInfo_47 : decode cX8_pointInfo 47 = .ok (.iload_n 2, 1) := by decide +kernel
theorem dX8_pointInfo_48 : decode cX8_pointInfo 48 = .ok (.imul, 1) := by decide +kernel
theorem dX8_pointInfo_49 : decode cX8_pointInfo 49 = .ok (.iadd, 1) := by decide +kernel
theorem dX8_pointInfo_50 : decode cX8_pointInfo 50 = .ok (.iload_n 1, 1) := by decide +kernel
theorem dX8_pointInfo_51 : decode cX8_pointInfo 51 = .ok (.iadd, 1) := by decide +kernel
theorem dX8_pointInfo_52 : decode cX8_pointInfo 52 = .ok (.iaload, 1) := by decide +kernel
theorem dX8_pointInfo_53 : decode cX8_pointInfo 53 = .ok (.ireturn, 1) := by decide +kernel
set_option maxRecDepth 20000 in
theorem ggX8_groups_X8_finds : GoodIn wsX8_groups wsX8_finds := goodIn_r _ [6, 1, 7, 8, 9, 10, 11, 12, 13, 14, 15, 16, 17, 18, 19, 20, 21, 22, 23, 24, 25, 26, 27, 28, 29, 30, 31, 32, 33, 34] (by decide +kernel) (by decide +kernel)
set_option maxRecDepth 20000 in
theorem gX8_groups_X8_finds : GoodIn wsX8_groups (wsV RX8 75 RX8 yX8_finds wsX8_finds) := goodIn_app (goodIn_of _ (by decide +kernel)) ggX8_groups_X8_finds
theorem dX8_groups_0 : decode cX8_groups 0 = .ok (.aload_n 0, 1) := by decide +kernel
theorem dX8_groups_1 : decode cX8_groups 1 = .ok (.invokevirtual 75, 3) := by decide +kernel
theorem dX8_groups_4 : decode cX8_groups 4 = .ok (.aload_n 0, 1) := by decide +kernel
theorem dX8_groups_5 : decode cX8_groups 5 = .ok (.getfield 72, 3) := by decide +kernel
theorem dX8_groups_8 : decode cX8_groups 8 = .ok (.ireturn, 1) := by decide +kernel
set_option maxRecDepth 20000 in
theorem ggX8_isGroup_X8_finds : GoodIn wsX8_isGroup wsX8_finds := goodIn_r _ [6, 1, 7, 8, 9, 10, 14, 15, 16, 17, 18, 19, 20, 21, 22, 23, 24, 25, 26, 27, 28, 29, 30, 31, 32, 33, 34, 35, 36, 37] (by decide +kernel) (by decide +kernel)
set_option maxRecDepth 20000 in
theorem gX8_isGroup_X8_finds : GoodIn wsX8_isGroup (wsV RX8 75 RX8 yX8_finds wsX8_finds) := goodIn_app (goodIn_of _ (by decide +kernel)) ggX8_isGroup_X8_finds
set_option maxRecDepth 20000 in
theorem ggX8_isGroup_X8_in : GoodIn wsX8_isGroup wsX8_in := goodIn_r _ [13] (by decide +kernel) (by decide +kernel)
set_option maxRecDepth 20000 in
theorem gX8_isGroup_X8_in : GoodIn wsX8_isGroup (va_wsS RX8 54 yX8_in wsX8_in) := goodIn_app (goodIn_of _ (by decide +kernel)) ggX8_isGroup_X8_in
theorem dX8_isGroup_0 : decode cX8_isGroup 0 = .ok (.aload_n 0, 1) := by decide +kernel
theorem dX8_isGroup_1 : decode cX8_isGroup 1 = .ok (.invokevirtual 75, 3) := by decide +kernel
theorem dX8_isGroup_4 : decode cX8_isGroup 4 = .ok (.iload_n 1, 1) := by decide +kernel
theorem dX8_isGroup_5 : decode cX8_isGroup 5 = .ok (.iconst 0, 1) := by decide +kernel
theorem dX8_isGroup_6 : decode cX8_isGroup 6 = .ok (.aload_n 0, 1) := by decide +kernel
theorem dX8_isGroup_7 : decode cX8_isGroup 7 = .ok (.getfield 72, 3) := by decide +kernel
theorem dX8_isGroup_10 : decode cX8_isGroup 10 = .ok (.iconst 1, 1) := by decide +kernel
theorem dX8_isGroup_11 : decode cX8_isGroup 11 = .ok (.isub, 1) := by decide +kernel
theorem dX8_isGroup_12 : decode cX8_isGroup 12 = .ok (.invokestatic 54, 3) := by decide +kernel
theorem dX8_isGroup_15 : decode cX8_isGroup 15 = .ok (.ireturn, 1) := by decide +kernel
set_option maxRecDepth 20000 in
theorem ggX8_groupInfo_X8_isGroup : GoodIn wsX8_groupInfo wsX8_isGroup := goodIn_r _ [10, 11, 12, 13, 14, 9, 15, 2, 3, 4, 5, 16, 17, 18, 19, 20, 21, 22, 23, 24, 25, 26, 27, 28, 29, 30, 31, 32, 33, 34, 35, 36, 37, 38, 39, 40, 41, 42] (by decide +kernel) (by decide +kernel)
set_option maxRecDepth 20000 in
theorem gX8_groupInfo_X8_isGroup : GoodIn wsX8_groupInfo (wsV RX8 82 RX8 yX8_isGroup wsX8_isGroup) := goodIn_app (goodIn_of _ (by decide +kernel)) ggX8_groupInfo_X8_isGroup
set_option maxRecDepth 20000 in
theorem ggX8_groupInfo_X8_in : GoodIn wsX8_groupInfo wsX8_in := goodIn_r _ [18] (by decide +kernel) (by decide +kernel)
set_option maxRecDepth 20000 in
theorem gX8_groupInfo_X8_in : GoodIn wsX8_groupInfo (va_wsS RX8 54 yX8_in wsX8_in) := goodIn_app (goodIn_of _ (by decide +kernel)) ggX8_groupInfo_X8_in
theorem dX8_groupInfo_0 : decode cX8_groupInfo 0 = .ok (.aload_n 0, 1) := by decide +kernel
theorem dX8_groupInfo_1 : decode cX8_groupInfo 1 = .ok (.iload_n 1, 1) := by decide +kernel
theorem dX8_groupInfo_2 : decode cX8_groupInfo 2 = .ok (.invokevirtual 82, 3) := by decide +kernel
theorem dX8_groupInfo_5 : decode cX8_groupInfo 5 = .ok (.ifCond .eq 12, 3) := by decide +kernel
theorem dX8_groupInfo_8 : decode cX8_groupInfo 8 = .ok (.iload_n 2, 1) := by decide +kernel
theorem dX8_groupInfo_9 : decode cX8_groupInfo 9 = .ok (.iconst 0, 1) := by decide +kernel
theorem dX8_groupInfo_10 : decode cX8_groupInfo 10 = .ok (.iconst 3, 1) := by decide +kernel
theorem dX8_groupInfo_11 : decode cX8_groupInfo 11 = .ok (.invokestatic 54, 3) := by decide +kernel
theorem dX8_groupInfo_14 : decode cX8_groupInfo 14 = .ok (.ifCond .ne 6, 3) := by decide +kernel
theorem dX8_groupInfo_17 : decode cX8_groupInfo 17 = .ok (.ldc 62, 2) := by decide +kernel
theorem dX8_groupInfo_19 : decode cX8_groupInfo 19 = .ok (.ireturn, 1) := by decide +kernel
theorem dX8_groupInfo_20 : decode cX8_groupInfo 20 = .ok (.iload_n 2, 1) := by decide +kernel
theorem dX8_groupInfo_21 : decode cX8_groupInfo 21 = .ok (.iconst 3, 1) := by decide +kernel
theorem dX8_groupInfo_22 : decode cX8_groupInfo 22 = .ok (.if_icmp .ne 53, 3) := by decide +kernel
theorem dX8_groupInfo_25 : decode cX8_groupInfo 25 = .ok (.iconst 0, 1) := by decide +kernel
theorem dX8_groupInfo_26 : decode cX8_groupInfo 26 = .ok (.istore_n 3, 1) := by decide +kernel
theorem dX8_groupInfo_27 : decode cX8_groupInfo 27 = .ok (.iconst 0, 1) := by decide +kernel
theorem dX8_groupInfo_28 : decode cX8_groupInfo 28 = .ok (.istore 4, 2) := by decide +kernel
theorem dX8_groupInfo_30 : decode cX8_groupInfo 30 = .ok (.iload 4, 2) := by decide +kernel
theorem dX8_groupInfo_32 : decode cX8_groupInfo 32 = .ok (.aload_n 0, 1) := by decide +kernel
theorem dX8_groupInfo_33 : decode cX8_groupInfo 33 = .ok (.getfield 7, 3) := by decide +kernel
theorem dX8_groupInfo_36 : decode cX8_groupInfo 36 = .ok (.iconst 0, 1) := by decide +kernel
theorem dX8_groupInfo_37 : decode cX8_groupInfo 37 = .ok (.iaload, 1) := by decide +kernel
theorem dX8_groupInfo_38 : decode cX8_groupInfo 38 = .ok (.if_icmp .ge 35, 3) := by decide +kernel
theorem dX8_groupInfo_41 : decode cX8_groupInfo 41 = .ok (.iload_n 3, 1) := by decide +kernel
theorem dX8_groupInfo_42 : decode cX8_groupInfo 42 = .ok (.aload_n 0, 1) := by decide +kernel
theorem dX8_groupInfo_43 : decode cX8_groupInfo 43 = .ok (.getfield 7, 3) := by decide +kernel
theorem dX8_groupInfo_46 : decode cX8_groupInfo 46 = .ok (.iconst 1, 1) := by decide +kernel
theorem dX8_groupInfo_47 : decode cX8_groupInfo 47 = .ok (.iload 4, 2) := by decide +kernel
theorem dX8_groupInfo_49 : decode cX8_groupInfo 49 = .ok (.iadd, 1) := by decide +kernel
theorem dX8_groupInfo_50 : decode cX8_groupInfo 50 = .ok (.iaload, 1) := by decide +kernel
theorem dX8_groupInfo_51 : decode cX8_groupInfo 51 = .ok (.aload_n 0, 1) := by decide +kernel
theorem dX8_groupInfo_52 : decode cX8_groupInfo 52 = .ok (.getfield 26, 3) := by decide +kernel
theorem dX8_groupInfo_55 : decode cX8_groupInfo 55 = .ok (.iload_n 1, 1) := by decide +kernel
theorem dX8_groupInfo_56 : decode cX8_groupInfo 56 = .ok (.iaload, 1) := by decide +kernel
theorem dX8_groupInfo_57 : decode cX8_groupInfo 57 = .ok (.if_icmp .ne 7, 3) := by decide +kernel
theorem dX8_groupInfo_60 : decode cX8_groupInfo 60 = .ok (.iconst 1, 1) := by decide +kernel
theorem dX8_groupInfo_61 : decode cX8_groupInfo 61 = .ok (.goto 4, 3) := by decide +kernel
theorem dX8_groupInfo_64 : decode cX8_groupInfo 64 = .ok (.iconst 0, 1) := by decide +kernel
theorem dX8_groupInfo_65 : decode cX8_groupInfo 65 = .ok (.iadd, 1) := by decide +kernel
theorem dX8_groupInfo_66 : decode cX8_groupInfo 66 = .ok (.istore_n 3, 1) := by decide +kernel
theorem dX8_groupInfo_67 : decode cX8_groupInfo 67 = .ok (.iinc 4 1, 3) := by decide +kernel
theorem dX8_groupInfo_70 : decode cX8_groupInfo 70 = .ok (.goto (-40), 3) := by decide +kernel
theorem dX8_groupInfo_73 : decode cX8_groupInfo 73 = .ok (.iload_n 3, 1) := by decide +kernel
theorem dX8_groupInfo_74 : decode cX8_groupInfo 74 = .ok (.ireturn, 1) := by decide +kernel
theorem dX8_groupInfo_75 : decode cX8_groupInfo 75 = .ok (.iload_n 2, 1) := by decide +kernel
theorem dX8_groupInfo_76 : decode cX8_groupInfo 76 = .ok (.ifCond .ne 12, 3) := by decide +kernel
theorem dX8_groupInfo_79 : decode cX8_groupInfo 79 = .ok (.aload_n 0, 1) := by decide +kernel
theorem dX8_groupInfo_80 : decode cX8_groupInfo 80 = .ok (.getfield 26, 3) := by decide +kernel
theorem dX8_groupInfo_83 : decode cX8_groupInfo 83 = .ok (.iload_n 1, 1) := by decide +kernel
theorem dX8_groupInfo_84 : decode cX8_groupInfo 84 = .ok (.iaload, 1) := by decide +kernel
theorem dX8_groupInfo_85 : decode cX8_groupInfo 85 = .ok (.goto 23, 3) := by decide +kernel
theorem dX8_groupInfo_88 : decode cX8_groupInfo 88 = .ok (.iload_n 2, 1) := by decide +kernel
theorem dX8_groupInfo_89 : decode cX8_groupInfo 89 = .ok (.iconst 1, 1) := by decide +kernel
theorem dX8_groupInfo_90 : decode cX8_groupInfo 90 = .ok (.if_icmp .ne 12, 3) := by decide +kernel
theorem dX8_groupInfo_93 : decode cX8_groupInfo 93 = .ok (.aload_n 0, 1) := by decide +kernel
theorem dX8_groupInfo_94 : decode cX8_groupInfo 94 = .ok (.getfield 29, 3) := by decide +kernel
theorem dX8_groupInfo_97 : decode cX8_groupInfo 97 = .ok (.iload_n 1, 1) := by decide +kernel
theorem dX8_groupInfo_98 : decode cX8_groupInfo 98 = .ok (.iaload, 1) := by decide +kernel
theorem dX8_groupInfo_99 : decode cX8_groupInfo 99 = .ok (.goto 9, 3) := by decide +kernel
theorem dX8_groupInfo_102 : decode cX8_groupInfo 102 = .ok (.aload_n 0, 1) := by decide +kernel
theorem dX8_groupInfo_103 : decode cX8_groupInfo 103 = .ok (.getfield 32, 3) := by decide +kernel
theorem dX8_groupInfo_106 : decode cX8_groupInfo 106 = .ok (.iload_n 1, 1) := by decide +kernel
theorem dX8_groupInfo_107 : decode cX8_groupInfo 107 = .ok (.iaload, 1) := by decide +kernel
theorem dX8_groupInfo_108 : decode cX8_groupInfo 108 = .ok (.ireturn, 1) := by decide +kernel
theorem dX8_divisor_0 : decode cX8_divisor 0 = .ok (.lload_n 0, 1) := by decide +kernel
theorem dX8_divisor_1 : decode cX8_divisor 1 = .ok (.lconst 0, 1) := by decide +kernel
theorem dX8_divisor_2 : decode cX8_divisor 2 = .ok (.lcmp, 1) := by decide +kernel
theorem dX8_divisor_3 : decode cX8_divisor 3 = .ok (.ifCond .ge 8, 3) := by decide +kernel
theorem dX8_divisor_6 : decode cX8_divisor 6 = .ok (.lload_n 0, 1) := by decide +kernel
theorem dX8_divisor_7 : decode cX8_divisor 7 = .ok (.lneg, 1) := by decide +kernel
theorem dX8_divisor_8 : decode cX8_divisor 8 = .ok (.goto 4, 3) := by decide +kernel
theorem dX8_divisor_11 : decode cX8_divisor 11 = .ok (.lload_n 0, 1) := by decide +kernel
theorem dX8_divisor_12 : decode cX8_divisor 12 = .ok (.lstore 4, 2) := by decide +kernel
theorem dX8_divisor_14 : decode cX8_divisor 14 = .ok (.lload_n 2, 1) := by decide +kernel
theorem dX8_divisor_15 : decode cX8_divisor 15 = .ok (.lstore 6, 2) := by decide +kernel
theorem dX8_divisor_17 : decode cX8_divisor 17 = .ok (.lload 6, 2) := by decide +kernel
theorem dX8_divisor_19 : decode cX8_divisor 19 = .ok (.lconst 0, 1) := by decide +kernel
theorem dX8_divisor_20 : decode cX8_divisor 20 = .ok (.lcmp, 1) := by decide +kernel
theorem dX8_divisor_21 : decode cX8_divisor 21 = .ok (.ifCond .eq 21, 3) := by decide +kernel
theorem dX8_divisor_24 : decode cX8_divisor 24 = .ok (.lload 4, 2) := by decide +kernel
theorem dX8_divisor_26 : decode cX8_divisor 26 = .ok (.lload 6, 2) := by decide +kernel
theorem dX8_divisor_28 : decode cX8_divisor 28 = .ok (.lrem, 1) := by decide +kernel
theorem dX8_divisor_29 : decode cX8_divisor 29 = .ok (.lstore 8, 2) := by decide +kernel
theorem dX8_divisor_31 : decode cX8_divisor 31 = .ok (.lload 6, 2) := by decide +kernel
theorem dX8_divisor_33 : decode cX8_divisor 33 = .ok (.lstore 4, 2) := by decide +kernel
theorem dX8_divisor_35 : decode cX8_divisor 35 = .ok (.lload 8, 2) := by decide +kernel
theorem dX8_divisor_37 : decode cX8_divisor 37 = .ok (.lstore 6, 2) := by decide +kernel
theorem dX8_divisor_39 : decode cX8_divisor 39 = .ok (.goto (-22), 3) := by decide +kernel
theorem dX8_divisor_42 : decode cX8_divisor 42 = .ok (.lload 4, 2) := by decide +kernel
theorem dX8_divisor_44 : decode cX8_divisor 44 = .ok (.lreturn, 1) := by decide +kernel
set_option maxRecDepth 20000 in
theorem ggX8_lowers_X8_divisor : GoodIn wsX8_lowers wsX8_divisor := goodIn_r _ [6] (by decide +kernel) (by decide +kernel)
set_option maxRecDepth 20000 in
theorem gX8_lowers_X8_divisor : GoodIn wsX8_lowers (va_wsS RX8 85 yX8_divisor wsX8_divisor) := goodIn_app (goodIn_of _ (by decide +kernel)) ggX8_lowers_X8_divisor
theorem dX8_lowers_0 : decode cX8_lowers 0 = .ok (.lload_n 1, 1) := by decide +kernel
theorem dX8_lowers_1 : decode cX8_lowers 1 = .ok (.lload_n 3, 1) := by decide +kernel
theorem dX8_lowers_2 : decode cX8_lowers 2 = .ok (.invokestatic 85, 3) := by decide +kernel
theorem dX8_lowers_5 : decode cX8_lowers 5 = .ok (.lstore 5, 2) := by decide +kernel
theorem dX8_lowers_7 : decode cX8_lowers 7 = .ok (.aload_n 0, 1) := by decide +kernel
theorem dX8_lowers_8 : decode cX8_lowers 8 = .ok (.lload_n 1, 1) := by decide +kernel
theorem dX8_lowers_9 : decode cX8_lowers 9 = .ok (.lload 5, 2) := by decide +kernel
theorem dX8_lowers_11 : decode cX8_lowers 11 = .ok (.ldiv, 1) := by decide +kernel
theorem dX8_lowers_12 : decode cX8_lowers 12 = .ok (.putfield 89, 3) := by decide +kernel
theorem dX8_lowers_15 : decode cX8_lowers 15 = .ok (.aload_n 0, 1) := by decide +kernel
theorem dX8_lowers_16 : decode cX8_lowers 16 = .ok (.lload_n 3, 1) := by decide +kernel
theorem dX8_lowers_17 : decode cX8_lowers 17 = .ok (.lload 5, 2) := by decide +kernel
theorem dX8_lowers_19 : decode cX8_lowers 19 = .ok (.ldiv, 1) := by decide +kernel
theorem dX8_lowers_20 : decode cX8_lowers 20 = .ok (.putfield 93, 3) := by decide +kernel
theorem dX8_lowers_23 : decode cX8_lowers 23 = .ok (.return_, 1) := by decide +kernel
theorem dX8_tells_0 : decode cX8_tells 0 = .ok (.iload_n 1, 1) := by decide +kernel
theorem dX8_tells_1 : decode cX8_tells 1 = .ok (.ifCond .ne 10, 3) := by decide +kernel
theorem dX8_tells_4 : decode cX8_tells 4 = .ok (.aload_n 0, 1) := by decide +kernel
theorem dX8_tells_5 : decode cX8_tells 5 = .ok (.getfield 89, 3) := by decide +kernel
theorem dX8_tells_8 : decode cX8_tells 8 = .ok (.goto 7, 3) := by decide +kernel
theorem dX8_tells_11 : decode cX8_tells 11 = .ok (.aload_n 0, 1) := by decide +kernel
theorem dX8_tells_12 : decode cX8_tells 12 = .ok (.getfield 93, 3) := by decide +kernel
theorem dX8_tells_15 : decode cX8_tells 15 = .ok (.lreturn, 1) := by decide +kernel
theorem dX8_compared_0 : decode cX8_compared 0 = .ok (.iload_n 0, 1) := by decide +kernel
theorem dX8_compared_1 : decode cX8_compared 1 = .ok (.iload_n 3, 1) := by decide +kernel
theorem dX8_compared_2 : decode cX8_compared 2 = .ok (.imul, 1) := by decide +kernel
theorem dX8_compared_3 : decode cX8_compared 3 = .ok (.iload_n 2, 1) := by decide +kernel
theorem dX8_compared_4 : decode cX8_compared 4 = .ok (.iload_n 1, 1) := by decide +kernel
theorem dX8_compared_5 : decode cX8_compared 5 = .ok (.imul, 1) := by decide +kernel
theorem dX8_compared_6 : decode cX8_compared 6 = .ok (.isub, 1) := by decide +kernel
theorem dX8_compared_7 : decode cX8_compared 7 = .ok (.ireturn, 1) := by decide +kernel
set_option maxRecDepth 20000 in
theorem ggX8_rises_X8_poolsFrom : GoodIn wsX8_rises wsX8_poolsFrom := goodIn_r _ [6, 7, 8, 1, 9, 10, 11, 12, 13, 5, 14, 15, 16, 17, 18, 19, 20, 21, 22, 23, 24, 25, 26, 27, 28, 29, 30, 31, 32, 33, 34, 35, 36, 37, 38] (by decide +kernel) (by decide +kernel)
set_option maxRecDepth 20000 in
theorem gX8_rises_X8_poolsFrom : GoodIn wsX8_rises (wsV RX8 99 RX8 yX8_poolsFrom wsX8_poolsFrom) := goodIn_app (goodIn_of _ (by decide +kernel)) ggX8_rises_X8_poolsFrom
theorem dX8_rises_0 : decode cX8_rises 0 = .ok (.aload_n 0, 1) := by decide +kernel
theorem dX8_rises_1 : decode cX8_rises 1 = .ok (.getfield 96, 3) := by decide +kernel
theorem dX8_rises_4 : decode cX8_rises 4 = .ok (.istore 4, 2) := by decide +kernel
theorem dX8_rises_6 : decode cX8_rises 6 = .ok (.iload_n 1, 1) := by decide +kernel
theorem dX8_rises_7 : decode cX8_rises 7 = .ok (.istore 5, 2) := by decide +kernel
theorem dX8_rises_9 : decode cX8_rises 9 = .ok (.iload 5, 2) := by decide +kernel
theorem dX8_rises_11 : decode cX8_rises 11 = .ok (.iload_n 2, 1) := by decide +kernel
theorem dX8_rises_12 : decode cX8_rises 12 = .ok (.if_icmp .ge 18, 3) := by decide +kernel
theorem dX8_rises_15 : decode cX8_rises 15 = .ok (.aload_n 0, 1) := by decide +kernel
theorem dX8_rises_16 : decode cX8_rises 16 = .ok (.iload 5, 2) := by decide +kernel
theorem dX8_rises_18 : decode cX8_rises 18 = .ok (.iload_n 3, 1) := by decide +kernel
theorem dX8_rises_19 : decode cX8_rises 19 = .ok (.iload 4, 2) := by decide +kernel
theorem dX8_rises_21 : decode cX8_rises 21 = .ok (.invokevirtual 99, 3) := by decide +kernel
theorem dX8_rises_24 : decode cX8_rises 24 = .ok (.iinc 5 1, 3) := by decide +kernel
theorem dX8_rises_27 : decode cX8_rises 27 = .ok (.goto (-18), 3) := by decide +kernel
theorem dX8_rises_30 : decode cX8_rises 30 = .ok (.return_, 1) := by decide +kernel
set_option maxRecDepth 20000 in
theorem ggX8_poolsFrom_X8_compared : GoodIn wsX8_poolsFrom wsX8_compared := goodIn_r _ [10] (by decide +kernel) (by decide +kernel)
set_option maxRecDepth 20000 in
theorem gX8_poolsFrom_X8_compared : GoodIn wsX8_poolsFrom (va_wsS RX8 103 yX8_compared wsX8_compared) := goodIn_app (goodIn_of _ (by decide +kernel)) ggX8_poolsFrom_X8_compared
theorem dX8_poolsFrom_0 : decode cX8_poolsFrom 0 = .ok (.aload_n 0, 1) := by decide +kernel
theorem dX8_poolsFrom_1 : decode cX8_poolsFrom 1 = .ok (.getfield 32, 3) := by decide +kernel
theorem dX8_poolsFrom_4 : decode cX8_poolsFrom 4 = .ok (.iload_n 1, 1) := by decide +kernel
theorem dX8_poolsFrom_5 : decode cX8_poolsFrom 5 = .ok (.iaload, 1) := by decide +kernel
theorem dX8_poolsFrom_6 : decode cX8_poolsFrom 6 = .ok (.istore 4, 2) := by decide +kernel
theorem dX8_poolsFrom_8 : decode cX8_poolsFrom 8 = .ok (.aload_n 0, 1) := by decide +kernel
theorem dX8_poolsFrom_9 : decode cX8_poolsFrom 9 = .ok (.getfield 29, 3) := by decide +kernel
theorem dX8_poolsFrom_12 : decode cX8_poolsFrom 12 = .ok (.iload_n 1, 1) := by decide +kernel
theorem dX8_poolsFrom_13 : decode cX8_poolsFrom 13 = .ok (.iaload, 1) := by decide +kernel
theorem dX8_poolsFrom_14 : decode cX8_poolsFrom 14 = .ok (.istore 5, 2) := by decide +kernel
theorem dX8_poolsFrom_16 : decode cX8_poolsFrom 16 = .ok (.iload_n 1, 1) := by decide +kernel
theorem dX8_poolsFrom_17 : decode cX8_poolsFrom 17 = .ok (.istore 6, 2) := by decide +kernel
theorem dX8_poolsFrom_19 : decode cX8_poolsFrom 19 = .ok (.aload_n 0, 1) := by decide +kernel
theorem dX8_poolsFrom_20 : decode cX8_poolsFrom 20 = .ok (.getfield 96, 3) := by decide +kernel
theorem dX8_poolsFrom_23 : decode cX8_poolsFrom 23 = .ok (.iload_n 3, 1) := by decide +kernel
theorem dX8_poolsFrom_24 : decode cX8_poolsFrom 24 = .ok (.if_icmp .le 89, 3) := by decide +kernel
theorem dX8_poolsFrom_27 : decode cX8_poolsFrom 27 = .ok (.iload_n 2, 1) := by decide +kernel
theorem dX8_poolsFrom_28 : decode cX8_poolsFrom 28 = .ok (.aload_n 0, 1) := by decide +kernel
theorem dX8_poolsFrom_29 : decode cX8_poolsFrom 29 = .ok (.getfield 41, 3) := by decide +kernel
theorem dX8_poolsFrom_32 : decode cX8_poolsFrom 32 = .ok (.aload_n 0, 1) := by decide +kernel
theorem dX8_poolsFrom_33 : decode cX8_poolsFrom 33 = .ok (.getfield 96, 3) := by decide +kernel
theorem dX8_poolsFrom_36 : decode cX8_poolsFrom 36 = .ok (.iconst 1, 1) := by decide +kernel
theorem dX8_poolsFrom_37 : decode cX8_poolsFrom 37 = .ok (.isub, 1) := by decide +kernel
theorem dX8_poolsFrom_38 : decode cX8_poolsFrom 38 = .ok (.iaload, 1) := by decide +kernel
theorem dX8_poolsFrom_39 : decode cX8_poolsFrom 39 = .ok (.aload_n 0, 1) := by decide +kernel
theorem dX8_poolsFrom_40 : decode cX8_poolsFrom 40 = .ok (.getfield 38, 3) := by decide +kernel
theorem dX8_poolsFrom_43 : decode cX8_poolsFrom 43 = .ok (.aload_n 0, 1) := by decide +kernel
theorem dX8_poolsFrom_44 : decode cX8_poolsFrom 44 = .ok (.getfield 96, 3) := by decide +kernel
theorem dX8_poolsFrom_47 : decode cX8_poolsFrom 47 = .ok (.iconst 1, 1) := by decide +kernel
theorem dX8_poolsFrom_48 : decode cX8_poolsFrom 48 = .ok (.isub, 1) := by decide +kernel
theorem dX8_poolsFrom_49 : decode cX8_poolsFrom 49 = .ok (.iaload, 1) := by decide +kernel
theorem dX8_poolsFrom_50 : decode cX8_poolsFrom 50 = .ok (.iload 4, 2) := by decide +kernel
theorem dX8_poolsFrom_52 : decode cX8_poolsFrom 52 = .ok (.iload 5, 2) := by decide +kernel
theorem dX8_poolsFrom_54 : decode cX8_poolsFrom 54 = .ok (.invokestatic 103, 3) := by decide +kernel
theorem dX8_poolsFrom_57 : decode cX8_poolsFrom 57 = .ok (.imul, 1) := by decide +kernel
theorem dX8_poolsFrom_58 : decode cX8_poolsFrom 58 = .ok (.ifCond .lt 55, 3) := by decide +kernel
theorem dX8_poolsFrom_61 : decode cX8_poolsFrom 61 = .ok (.aload_n 0, 1) := by decide +kernel
theorem dX8_poolsFrom_62 : decode cX8_poolsFrom 62 = .ok (.dup, 1) := by decide +kernel
theorem dX8_poolsFrom_63 : decode cX8_poolsFrom 63 = .ok (.getfield 96, 3) := by decide +kernel
theorem dX8_poolsFrom_66 : decode cX8_poolsFrom 66 = .ok (.iconst 1, 1) := by decide +kernel
theorem dX8_poolsFrom_67 : decode cX8_poolsFrom 67 = .ok (.isub, 1) := by decide +kernel
theorem dX8_poolsFrom_68 : decode cX8_poolsFrom 68 = .ok (.putfield 96, 3) := by decide +kernel
theorem dX8_poolsFrom_71 : decode cX8_poolsFrom 71 = .ok (.aload_n 0, 1) := by decide +kernel
theorem dX8_poolsFrom_72 : decode cX8_poolsFrom 72 = .ok (.getfield 35, 3) := by decide +kernel
theorem dX8_poolsFrom_75 : decode cX8_poolsFrom 75 = .ok (.aload_n 0, 1) := by decide +kernel
theorem dX8_poolsFrom_76 : decode cX8_poolsFrom 76 = .ok (.getfield 96, 3) := by decide +kernel
theorem dX8_poolsFrom_79 : decode cX8_poolsFrom 79 = .ok (.iaload, 1) := by decide +kernel
theorem dX8_poolsFrom_80 : decode cX8_poolsFrom 80 = .ok (.istore 6, 2) := by decide +kernel
theorem dX8_poolsFrom_82 : decode cX8_poolsFrom 82 = .ok (.iload 4, 2) := by decide +kernel
theorem dX8_poolsFrom_84 : decode cX8_poolsFrom 84 = .ok (.aload_n 0, 1) := by decide +kernel
theorem dX8_poolsFrom_85 : decode cX8_poolsFrom 85 = .ok (.getfield 41, 3) := by decide +kernel
theorem dX8_poolsFrom_88 : decode cX8_poolsFrom 88 = .ok (.aload_n 0, 1) := by decide +kernel
theorem dX8_poolsFrom_89 : decode cX8_poolsFrom 89 = .ok (.getfield 96, 3) := by decide +kernel
theorem dX8_poolsFrom_92 : decode cX8_poolsFrom 92 = .ok (.iaload, 1) := by decide +kernel
theorem dX8_poolsFrom_93 : decode cX8_poolsFrom 93 = .ok (.iadd, 1) := by decide +kernel
theorem dX8_poolsFrom_94 : decode cX8_poolsFrom 94 = .ok (.istore 4, 2) := by decide +kernel
theorem dX8_poolsFrom_96 : decode cX8_poolsFrom 96 = .ok (.iload 5, 2) := by decide +kernel
theorem dX8_poolsFrom_98 : decode cX8_poolsFrom 98 = .ok (.aload_n 0, 1) := by decide +kernel
theorem dX8_poolsFrom_99 : decode cX8_poolsFrom 99 = .ok (.getfield 38, 3) := by decide +kernel
theorem dX8_poolsFrom_102 : decode cX8_poolsFrom 102 = .ok (.aload_n 0, 1) := by decide +kernel
theorem dX8_poolsFrom_103 : decode cX8_poolsFrom 103 = .ok (.getfield 96, 3) := by decide +kernel
theorem dX8_poolsFrom_106 : decode cX8_poolsFrom 106 = .ok (.iaload, 1) := by decide +kernel
theorem dX8_poolsFrom_107 : decode cX8_poolsFrom 107 = .ok (.iadd, 1) := by decide +kernel
theorem dX8_poolsFrom_108 : decode cX8_poolsFrom 108 = .ok (.istore 5, 2) := by decide +kernel
theorem dX8_poolsFrom_110 : decode cX8_poolsFrom 110 = .ok (.goto (-91), 3) := by decide +kernel
theorem dX8_poolsFrom_113 : decode cX8_poolsFrom 113 = .ok (.aload_n 0, 1) := by decide +kernel
theorem dX8_poolsFrom_114 : decode cX8_poolsFrom 114 = .ok (.getfield 35, 3) := by decide +kernel
theorem dX8_poolsFrom_117 : decode cX8_poolsFrom 117 = .ok (.aload_n 0, 1) := by decide +kernel
theorem dX8_poolsFrom_118 : decode cX8_poolsFrom 118 = .ok (.getfield 96, 3) := by decide +kernel
theorem dX8_poolsFrom_121 : decode cX8_poolsFrom 121 = .ok (.iload 6, 2) := by decide +kernel
theorem dX8_poolsFrom_123 : decode cX8_poolsFrom 123 = .ok (.iastore, 1) := by decide +kernel
theorem dX8_poolsFrom_124 : decode cX8_poolsFrom 124 = .ok (.aload_n 0, 1) := by decide +kernel
theorem dX8_poolsFrom_125 : decode cX8_poolsFrom 125 = .ok (.getfield 41, 3) := by decide +kernel
theorem dX8_poolsFrom_128 : decode cX8_poolsFrom 128 = .ok (.aload_n 0, 1) := by decide +kernel
theorem dX8_poolsFrom_129 : decode cX8_poolsFrom 129 = .ok (.getfield 96, 3) := by decide +kernel
theorem dX8_poolsFrom_132 : decode cX8_poolsFrom 132 = .ok (.iload 4, 2) := by decide +kernel
theorem dX8_poolsFrom_134 : decode cX8_poolsFrom 134 = .ok (.iastore, 1) := by decide +kernel
theorem dX8_poolsFrom_135 : decode cX8_poolsFrom 135 = .ok (.aload_n 0, 1) := by decide +kernel
theorem dX8_poolsFrom_136 : decode cX8_poolsFrom 136 = .ok (.getfield 38, 3) := by decide +kernel
theorem dX8_poolsFrom_139 : decode cX8_poolsFrom 139 = .ok (.aload_n 0, 1) := by decide +kernel
theorem dX8_poolsFrom_140 : decode cX8_poolsFrom 140 = .ok (.getfield 96, 3) := by decide +kernel
theorem dX8_poolsFrom_143 : decode cX8_poolsFrom 143 = .ok (.iload 5, 2) := by decide +kernel
theorem dX8_poolsFrom_145 : decode cX8_poolsFrom 145 = .ok (.iastore, 1) := by decide +kernel
theorem dX8_poolsFrom_146 : decode cX8_poolsFrom 146 = .ok (.aload_n 0, 1) := by decide +kernel
theorem dX8_poolsFrom_147 : decode cX8_poolsFrom 147 = .ok (.dup, 1) := by decide +kernel
theorem dX8_poolsFrom_148 : decode cX8_poolsFrom 148 = .ok (.getfield 96, 3) := by decide +kernel
theorem dX8_poolsFrom_151 : decode cX8_poolsFrom 151 = .ok (.iconst 1, 1) := by decide +kernel
theorem dX8_poolsFrom_152 : decode cX8_poolsFrom 152 = .ok (.iadd, 1) := by decide +kernel
theorem dX8_poolsFrom_153 : decode cX8_poolsFrom 153 = .ok (.putfield 96, 3) := by decide +kernel
theorem dX8_poolsFrom_156 : decode cX8_poolsFrom 156 = .ok (.return_, 1) := by decide +kernel
set_option maxRecDepth 20000 in
theorem ggX8_turns_X8_compared : GoodIn wsX8_turns wsX8_compared := goodIn_r _ [11] (by decide +kernel) (by decide +kernel)
set_option maxRecDepth 20000 in
theorem gX8_turns_X8_compared : GoodIn wsX8_turns (va_wsS RX8 103 yX8_compared wsX8_compared) := goodIn_app (goodIn_of _ (by decide +kernel)) ggX8_turns_X8_compared
set_option maxRecDepth 20000 in
theorem ggX8_turns_X8_rises : GoodIn wsX8_turns wsX8_rises := goodIn_r _ [15, 4, 16, 17, 18, 10, 19, 1, 2, 6, 7, 5, 8, 9, 11, 24, 25, 26, 27, 28, 29, 30, 31, 32, 33, 34, 35, 36, 37, 38, 39, 40, 41, 42, 43, 44, 45, 46, 47] (by decide +kernel) (by decide +kernel)
set_option maxRecDepth 20000 in
theorem gX8_turns_X8_rises : GoodIn wsX8_turns (wsV RX8 107 RX8 yX8_rises wsX8_rises) := goodIn_app (goodIn_of _ (by decide +kernel)) ggX8_turns_X8_rises
set_option maxRecDepth 20000 in
theorem ggX8_turns_X8_joins : GoodIn wsX8_turns wsX8_joins := goodIn_r _ [23, 4, 6, 7, 5, 3, 8, 9, 10, 11, 24, 25, 26, 27, 28, 29, 30, 31, 32, 33, 34, 35, 36, 37, 38, 39, 40, 41, 42, 43, 44, 45, 46, 47] (by decide +kernel) (by decide +kernel)
set_option maxRecDepth 20000 in
theorem gX8_turns_X8_joins : GoodIn wsX8_turns (wsV RX8 110 RX8 yX8_joins wsX8_joins) := goodIn_app (goodIn_of _ (by decide +kernel)) ggX8_turns_X8_joins
theorem dX8_turns_0 : decode cX8_turns 0 = .ok (.iload_n 1, 1) := by decide +kernel
theorem dX8_turns_1 : decode cX8_turns 1 = .ok (.istore_n 3, 1) := by decide +kernel
theorem dX8_turns_2 : decode cX8_turns 2 = .ok (.iload_n 1, 1) := by decide +kernel
theorem dX8_turns_3 : decode cX8_turns 3 = .ok (.istore 4, 2) := by decide +kernel
theorem dX8_turns_5 : decode cX8_turns 5 = .ok (.aload_n 0, 1) := by decide +kernel
theorem dX8_turns_6 : decode cX8_turns 6 = .ok (.getfield 32, 3) := by decide +kernel
theorem dX8_turns_9 : decode cX8_turns 9 = .ok (.iload_n 1, 1) := by decide +kernel
theorem dX8_turns_10 : decode cX8_turns 10 = .ok (.iaload, 1) := by decide +kernel
theorem dX8_turns_11 : decode cX8_turns 11 = .ok (.istore 5, 2) := by decide +kernel
theorem dX8_turns_13 : decode cX8_turns 13 = .ok (.aload_n 0, 1) := by decide +kernel
theorem dX8_turns_14 : decode cX8_turns 14 = .ok (.getfield 29, 3) := by decide +kernel
theorem dX8_turns_17 : decode cX8_turns 17 = .ok (.iload_n 1, 1) := by decide +kernel
theorem dX8_turns_18 : decode cX8_turns 18 = .ok (.iaload, 1) := by decide +kernel
theorem dX8_turns_19 : decode cX8_turns 19 = .ok (.istore 6, 2) := by decide +kernel
theorem dX8_turns_21 : decode cX8_turns 21 = .ok (.iconst 0, 1) := by decide +kernel
theorem dX8_turns_22 : decode cX8_turns 22 = .ok (.istore 7, 2) := by decide +kernel
theorem dX8_turns_24 : decode cX8_turns 24 = .ok (.iconst 0, 1) := by decide +kernel
theorem dX8_turns_25 : decode cX8_turns 25 = .ok (.istore 8, 2) := by decide +kernel
theorem dX8_turns_27 : decode cX8_turns 27 = .ok (.iload_n 1, 1) := by decide +kernel
theorem dX8_turns_28 : decode cX8_turns 28 = .ok (.istore 9, 2) := by decide +kernel
theorem dX8_turns_30 : decode cX8_turns 30 = .ok (.iload 9, 2) := by decide +kernel
theorem dX8_turns_32 : decode cX8_turns 32 = .ok (.ifCond .lt 155, 3) := by decide +kernel
theorem dX8_turns_35 : decode cX8_turns 35 = .ok (.iload 7, 2) := by decide +kernel
theorem dX8_turns_37 : decode cX8_turns 37 = .ok (.aload_n 0, 1) := by decide +kernel
theorem dX8_turns_38 : decode cX8_turns 38 = .ok (.getfield 32, 3) := by decide +kernel
theorem dX8_turns_41 : decode cX8_turns 41 = .ok (.iload 9, 2) := by decide +kernel
theorem dX8_turns_43 : decode cX8_turns 43 = .ok (.iaload, 1) := by decide +kernel
theorem dX8_turns_44 : decode cX8_turns 44 = .ok (.iadd, 1) := by decide +kernel
theorem dX8_turns_45 : decode cX8_turns 45 = .ok (.istore 7, 2) := by decide +kernel
theorem dX8_turns_47 : decode cX8_turns 47 = .ok (.iload 8, 2) := by decide +kernel
theorem dX8_turns_49 : decode cX8_turns 49 = .ok (.aload_n 0, 1) := by decide +kernel
theorem dX8_turns_50 : decode cX8_turns 50 = .ok (.getfield 29, 3) := by decide +kernel
theorem dX8_turns_53 : decode cX8_turns 53 = .ok (.iload 9, 2) := by decide +kernel
theorem dX8_turns_55 : decode cX8_turns 55 = .ok (.iaload, 1) := by decide +kernel
theorem dX8_turns_56 : decode cX8_turns 56 = .ok (.iadd, 1) := by decide +kernel
theorem dX8_turns_57 : decode cX8_turns 57 = .ok (.istore 8, 2) := by decide +kernel
theorem dX8_turns_59 : decode cX8_turns 59 = .ok (.iload 7, 2) := by decide +kernel
theorem dX8_turns_61 : decode cX8_turns 61 = .ok (.istore 10, 2) := by decide +kernel
theorem dX8_turns_63 : decode cX8_turns 63 = .ok (.iload 8, 2) := by decide +kernel
theorem dX8_turns_65 : decode cX8_turns 65 = .ok (.istore 11, 2) := by decide +kernel
theorem dX8_turns_67 : decode cX8_turns 67 = .ok (.iload_n 1, 1) := by decide +kernel
theorem dX8_turns_68 : decode cX8_turns 68 = .ok (.istore 12, 2) := by decide +kernel
theorem dX8_turns_70 : decode cX8_turns 70 = .ok (.iload 12, 2) := by decide +kernel
theorem dX8_turns_72 : decode cX8_turns 72 = .ok (.aload_n 0, 1) := by decide +kernel
theorem dX8_turns_73 : decode cX8_turns 73 = .ok (.getfield 72, 3) := by decide +kernel
theorem dX8_turns_76 : decode cX8_turns 76 = .ok (.if_icmp .ge 105, 3) := by decide +kernel
theorem dX8_turns_79 : decode cX8_turns 79 = .ok (.iload 10, 2) := by decide +kernel
theorem dX8_turns_81 : decode cX8_turns 81 = .ok (.iload 12, 2) := by decide +kernel
theorem dX8_turns_83 : decode cX8_turns 83 = .ok (.iload_n 1, 1) := by decide +kernel
theorem dX8_turns_84 : decode cX8_turns 84 = .ok (.if_icmp .le 13, 3) := by decide +kernel
theorem dX8_turns_87 : decode cX8_turns 87 = .ok (.aload_n 0, 1) := by decide +kernel
theorem dX8_turns_88 : decode cX8_turns 88 = .ok (.getfield 32, 3) := by decide +kernel
theorem dX8_turns_91 : decode cX8_turns 91 = .ok (.iload 12, 2) := by decide +kernel
theorem dX8_turns_93 : decode cX8_turns 93 = .ok (.iaload, 1) := by decide +kernel
theorem dX8_turns_94 : decode cX8_turns 94 = .ok (.goto 4, 3) := by decide +kernel
theorem dX8_turns_97 : decode cX8_turns 97 = .ok (.iconst 0, 1) := by decide +kernel
theorem dX8_turns_98 : decode cX8_turns 98 = .ok (.iadd, 1) := by decide +kernel
theorem dX8_turns_99 : decode cX8_turns 99 = .ok (.istore 10, 2) := by decide +kernel
theorem dX8_turns_101 : decode cX8_turns 101 = .ok (.iload 11, 2) := by decide +kernel
theorem dX8_turns_103 : decode cX8_turns 103 = .ok (.iload 12, 2) := by decide +kernel
theorem dX8_turns_105 : decode cX8_turns 105 = .ok (.iload_n 1, 1) := by decide +kernel
theorem dX8_turns_106 : decode cX8_turns 106 = .ok (.if_icmp .le 13, 3) := by decide +kernel
theorem dX8_turns_109 : decode cX8_turns 109 = .ok (.aload_n 0, 1) := by decide +kernel
theorem dX8_turns_110 : decode cX8_turns 110 = .ok (.getfield 29, 3) := by decide +kernel
theorem dX8_turns_113 : decode cX8_turns 113 = .ok (.iload 12, 2) := by decide +kernel
theorem dX8_turns_115 : decode cX8_turns 115 = .ok (.iaload, 1) := by decide +kernel
theorem dX8_turns_116 : decode cX8_turns 116 = .ok (.goto 4, 3) := by decide +kernel
theorem dX8_turns_119 : decode cX8_turns 119 = .ok (.iconst 0, 1) := by decide +kernel
theorem dX8_turns_120 : decode cX8_turns 120 = .ok (.iadd, 1) := by decide +kernel
theorem dX8_turns_121 : decode cX8_turns 121 = .ok (.istore 11, 2) := by decide +kernel
theorem dX8_turns_123 : decode cX8_turns 123 = .ok (.iload_n 2, 1) := by decide +kernel
theorem dX8_turns_124 : decode cX8_turns 124 = .ok (.iload 10, 2) := by decide +kernel
theorem dX8_turns_126 : decode cX8_turns 126 = .ok (.iload 11, 2) := by decide +kernel
theorem dX8_turns_128 : decode cX8_turns 128 = .ok (.iload 5, 2) := by decide +kernel
theorem dX8_turns_130 : decode cX8_turns 130 = .ok (.iload 6, 2) := by decide +kernel
theorem dX8_turns_132 : decode cX8_turns 132 = .ok (.invokestatic 103, 3) := by decide +kernel
theorem dX8_turns_135 : decode cX8_turns 135 = .ok (.imul, 1) := by decide +kernel
theorem dX8_turns_136 : decode cX8_turns 136 = .ok (.istore 13, 2) := by decide +kernel
theorem dX8_turns_138 : decode cX8_turns 138 = .ok (.iload 13, 2) := by decide +kernel
theorem dX8_turns_140 : decode cX8_turns 140 = .ok (.ifCond .gt 20, 3) := by decide +kernel
theorem dX8_turns_143 : decode cX8_turns 143 = .ok (.iload 13, 2) := by decide +kernel
theorem dX8_turns_145 : decode cX8_turns 145 = .ok (.ifCond .ne 30, 3) := by decide +kernel
theorem dX8_turns_148 : decode cX8_turns 148 = .ok (.iload 12, 2) := by decide +kernel
theorem dX8_turns_150 : decode cX8_turns 150 = .ok (.iload 9, 2) := by decide +kernel
theorem dX8_turns_152 : decode cX8_turns 152 = .ok (.isub, 1) := by decide +kernel
theorem dX8_turns_153 : decode cX8_turns 153 = .ok (.iload 4, 2) := by decide +kernel
theorem dX8_turns_155 : decode cX8_turns 155 = .ok (.iload_n 3, 1) := by decide +kernel
theorem dX8_turns_156 : decode cX8_turns 156 = .ok (.isub, 1) := by decide +kernel
theorem dX8_turns_157 : decode cX8_turns 157 = .ok (.if_icmp .le 18, 3) := by decide +kernel
theorem dX8_turns_160 : decode cX8_turns 160 = .ok (.iload 9, 2) := by decide +kernel
theorem dX8_turns_162 : decode cX8_turns 162 = .ok (.istore_n 3, 1) := by decide +kernel
theorem dX8_turns_163 : decode cX8_turns 163 = .ok (.iload 12, 2) := by decide +kernel
theorem dX8_turns_165 : decode cX8_turns 165 = .ok (.istore 4, 2) := by decide +kernel
theorem dX8_turns_167 : decode cX8_turns 167 = .ok (.iload 10, 2) := by decide +kernel
theorem dX8_turns_169 : decode cX8_turns 169 = .ok (.istore 5, 2) := by decide +kernel
theorem dX8_turns_171 : decode cX8_turns 171 = .ok (.iload 11, 2) := by decide +kernel
theorem dX8_turns_173 : decode cX8_turns 173 = .ok (.istore 6, 2) := by decide +kernel
theorem dX8_turns_175 : decode cX8_turns 175 = .ok (.iinc 12 1, 3) := by decide +kernel
theorem dX8_turns_178 : decode cX8_turns 178 = .ok (.goto (-108), 3) := by decide +kernel
theorem dX8_turns_181 : decode cX8_turns 181 = .ok (.iinc 9 (-1), 3) := by decide +kernel
theorem dX8_turns_184 : decode cX8_turns 184 = .ok (.goto (-154), 3) := by decide +kernel
theorem dX8_turns_187 : decode cX8_turns 187 = .ok (.aload_n 0, 1) := by decide +kernel
theorem dX8_turns_188 : decode cX8_turns 188 = .ok (.iconst 0, 1) := by decide +kernel
theorem dX8_turns_189 : decode cX8_turns 189 = .ok (.putfield 96, 3) := by decide +kernel
theorem dX8_turns_192 : decode cX8_turns 192 = .ok (.aload_n 0, 1) := by decide +kernel
theorem dX8_turns_193 : decode cX8_turns 193 = .ok (.iconst 0, 1) := by decide +kernel
theorem dX8_turns_194 : decode cX8_turns 194 = .ok (.iload_n 3, 1) := by decide +kernel
theorem dX8_turns_195 : decode cX8_turns 195 = .ok (.iload_n 2, 1) := by decide +kernel
theorem dX8_turns_196 : decode cX8_turns 196 = .ok (.invokevirtual 107, 3) := by decide +kernel
theorem dX8_turns_199 : decode cX8_turns 199 = .ok (.aload_n 0, 1) := by decide +kernel
theorem dX8_turns_200 : decode cX8_turns 200 = .ok (.getfield 35, 3) := by decide +kernel
theorem dX8_turns_203 : decode cX8_turns 203 = .ok (.aload_n 0, 1) := by decide +kernel
theorem dX8_turns_204 : decode cX8_turns 204 = .ok (.getfield 96, 3) := by decide +kernel
theorem dX8_turns_207 : decode cX8_turns 207 = .ok (.iload_n 3, 1) := by decide +kernel
theorem dX8_turns_208 : decode cX8_turns 208 = .ok (.iastore, 1) := by decide +kernel
theorem dX8_turns_209 : decode cX8_turns 209 = .ok (.aload_n 0, 1) := by decide +kernel
theorem dX8_turns_210 : decode cX8_turns 210 = .ok (.getfield 41, 3) := by decide +kernel
theorem dX8_turns_213 : decode cX8_turns 213 = .ok (.aload_n 0, 1) := by decide +kernel
theorem dX8_turns_214 : decode cX8_turns 214 = .ok (.getfield 96, 3) := by decide +kernel
theorem dX8_turns_217 : decode cX8_turns 217 = .ok (.iload 5, 2) := by decide +kernel
theorem dX8_turns_219 : decode cX8_turns 219 = .ok (.iastore, 1) := by decide +kernel
theorem dX8_turns_220 : decode cX8_turns 220 = .ok (.aload_n 0, 1) := by decide +kernel
theorem dX8_turns_221 : decode cX8_turns 221 = .ok (.getfield 38, 3) := by decide +kernel
theorem dX8_turns_224 : decode cX8_turns 224 = .ok (.aload_n 0, 1) := by decide +kernel
theorem dX8_turns_225 : decode cX8_turns 225 = .ok (.getfield 96, 3) := by decide +kernel
theorem dX8_turns_228 : decode cX8_turns 228 = .ok (.iload 6, 2) := by decide +kernel
theorem dX8_turns_230 : decode cX8_turns 230 = .ok (.iastore, 1) := by decide +kernel
theorem dX8_turns_231 : decode cX8_turns 231 = .ok (.aload_n 0, 1) := by decide +kernel
theorem dX8_turns_232 : decode cX8_turns 232 = .ok (.dup, 1) := by decide +kernel
theorem dX8_turns_233 : decode cX8_turns 233 = .ok (.getfield 96, 3) := by decide +kernel
theorem dX8_turns_236 : decode cX8_turns 236 = .ok (.iconst 1, 1) := by decide +kernel
theorem dX8_turns_237 : decode cX8_turns 237 = .ok (.iadd, 1) := by decide +kernel
theorem dX8_turns_238 : decode cX8_turns 238 = .ok (.putfield 96, 3) := by decide +kernel
theorem dX8_turns_241 : decode cX8_turns 241 = .ok (.aload_n 0, 1) := by decide +kernel
theorem dX8_turns_242 : decode cX8_turns 242 = .ok (.iload 4, 2) := by decide +kernel
theorem dX8_turns_244 : decode cX8_turns 244 = .ok (.iconst 1, 1) := by decide +kernel
theorem dX8_turns_245 : decode cX8_turns 245 = .ok (.iadd, 1) := by decide +kernel
theorem dX8_turns_246 : decode cX8_turns 246 = .ok (.aload_n 0, 1) := by decide +kernel
theorem dX8_turns_247 : decode cX8_turns 247 = .ok (.getfield 72, 3) := by decide +kernel
theorem dX8_turns_250 : decode cX8_turns 250 = .ok (.iload_n 2, 1) := by decide +kernel
theorem dX8_turns_251 : decode cX8_turns 251 = .ok (.ineg, 1) := by decide +kernel
theorem dX8_turns_252 : decode cX8_turns 252 = .ok (.invokevirtual 107, 3) := by decide +kernel
theorem dX8_turns_255 : decode cX8_turns 255 = .ok (.aload_n 0, 1) := by decide +kernel
theorem dX8_turns_256 : decode cX8_turns 256 = .ok (.invokevirtual 110, 3) := by decide +kernel
theorem dX8_turns_259 : decode cX8_turns 259 = .ok (.return_, 1) := by decide +kernel
set_option maxRecDepth 20000 in
theorem ggX8_joins_X8_compared : GoodIn wsX8_joins wsX8_compared := goodIn_r _ [9] (by decide +kernel) (by decide +kernel)
set_option maxRecDepth 20000 in
theorem gX8_joins_X8_compared : GoodIn wsX8_joins (va_wsS RX8 103 yX8_compared wsX8_compared) := goodIn_app (goodIn_of _ (by decide +kernel)) ggX8_joins_X8_compared
theorem dX8_joins_0 : decode cX8_joins 0 = .ok (.iconst 0, 1) := by decide +kernel
theorem dX8_joins_1 : decode cX8_joins 1 = .ok (.istore_n 1, 1) := by decide +kernel
theorem dX8_joins_2 : decode cX8_joins 2 = .ok (.iconst 0, 1) := by decide +kernel
theorem dX8_joins_3 : decode cX8_joins 3 = .ok (.istore_n 2, 1) := by decide +kernel
theorem dX8_joins_4 : decode cX8_joins 4 = .ok (.iload_n 2, 1) := by decide +kernel
theorem dX8_joins_5 : decode cX8_joins 5 = .ok (.aload_n 0, 1) := by decide +kernel
theorem dX8_joins_6 : decode cX8_joins 6 = .ok (.getfield 96, 3) := by decide +kernel
theorem dX8_joins_9 : decode cX8_joins 9 = .ok (.if_icmp .ge 123, 3) := by decide +kernel
theorem dX8_joins_12 : decode cX8_joins 12 = .ok (.iload_n 1, 1) := by decide +kernel
theorem dX8_joins_13 : decode cX8_joins 13 = .ok (.ifCond .le 74, 3) := by decide +kernel
theorem dX8_joins_16 : decode cX8_joins 16 = .ok (.aload_n 0, 1) := by decide +kernel
theorem dX8_joins_17 : decode cX8_joins 17 = .ok (.getfield 41, 3) := by decide +kernel
theorem dX8_joins_20 : decode cX8_joins 20 = .ok (.iload_n 1, 1) := by decide +kernel
theorem dX8_joins_21 : decode cX8_joins 21 = .ok (.iconst 1, 1) := by decide +kernel
theorem dX8_joins_22 : decode cX8_joins 22 = .ok (.isub, 1) := by decide +kernel
theorem dX8_joins_23 : decode cX8_joins 23 = .ok (.iaload, 1) := by decide +kernel
theorem dX8_joins_24 : decode cX8_joins 24 = .ok (.aload_n 0, 1) := by decide +kernel
theorem dX8_joins_25 : decode cX8_joins 25 = .ok (.getfield 38, 3) := by decide +kernel
theorem dX8_joins_28 : decode cX8_joins 28 = .ok (.iload_n 1, 1) := by decide +kernel
theorem dX8_joins_29 : decode cX8_joins 29 = .ok (.iconst 1, 1) := by decide +kernel
theorem dX8_joins_30 : decode cX8_joins 30 = .ok (.isub, 1) := by decide +kernel
theorem dX8_joins_31 : decode cX8_joins 31 = .ok (.iaload, 1) := by decide +kernel
theorem dX8_joins_32 : decode cX8_joins 32 = .ok (.aload_n 0, 1) := by decide +kernel
theorem dX8_joins_33 : decode cX8_joins 33 = .ok (.getfield 41, 3) := by decide +kernel
theorem dX8_joins_36 : decode cX8_joins 36 = .ok (.iload_n 2, 1) := by decide +kernel
theorem dX8_joins_37 : decode cX8_joins 37 = .ok (.iaload, 1) := by decide +kernel
theorem dX8_joins_38 : decode cX8_joins 38 = .ok (.aload_n 0, 1) := by decide +kernel
theorem dX8_joins_39 : decode cX8_joins 39 = .ok (.getfield 38, 3) := by decide +kernel
theorem dX8_joins_42 : decode cX8_joins 42 = .ok (.iload_n 2, 1) := by decide +kernel
theorem dX8_joins_43 : decode cX8_joins 43 = .ok (.iaload, 1) := by decide +kernel
theorem dX8_joins_44 : decode cX8_joins 44 = .ok (.invokestatic 103, 3) := by decide +kernel
theorem dX8_joins_47 : decode cX8_joins 47 = .ok (.ifCond .ne 40, 3) := by decide +kernel
theorem dX8_joins_50 : decode cX8_joins 50 = .ok (.aload_n 0, 1) := by decide +kernel
theorem dX8_joins_51 : decode cX8_joins 51 = .ok (.getfield 41, 3) := by decide +kernel
theorem dX8_joins_54 : decode cX8_joins 54 = .ok (.iload_n 1, 1) := by decide +kernel
theorem dX8_joins_55 : decode cX8_joins 55 = .ok (.iconst 1, 1) := by decide +kernel
theorem dX8_joins_56 : decode cX8_joins 56 = .ok (.isub, 1) := by decide +kernel
theorem dX8_joins_57 : decode cX8_joins 57 = .ok (.dup2, 1) := by decide +kernel
theorem dX8_joins_58 : decode cX8_joins 58 = .ok (.iaload, 1) := by decide +kernel
theorem dX8_joins_59 : decode cX8_joins 59 = .ok (.aload_n 0, 1) := by decide +kernel
theorem dX8_joins_60 : decode cX8_joins 60 = .ok (.getfield 41, 3) := by decide +kernel
theorem dX8_joins_63 : decode cX8_joins 63 = .ok (.iload_n 2, 1) := by decide +kernel
theorem dX8_joins_64 : decode cX8_joins 64 = .ok (.iaload, 1) := by decide +kernel
theorem dX8_joins_65 : decode cX8_joins 65 = .ok (.iadd, 1) := by decide +kernel
theorem dX8_joins_66 : decode cX8_joins 66 = .ok (.iastore, 1) := by decide +kernel
theorem dX8_joins_67 : decode cX8_joins 67 = .ok (.aload_n 0, 1) := by decide +kernel
theorem dX8_joins_68 : decode cX8_joins 68 = .ok (.getfield 38, 3) := by decide +kernel
theorem dX8_joins_71 : decode cX8_joins 71 = .ok (.iload_n 1, 1) := by decide +kernel
theorem dX8_joins_72 : decode cX8_joins 72 = .ok (.iconst 1, 1) := by decide +kernel
theorem dX8_joins_73 : decode cX8_joins 73 = .ok (.isub, 1) := by decide +kernel
theorem dX8_joins_74 : decode cX8_joins 74 = .ok (.dup2, 1) := by decide +kernel
theorem dX8_joins_75 : decode cX8_joins 75 = .ok (.iaload, 1) := by decide +kernel
theorem dX8_joins_76 : decode cX8_joins 76 = .ok (.aload_n 0, 1) := by decide +kernel
theorem dX8_joins_77 : decode cX8_joins 77 = .ok (.getfield 38, 3) := by decide +kernel
theorem dX8_joins_80 : decode cX8_joins 80 = .ok (.iload_n 2, 1) := by decide +kernel
theorem dX8_joins_81 : decode cX8_joins 81 = .ok (.iaload, 1) := by decide +kernel
theorem dX8_joins_82 : decode cX8_joins 82 = .ok (.iadd, 1) := by decide +kernel
theorem dX8_joins_83 : decode cX8_joins 83 = .ok (.iastore, 1) := by decide +kernel
theorem dX8_joins_84 : decode cX8_joins 84 = .ok (.goto 42, 3) := by decide +kernel
theorem dX8_joins_87 : decode cX8_joins 87 = .ok (.aload_n 0, 1) := by decide +kernel
theorem dX8_joins_88 : decode cX8_joins 88 = .ok (.getfield 35, 3) := by decide +kernel
theorem dX8_joins_91 : decode cX8_joins 91 = .ok (.iload_n 1, 1) := by decide +kernel
theorem dX8_joins_92 : decode cX8_joins 92 = .ok (.aload_n 0, 1) := by decide +kernel
theorem dX8_joins_93 : decode cX8_joins 93 = .ok (.getfield 35, 3) := by decide +kernel
theorem dX8_joins_96 : decode cX8_joins 96 = .ok (.iload_n 2, 1) := by decide +kernel
theorem dX8_joins_97 : decode cX8_joins 97 = .ok (.iaload, 1) := by decide +kernel
theorem dX8_joins_98 : decode cX8_joins 98 = .ok (.iastore, 1) := by decide +kernel
theorem dX8_joins_99 : decode cX8_joins 99 = .ok (.aload_n 0, 1) := by decide +kernel
theorem dX8_joins_100 : decode cX8_joins 100 = .ok (.getfield 41, 3) := by decide +kernel
theorem dX8_joins_103 : decode cX8_joins 103 = .ok (.iload_n 1, 1) := by decide +kernel
theorem dX8_joins_104 : decode cX8_joins 104 = .ok (.aload_n 0, 1) := by decide +kernel
theorem dX8_joins_105 : decode cX8_joins 105 = .ok (.getfield 41, 3) := by decide +kernel
theorem dX8_joins_108 : decode cX8_joins 108 = .ok (.iload_n 2, 1) := by decide +kernel
theorem dX8_joins_109 : decode cX8_joins 109 = .ok (.iaload, 1) := by decide +kernel
theorem dX8_joins_110 : decode cX8_joins 110 = .ok (.iastore, 1) := by decide +kernel
theorem dX8_joins_111 : decode cX8_joins 111 = .ok (.aload_n 0, 1) := by decide +kernel
theorem dX8_joins_112 : decode cX8_joins 112 = .ok (.getfield 38, 3) := by decide +kernel
theorem dX8_joins_115 : decode cX8_joins 115 = .ok (.iload_n 1, 1) := by decide +kernel
theorem dX8_joins_116 : decode cX8_joins 116 = .ok (.aload_n 0, 1) := by decide +kernel
theorem dX8_joins_117 : decode cX8_joins 117 = .ok (.getfield 38, 3) := by decide +kernel
theorem dX8_joins_120 : decode cX8_joins 120 = .ok (.iload_n 2, 1) := by decide +kernel
theorem dX8_joins_121 : decode cX8_joins 121 = .ok (.iaload, 1) := by decide +kernel
theorem dX8_joins_122 : decode cX8_joins 122 = .ok (.iastore, 1) := by decide +kernel
theorem dX8_joins_123 : decode cX8_joins 123 = .ok (.iinc 1 1, 3) := by decide +kernel
theorem dX8_joins_126 : decode cX8_joins 126 = .ok (.iinc 2 1, 3) := by decide +kernel
theorem dX8_joins_129 : decode cX8_joins 129 = .ok (.goto (-125), 3) := by decide +kernel
theorem dX8_joins_132 : decode cX8_joins 132 = .ok (.aload_n 0, 1) := by decide +kernel
theorem dX8_joins_133 : decode cX8_joins 133 = .ok (.iload_n 1, 1) := by decide +kernel
theorem dX8_joins_134 : decode cX8_joins 134 = .ok (.putfield 96, 3) := by decide +kernel
theorem dX8_joins_137 : decode cX8_joins 137 = .ok (.aload_n 0, 1) := by decide +kernel
theorem dX8_joins_138 : decode cX8_joins 138 = .ok (.getfield 35, 3) := by decide +kernel
theorem dX8_joins_141 : decode cX8_joins 141 = .ok (.iload_n 1, 1) := by decide +kernel
theorem dX8_joins_142 : decode cX8_joins 142 = .ok (.aload_n 0, 1) := by decide +kernel
theorem dX8_joins_143 : decode cX8_joins 143 = .ok (.getfield 72, 3) := by decide +kernel
theorem dX8_joins_146 : decode cX8_joins 146 = .ok (.iastore, 1) := by decide +kernel
theorem dX8_joins_147 : decode cX8_joins 147 = .ok (.return_, 1) := by decide +kernel
theorem dX8_errorOf_0 : decode cX8_errorOf 0 = .ok (.lconst 0, 1) := by decide +kernel
theorem dX8_errorOf_1 : decode cX8_errorOf 1 = .ok (.lstore_n 1, 1) := by decide +kernel
theorem dX8_errorOf_2 : decode cX8_errorOf 2 = .ok (.iconst 0, 1) := by decide +kernel
theorem dX8_errorOf_3 : decode cX8_errorOf 3 = .ok (.istore_n 3, 1) := by decide +kernel
theorem dX8_errorOf_4 : decode cX8_errorOf 4 = .ok (.iload_n 3, 1) := by decide +kernel
theorem dX8_errorOf_5 : decode cX8_errorOf 5 = .ok (.aload_n 0, 1) := by decide +kernel
theorem dX8_errorOf_6 : decode cX8_errorOf 6 = .ok (.getfield 7, 3) := by decide +kernel
theorem dX8_errorOf_9 : decode cX8_errorOf 9 = .ok (.iconst 0, 1) := by decide +kernel
theorem dX8_errorOf_10 : decode cX8_errorOf 10 = .ok (.iaload, 1) := by decide +kernel
theorem dX8_errorOf_11 : decode cX8_errorOf 11 = .ok (.if_icmp .ge 44, 3) := by decide +kernel
theorem dX8_errorOf_14 : decode cX8_errorOf 14 = .ok (.lload_n 1, 1) := by decide +kernel
theorem dX8_errorOf_15 : decode cX8_errorOf 15 = .ok (.aload_n 0, 1) := by decide +kernel
theorem dX8_errorOf_16 : decode cX8_errorOf 16 = .ok (.getfield 7, 3) := by decide +kernel
theorem dX8_errorOf_19 : decode cX8_errorOf 19 = .ok (.bipush 25, 2) := by decide +kernel
theorem dX8_errorOf_21 : decode cX8_errorOf 21 = .ok (.iload_n 3, 1) := by decide +kernel
theorem dX8_errorOf_22 : decode cX8_errorOf 22 = .ok (.iadd, 1) := by decide +kernel
theorem dX8_errorOf_23 : decode cX8_errorOf 23 = .ok (.iaload, 1) := by decide +kernel
theorem dX8_errorOf_24 : decode cX8_errorOf 24 = .ok (.i2l, 1) := by decide +kernel
theorem dX8_errorOf_25 : decode cX8_errorOf 25 = .ok (.aload_n 0, 1) := by decide +kernel
theorem dX8_errorOf_26 : decode cX8_errorOf 26 = .ok (.getfield 7, 3) := by decide +kernel
theorem dX8_errorOf_29 : decode cX8_errorOf 29 = .ok (.bipush 13, 2) := by decide +kernel
theorem dX8_errorOf_31 : decode cX8_errorOf 31 = .ok (.iload_n 3, 1) := by decide +kernel
theorem dX8_errorOf_32 : decode cX8_errorOf 32 = .ok (.iadd, 1) := by decide +kernel
theorem dX8_errorOf_33 : decode cX8_errorOf 33 = .ok (.iaload, 1) := by decide +kernel
theorem dX8_errorOf_34 : decode cX8_errorOf 34 = .ok (.i2l, 1) := by decide +kernel
theorem dX8_errorOf_35 : decode cX8_errorOf 35 = .ok (.lmul, 1) := by decide +kernel
theorem dX8_errorOf_36 : decode cX8_errorOf 36 = .ok (.aload_n 0, 1) := by decide +kernel
theorem dX8_errorOf_37 : decode cX8_errorOf 37 = .ok (.getfield 7, 3) := by decide +kernel
theorem dX8_errorOf_40 : decode cX8_errorOf 40 = .ok (.bipush 13, 2) := by decide +kernel
theorem dX8_errorOf_42 : decode cX8_errorOf 42 = .ok (.iload_n 3, 1) := by decide +kernel
theorem dX8_errorOf_43 : decode cX8_errorOf 43 = .ok (.iadd, 1) := by decide +kernel
theorem dX8_errorOf_44 : decode cX8_errorOf 44 = .ok (.iaload, 1) := by decide +kernel
theorem dX8_errorOf_45 : decode cX8_errorOf 45 = .ok (.i2l, 1) := by decide +kernel
theorem dX8_errorOf_46 : decode cX8_errorOf 46 = .ok (.lmul, 1) := by decide +kernel
theorem dX8_errorOf_47 : decode cX8_errorOf 47 = .ok (.ladd, 1) := by decide +kernel
theorem dX8_errorOf_48 : decode cX8_errorOf 48 = .ok (.lstore_n 1, 1) := by decide +kernel
theorem dX8_errorOf_49 : decode cX8_errorOf 49 = .ok (.iinc 3 1, 3) := by decide +kernel
theorem dX8_errorOf_52 : decode cX8_errorOf 52 = .ok (.goto (-48), 3) := by decide +kernel
theorem dX8_errorOf_55 : decode cX8_errorOf 55 = .ok (.lload_n 1, 1) := by decide +kernel
theorem dX8_errorOf_56 : decode cX8_errorOf 56 = .ok (.ldc2_w 113, 3) := by decide +kernel
theorem dX8_errorOf_59 : decode cX8_errorOf 59 = .ok (.lmul, 1) := by decide +kernel
theorem dX8_errorOf_60 : decode cX8_errorOf 60 = .ok (.lstore_n 1, 1) := by decide +kernel
theorem dX8_errorOf_61 : decode cX8_errorOf 61 = .ok (.iconst 0, 1) := by decide +kernel
theorem dX8_errorOf_62 : decode cX8_errorOf 62 = .ok (.istore_n 3, 1) := by decide +kernel
theorem dX8_errorOf_63 : decode cX8_errorOf 63 = .ok (.iload_n 3, 1) := by decide +kernel
theorem dX8_errorOf_64 : decode cX8_errorOf 64 = .ok (.aload_n 0, 1) := by decide +kernel
theorem dX8_errorOf_65 : decode cX8_errorOf 65 = .ok (.getfield 96, 3) := by decide +kernel
theorem dX8_errorOf_68 : decode cX8_errorOf 68 = .ok (.if_icmp .ge 39, 3) := by decide +kernel
theorem dX8_errorOf_71 : decode cX8_errorOf 71 = .ok (.lload_n 1, 1) := by decide +kernel
theorem dX8_errorOf_72 : decode cX8_errorOf 72 = .ok (.ldc2_w 113, 3) := by decide +kernel
theorem dX8_errorOf_75 : decode cX8_errorOf 75 = .ok (.aload_n 0, 1) := by decide +kernel
theorem dX8_errorOf_76 : decode cX8_errorOf 76 = .ok (.getfield 38, 3) := by decide +kernel
theorem dX8_errorOf_79 : decode cX8_errorOf 79 = .ok (.iload_n 3, 1) := by decide +kernel
theorem dX8_errorOf_80 : decode cX8_errorOf 80 = .ok (.iaload, 1) := by decide +kernel
theorem dX8_errorOf_81 : decode cX8_errorOf 81 = .ok (.i2l, 1) := by decide +kernel
theorem dX8_errorOf_82 : decode cX8_errorOf 82 = .ok (.ldiv, 1) := by decide +kernel
theorem dX8_errorOf_83 : decode cX8_errorOf 83 = .ok (.aload_n 0, 1) := by decide +kernel
theorem dX8_errorOf_84 : decode cX8_errorOf 84 = .ok (.getfield 41, 3) := by decide +kernel
theorem dX8_errorOf_87 : decode cX8_errorOf 87 = .ok (.iload_n 3, 1) := by decide +kernel
theorem dX8_errorOf_88 : decode cX8_errorOf 88 = .ok (.iaload, 1) := by decide +kernel
theorem dX8_errorOf_89 : decode cX8_errorOf 89 = .ok (.i2l, 1) := by decide +kernel
theorem dX8_errorOf_90 : decode cX8_errorOf 90 = .ok (.lmul, 1) := by decide +kernel
theorem dX8_errorOf_91 : decode cX8_errorOf 91 = .ok (.aload_n 0, 1) := by decide +kernel
theorem dX8_errorOf_92 : decode cX8_errorOf 92 = .ok (.getfield 41, 3) := by decide +kernel
theorem dX8_errorOf_95 : decode cX8_errorOf 95 = .ok (.iload_n 3, 1) := by decide +kernel
theorem dX8_errorOf_96 : decode cX8_errorOf 96 = .ok (.iaload, 1) := by decide +kernel
theorem dX8_errorOf_97 : decode cX8_errorOf 97 = .ok (.i2l, 1) := by decide +kernel
theorem dX8_errorOf_98 : decode cX8_errorOf 98 = .ok (.lmul, 1) := by decide +kernel
theorem dX8_errorOf_99 : decode cX8_errorOf 99 = .ok (.lsub, 1) := by decide +kernel
theorem dX8_errorOf_100 : decode cX8_errorOf 100 = .ok (.lstore_n 1, 1) := by decide +kernel
theorem dX8_errorOf_101 : decode cX8_errorOf 101 = .ok (.iinc 3 1, 3) := by decide +kernel
theorem dX8_errorOf_104 : decode cX8_errorOf 104 = .ok (.goto (-41), 3) := by decide +kernel
theorem dX8_errorOf_107 : decode cX8_errorOf 107 = .ok (.lload_n 1, 1) := by decide +kernel
theorem dX8_errorOf_108 : decode cX8_errorOf 108 = .ok (.lreturn, 1) := by decide +kernel
set_option maxRecDepth 20000 in
theorem ggX8_fits_X8_rises : GoodIn wsX8_fits wsX8_rises := goodIn_r _ [7, 1, 8, 9, 10, 6, 11, 12, 13, 14, 15, 16, 17, 18, 19, 34, 35, 36, 37, 38, 39, 40, 41, 42, 43, 44, 45, 46, 47, 48, 49, 50, 51, 52, 53, 54, 55, 56, 57] (by decide +kernel) (by decide +kernel)
set_option maxRecDepth 20000 in
theorem gX8_fits_X8_rises : GoodIn wsX8_fits (wsV RX8 107 RX8 yX8_rises wsX8_rises) := goodIn_app (goodIn_of _ (by decide +kernel)) ggX8_fits_X8_rises
set_option maxRecDepth 20000 in
theorem ggX8_fits_X8_joins : GoodIn wsX8_fits wsX8_joins := goodIn_r _ [23, 1, 14, 15, 16, 2, 17, 18, 6, 19, 34, 35, 36, 37, 38, 39, 40, 41, 42, 43, 44, 45, 46, 47, 48, 49, 50, 51, 52, 53, 54, 55, 56, 57] (by decide +kernel) (by decide +kernel)
set_option maxRecDepth 20000 in
theorem gX8_fits_X8_joins : GoodIn wsX8_fits (wsV RX8 110 RX8 yX8_joins wsX8_joins) := goodIn_app (goodIn_of _ (by decide +kernel)) ggX8_fits_X8_joins
set_option maxRecDepth 20000 in
theorem ggX8_fits_X8_turns : GoodIn wsX8_fits wsX8_turns := goodIn_r _ [27, 12, 13, 2, 1, 16, 14, 15, 17, 18, 6, 19, 3, 4, 5, 7, 8, 9, 10, 11, 20, 21, 22, 23, 34, 35, 36, 37, 38, 39, 40, 41, 42, 43, 44, 45, 46, 47, 48, 49, 50, 51, 52, 53, 54, 55, 56, 57] (by decide +kernel) (by decide +kernel)
set_option maxRecDepth 20000 in
theorem gX8_fits_X8_turns : GoodIn wsX8_fits (wsV RX8 115 RX8 yX8_turns wsX8_turns) := goodIn_app (goodIn_of _ (by decide +kernel)) ggX8_fits_X8_turns
set_option maxRecDepth 20000 in
theorem ggX8_fits_X8_errorOf : GoodIn wsX8_fits wsX8_errorOf := goodIn_r _ [31, 32, 33, 1, 15, 14, 34, 35, 36, 37, 38, 39, 40, 41, 42, 43, 44, 45, 46, 47, 48, 49, 50, 51, 52, 53, 54, 55, 56, 57] (by decide +kernel) (by decide +kernel)
set_option maxRecDepth 20000 in
theorem gX8_fits_X8_errorOf : GoodIn wsX8_fits (wsV RX8 119 RX8 yX8_errorOf wsX8_errorOf) := goodIn_app (goodIn_of _ (by decide +kernel)) ggX8_fits_X8_errorOf
theorem dX8_fits_0 : decode cX8_fits 0 = .ok (.iconst 0, 1) := by decide +kernel
theorem dX8_fits_1 : decode cX8_fits 1 = .ok (.istore_n 2, 1) := by decide +kernel
theorem dX8_fits_2 : decode cX8_fits 2 = .ok (.iload_n 1, 1) := by decide +kernel
theorem dX8_fits_3 : decode cX8_fits 3 = .ok (.iconst 2, 1) := by decide +kernel
theorem dX8_fits_4 : decode cX8_fits 4 = .ok (.if_icmp .ge 33, 3) := by decide +kernel
theorem dX8_fits_7 : decode cX8_fits 7 = .ok (.aload_n 0, 1) := by decide +kernel
theorem dX8_fits_8 : decode cX8_fits 8 = .ok (.iconst 0, 1) := by decide +kernel
theorem dX8_fits_9 : decode cX8_fits 9 = .ok (.putfield 96, 3) := by decide +kernel
theorem dX8_fits_12 : decode cX8_fits 12 = .ok (.aload_n 0, 1) := by decide +kernel
theorem dX8_fits_13 : decode cX8_fits 13 = .ok (.iconst 0, 1) := by decide +kernel
theorem dX8_fits_14 : decode cX8_fits 14 = .ok (.aload_n 0, 1) := by decide +kernel
theorem dX8_fits_15 : decode cX8_fits 15 = .ok (.getfield 72, 3) := by decide +kernel
theorem dX8_fits_18 : decode cX8_fits 18 = .ok (.iload_n 1, 1) := by decide +kernel
theorem dX8_fits_19 : decode cX8_fits 19 = .ok (.ifCond .ne 7, 3) := by decide +kernel
theorem dX8_fits_22 : decode cX8_fits 22 = .ok (.iconst 1, 1) := by decide +kernel
theorem dX8_fits_23 : decode cX8_fits 23 = .ok (.goto 4, 3) := by decide +kernel
theorem dX8_fits_26 : decode cX8_fits 26 = .ok (.iconst (-1), 1) := by decide +kernel
theorem dX8_fits_27 : decode cX8_fits 27 = .ok (.invokevirtual 107, 3) := by decide +kernel
theorem dX8_fits_30 : decode cX8_fits 30 = .ok (.aload_n 0, 1) := by decide +kernel
theorem dX8_fits_31 : decode cX8_fits 31 = .ok (.invokevirtual 110, 3) := by decide +kernel
theorem dX8_fits_34 : decode cX8_fits 34 = .ok (.goto 85, 3) := by decide +kernel
theorem dX8_fits_37 : decode cX8_fits 37 = .ok (.lconst 0, 1) := by decide +kernel
theorem dX8_fits_38 : decode cX8_fits 38 = .ok (.lstore_n 3, 1) := by decide +kernel
theorem dX8_fits_39 : decode cX8_fits 39 = .ok (.iconst 0, 1) := by decide +kernel
theorem dX8_fits_40 : decode cX8_fits 40 = .ok (.istore 5, 2) := by decide +kernel
theorem dX8_fits_42 : decode cX8_fits 42 = .ok (.iload 5, 2) := by decide +kernel
theorem dX8_fits_44 : decode cX8_fits 44 = .ok (.aload_n 0, 1) := by decide +kernel
theorem dX8_fits_45 : decode cX8_fits 45 = .ok (.getfield 72, 3) := by decide +kernel
theorem dX8_fits_48 : decode cX8_fits 48 = .ok (.if_icmp .ge 49, 3) := by decide +kernel
theorem dX8_fits_51 : decode cX8_fits 51 = .ok (.aload_n 0, 1) := by decide +kernel
theorem dX8_fits_52 : decode cX8_fits 52 = .ok (.iload 5, 2) := by decide +kernel
theorem dX8_fits_54 : decode cX8_fits 54 = .ok (.iload_n 1, 1) := by decide +kernel
theorem dX8_fits_55 : decode cX8_fits 55 = .ok (.iconst 2, 1) := by decide +kernel
theorem dX8_fits_56 : decode cX8_fits 56 = .ok (.if_icmp .ne 7, 3) := by decide +kernel
theorem dX8_fits_59 : decode cX8_fits 59 = .ok (.iconst 1, 1) := by decide +kernel
theorem dX8_fits_60 : decode cX8_fits 60 = .ok (.goto 4, 3) := by decide +kernel
theorem dX8_fits_63 : decode cX8_fits 63 = .ok (.iconst (-1), 1) := by decide +kernel
theorem dX8_fits_64 : decode cX8_fits 64 = .ok (.invokevirtual 115, 3) := by decide +kernel
theorem dX8_fits_67 : decode cX8_fits 67 = .ok (.aload_n 0, 1) := by decide +kernel
theorem dX8_fits_68 : decode cX8_fits 68 = .ok (.invokevirtual 119, 3) := by decide +kernel
theorem dX8_fits_71 : decode cX8_fits 71 = .ok (.lstore 6, 2) := by decide +kernel
theorem dX8_fits_73 : decode cX8_fits 73 = .ok (.iload 5, 2) := by decide +kernel
theorem dX8_fits_75 : decode cX8_fits 75 = .ok (.ifCond .eq 10, 3) := by decide +kernel
theorem dX8_fits_78 : decode cX8_fits 78 = .ok (.lload 6, 2) := by decide +kernel
theorem dX8_fits_80 : decode cX8_fits 80 = .ok (.lload_n 3, 1) := by decide +kernel
theorem dX8_fits_81 : decode cX8_fits 81 = .ok (.lcmp, 1) := by decide +kernel
theorem dX8_fits_82 : decode cX8_fits 82 = .ok (.ifCond .ge 9, 3) := by decide +kernel
theorem dX8_fits_85 : decode cX8_fits 85 = .ok (.lload 6, 2) := by decide +kernel
theorem dX8_fits_87 : decode cX8_fits 87 = .ok (.lstore_n 3, 1) := by decide +kernel
theorem dX8_fits_88 : decode cX8_fits 88 = .ok (.iload 5, 2) := by decide +kernel
theorem dX8_fits_90 : decode cX8_fits 90 = .ok (.istore_n 2, 1) := by decide +kernel
theorem dX8_fits_91 : decode cX8_fits 91 = .ok (.iinc 5 1, 3) := by decide +kernel
theorem dX8_fits_94 : decode cX8_fits 94 = .ok (.goto (-52), 3) := by decide +kernel
theorem dX8_fits_97 : decode cX8_fits 97 = .ok (.aload_n 0, 1) := by decide +kernel
theorem dX8_fits_98 : decode cX8_fits 98 = .ok (.getfield 72, 3) := by decide +kernel
theorem dX8_fits_101 : decode cX8_fits 101 = .ok (.ifCond .le 18, 3) := by decide +kernel
theorem dX8_fits_104 : decode cX8_fits 104 = .ok (.aload_n 0, 1) := by decide +kernel
theorem dX8_fits_105 : decode cX8_fits 105 = .ok (.iload_n 2, 1) := by decide +kernel
theorem dX8_fits_106 : decode cX8_fits 106 = .ok (.iload_n 1, 1) := by decide +kernel
theorem dX8_fits_107 : decode cX8_fits 107 = .ok (.iconst 2, 1) := by decide +kernel
theorem dX8_fits_108 : decode cX8_fits 108 = .ok (.if_icmp .ne 7, 3) := by decide +kernel
theorem dX8_fits_111 : decode cX8_fits 111 = .ok (.iconst 1, 1) := by decide +kernel
theorem dX8_fits_112 : decode cX8_fits 112 = .ok (.goto 4, 3) := by decide +kernel
theorem dX8_fits_115 : decode cX8_fits 115 = .ok (.iconst (-1), 1) := by decide +kernel
theorem dX8_fits_116 : decode cX8_fits 116 = .ok (.invokevirtual 115, 3) := by decide +kernel
theorem dX8_fits_119 : decode cX8_fits 119 = .ok (.iload_n 2, 1) := by decide +kernel
theorem dX8_fits_120 : decode cX8_fits 120 = .ok (.ireturn, 1) := by decide +kernel
theorem dX8_blockOf_0 : decode cX8_blockOf 0 = .ok (.iconst 0, 1) := by decide +kernel
theorem dX8_blockOf_1 : decode cX8_blockOf 1 = .ok (.istore_n 2, 1) := by decide +kernel
theorem dX8_blockOf_2 : decode cX8_blockOf 2 = .ok (.aload_n 0, 1) := by decide +kernel
theorem dX8_blockOf_3 : decode cX8_blockOf 3 = .ok (.getfield 35, 3) := by decide +kernel
theorem dX8_blockOf_6 : decode cX8_blockOf 6 = .ok (.iload_n 2, 1) := by decide +kernel
theorem dX8_blockOf_7 : decode cX8_blockOf 7 = .ok (.iconst 1, 1) := by decide +kernel
theorem dX8_blockOf_8 : decode cX8_blockOf 8 = .ok (.iadd, 1) := by decide +kernel
theorem dX8_blockOf_9 : decode cX8_blockOf 9 = .ok (.iaload, 1) := by decide +kernel
theorem dX8_blockOf_10 : decode cX8_blockOf 10 = .ok (.iload_n 1, 1) := by decide +kernel
theorem dX8_blockOf_11 : decode cX8_blockOf 11 = .ok (.if_icmp .gt 9, 3) := by decide +kernel
theorem dX8_blockOf_14 : decode cX8_blockOf 14 = .ok (.iinc 2 1, 3) := by decide +kernel
theorem dX8_blockOf_17 : decode cX8_blockOf 17 = .ok (.goto (-15), 3) := by decide +kernel
theorem dX8_blockOf_20 : decode cX8_blockOf 20 = .ok (.iload_n 2, 1) := by decide +kernel
theorem dX8_blockOf_21 : decode cX8_blockOf 21 = .ok (.ireturn, 1) := by decide +kernel
theorem dX8_rise_0 : decode cX8_rise 0 = .ok (.aload_n 0, 1) := by decide +kernel
theorem dX8_rise_1 : decode cX8_rise 1 = .ok (.getfield 32, 3) := by decide +kernel
theorem dX8_rise_4 : decode cX8_rise 4 = .ok (.iload_n 2, 1) := by decide +kernel
theorem dX8_rise_5 : decode cX8_rise 5 = .ok (.iaload, 1) := by decide +kernel
theorem dX8_rise_6 : decode cX8_rise 6 = .ok (.aload_n 0, 1) := by decide +kernel
theorem dX8_rise_7 : decode cX8_rise 7 = .ok (.getfield 29, 3) := by decide +kernel
theorem dX8_rise_10 : decode cX8_rise 10 = .ok (.iload_n 1, 1) := by decide +kernel
theorem dX8_rise_11 : decode cX8_rise 11 = .ok (.iaload, 1) := by decide +kernel
theorem dX8_rise_12 : decode cX8_rise 12 = .ok (.imul, 1) := by decide +kernel
theorem dX8_rise_13 : decode cX8_rise 13 = .ok (.aload_n 0, 1) := by decide +kernel
theorem dX8_rise_14 : decode cX8_rise 14 = .ok (.getfield 32, 3) := by decide +kernel
theorem dX8_rise_17 : decode cX8_rise 17 = .ok (.iload_n 1, 1) := by decide +kernel
theorem dX8_rise_18 : decode cX8_rise 18 = .ok (.iaload, 1) := by decide +kernel
theorem dX8_rise_19 : decode cX8_rise 19 = .ok (.aload_n 0, 1) := by decide +kernel
theorem dX8_rise_20 : decode cX8_rise 20 = .ok (.getfield 29, 3) := by decide +kernel
theorem dX8_rise_23 : decode cX8_rise 23 = .ok (.iload_n 2, 1) := by decide +kernel
theorem dX8_rise_24 : decode cX8_rise 24 = .ok (.iaload, 1) := by decide +kernel
theorem dX8_rise_25 : decode cX8_rise 25 = .ok (.imul, 1) := by decide +kernel
theorem dX8_rise_26 : decode cX8_rise 26 = .ok (.isub, 1) := by decide +kernel
theorem dX8_rise_27 : decode cX8_rise 27 = .ok (.i2l, 1) := by decide +kernel
theorem dX8_rise_28 : decode cX8_rise 28 = .ok (.aload_n 0, 1) := by decide +kernel
theorem dX8_rise_29 : decode cX8_rise 29 = .ok (.getfield 29, 3) := by decide +kernel
theorem dX8_rise_32 : decode cX8_rise 32 = .ok (.iload_n 3, 1) := by decide +kernel
theorem dX8_rise_33 : decode cX8_rise 33 = .ok (.iaload, 1) := by decide +kernel
theorem dX8_rise_34 : decode cX8_rise 34 = .ok (.i2l, 1) := by decide +kernel
theorem dX8_rise_35 : decode cX8_rise 35 = .ok (.lmul, 1) := by decide +kernel
theorem dX8_rise_36 : decode cX8_rise 36 = .ok (.aload_n 0, 1) := by decide +kernel
theorem dX8_rise_37 : decode cX8_rise 37 = .ok (.getfield 26, 3) := by decide +kernel
theorem dX8_rise_40 : decode cX8_rise 40 = .ok (.iload_n 3, 1) := by decide +kernel
theorem dX8_rise_41 : decode cX8_rise 41 = .ok (.iaload, 1) := by decide +kernel
theorem dX8_rise_42 : decode cX8_rise 42 = .ok (.aload_n 0, 1) := by decide +kernel
theorem dX8_rise_43 : decode cX8_rise 43 = .ok (.getfield 26, 3) := by decide +kernel
theorem dX8_rise_46 : decode cX8_rise 46 = .ok (.iload_n 1, 1) := by decide +kernel
theorem dX8_rise_47 : decode cX8_rise 47 = .ok (.iaload, 1) := by decide +kernel
theorem dX8_rise_48 : decode cX8_rise 48 = .ok (.isub, 1) := by decide +kernel
theorem dX8_rise_49 : decode cX8_rise 49 = .ok (.i2l, 1) := by decide +kernel
theorem dX8_rise_50 : decode cX8_rise 50 = .ok (.lmul, 1) := by decide +kernel
theorem dX8_rise_51 : decode cX8_rise 51 = .ok (.lstore 4, 2) := by decide +kernel
theorem dX8_rise_53 : decode cX8_rise 53 = .ok (.aload_n 0, 1) := by decide +kernel
theorem dX8_rise_54 : decode cX8_rise 54 = .ok (.getfield 32, 3) := by decide +kernel
theorem dX8_rise_57 : decode cX8_rise 57 = .ok (.iload_n 3, 1) := by decide +kernel
theorem dX8_rise_58 : decode cX8_rise 58 = .ok (.iaload, 1) := by decide +kernel
theorem dX8_rise_59 : decode cX8_rise 59 = .ok (.aload_n 0, 1) := by decide +kernel
theorem dX8_rise_60 : decode cX8_rise 60 = .ok (.getfield 29, 3) := by decide +kernel
theorem dX8_rise_63 : decode cX8_rise 63 = .ok (.iload_n 1, 1) := by decide +kernel
theorem dX8_rise_64 : decode cX8_rise 64 = .ok (.iaload, 1) := by decide +kernel
theorem dX8_rise_65 : decode cX8_rise 65 = .ok (.imul, 1) := by decide +kernel
theorem dX8_rise_66 : decode cX8_rise 66 = .ok (.aload_n 0, 1) := by decide +kernel
theorem dX8_rise_67 : decode cX8_rise 67 = .ok (.getfield 32, 3) := by decide +kernel
theorem dX8_rise_70 : decode cX8_rise 70 = .ok (.iload_n 1, 1) := by decide +kernel
theorem dX8_rise_71 : decode cX8_rise 71 = .ok (.iaload, 1) := by decide +kernel
theorem dX8_rise_72 : decode cX8_rise 72 = .ok (.aload_n 0, 1) := by decide +kernel
theorem dX8_rise_73 : decode cX8_rise 73 = .ok (.getfield 29, 3) := by decide +kernel
theorem dX8_rise_76 : decode cX8_rise 76 = .ok (.iload_n 3, 1) := by decide +kernel
theorem dX8_rise_77 : decode cX8_rise 77 = .ok (.iaload, 1) := by decide +kernel
theorem dX8_rise_78 : decode cX8_rise 78 = .ok (.imul, 1) := by decide +kernel
theorem dX8_rise_79 : decode cX8_rise 79 = .ok (.isub, 1) := by decide +kernel
theorem dX8_rise_80 : decode cX8_rise 80 = .ok (.i2l, 1) := by decide +kernel
theorem dX8_rise_81 : decode cX8_rise 81 = .ok (.aload_n 0, 1) := by decide +kernel
theorem dX8_rise_82 : decode cX8_rise 82 = .ok (.getfield 29, 3) := by decide +kernel
theorem dX8_rise_85 : decode cX8_rise 85 = .ok (.iload_n 2, 1) := by decide +kernel
theorem dX8_rise_86 : decode cX8_rise 86 = .ok (.iaload, 1) := by decide +kernel
theorem dX8_rise_87 : decode cX8_rise 87 = .ok (.i2l, 1) := by decide +kernel
theorem dX8_rise_88 : decode cX8_rise 88 = .ok (.lmul, 1) := by decide +kernel
theorem dX8_rise_89 : decode cX8_rise 89 = .ok (.aload_n 0, 1) := by decide +kernel
theorem dX8_rise_90 : decode cX8_rise 90 = .ok (.getfield 26, 3) := by decide +kernel
theorem dX8_rise_93 : decode cX8_rise 93 = .ok (.iload_n 2, 1) := by decide +kernel
theorem dX8_rise_94 : decode cX8_rise 94 = .ok (.iaload, 1) := by decide +kernel
theorem dX8_rise_95 : decode cX8_rise 95 = .ok (.aload_n 0, 1) := by decide +kernel
theorem dX8_rise_96 : decode cX8_rise 96 = .ok (.getfield 26, 3) := by decide +kernel
theorem dX8_rise_99 : decode cX8_rise 99 = .ok (.iload_n 1, 1) := by decide +kernel
theorem dX8_rise_100 : decode cX8_rise 100 = .ok (.iaload, 1) := by decide +kernel
theorem dX8_rise_101 : decode cX8_rise 101 = .ok (.isub, 1) := by decide +kernel
theorem dX8_rise_102 : decode cX8_rise 102 = .ok (.i2l, 1) := by decide +kernel
theorem dX8_rise_103 : decode cX8_rise 103 = .ok (.lmul, 1) := by decide +kernel
theorem dX8_rise_104 : decode cX8_rise 104 = .ok (.lstore 6, 2) := by decide +kernel
theorem dX8_rise_106 : decode cX8_rise 106 = .ok (.lload 4, 2) := by decide +kernel
theorem dX8_rise_108 : decode cX8_rise 108 = .ok (.lload 6, 2) := by decide +kernel
theorem dX8_rise_110 : decode cX8_rise 110 = .ok (.lcmp, 1) := by decide +kernel
theorem dX8_rise_111 : decode cX8_rise 111 = .ok (.ifCond .ge 9, 3) := by decide +kernel
theorem dX8_rise_114 : decode cX8_rise 114 = .ok (.ldc2_w 123, 3) := by decide +kernel
theorem dX8_rise_117 : decode cX8_rise 117 = .ok (.goto 16, 3) := by decide +kernel
theorem dX8_rise_120 : decode cX8_rise 120 = .ok (.lload 4, 2) := by decide +kernel
theorem dX8_rise_122 : decode cX8_rise 122 = .ok (.lload 6, 2) := by decide +kernel
theorem dX8_rise_124 : decode cX8_rise 124 = .ok (.lcmp, 1) := by decide +kernel
theorem dX8_rise_125 : decode cX8_rise 125 = .ok (.ifCond .ne 7, 3) := by decide +kernel
theorem dX8_rise_128 : decode cX8_rise 128 = .ok (.lconst 0, 1) := by decide +kernel
theorem dX8_rise_129 : decode cX8_rise 129 = .ok (.goto 4, 3) := by decide +kernel
theorem dX8_rise_132 : decode cX8_rise 132 = .ok (.lconst 1, 1) := by decide +kernel
theorem dX8_rise_133 : decode cX8_rise 133 = .ok (.lreturn, 1) := by decide +kernel
set_option maxRecDepth 20000 in
theorem ggX8_bends_X8_rise : GoodIn wsX8_bends wsX8_rise := goodIn_r _ [8, 9, 10, 11, 12, 13, 14, 15, 16, 17, 18, 19, 20, 21, 22, 23, 24, 25, 26, 27, 28, 29, 30, 31, 32, 33, 34, 35, 36] (by decide +kernel) (by decide +kernel)
set_option maxRecDepth 20000 in
theorem gX8_bends_X8_rise : GoodIn wsX8_bends (wsV RX8 128 RX8 yX8_rise wsX8_rise) := goodIn_app (goodIn_of _ (by decide +kernel)) ggX8_bends_X8_rise
theorem dX8_bends_0 : decode cX8_bends 0 = .ok (.aload_n 0, 1) := by decide +kernel
theorem dX8_bends_1 : decode cX8_bends 1 = .ok (.iconst 0, 1) := by decide +kernel
theorem dX8_bends_2 : decode cX8_bends 2 = .ok (.putfield 125, 3) := by decide +kernel
theorem dX8_bends_5 : decode cX8_bends 5 = .ok (.iconst 0, 1) := by decide +kernel
theorem dX8_bends_6 : decode cX8_bends 6 = .ok (.istore_n 2, 1) := by decide +kernel
theorem dX8_bends_7 : decode cX8_bends 7 = .ok (.aload_n 0, 1) := by decide +kernel
theorem dX8_bends_8 : decode cX8_bends 8 = .ok (.getfield 72, 3) := by decide +kernel
theorem dX8_bends_11 : decode cX8_bends 11 = .ok (.ifCond .le 15, 3) := by decide +kernel
theorem dX8_bends_14 : decode cX8_bends 14 = .ok (.aload_n 0, 1) := by decide +kernel
theorem dX8_bends_15 : decode cX8_bends 15 = .ok (.getfield 44, 3) := by decide +kernel
theorem dX8_bends_18 : decode cX8_bends 18 = .ok (.iconst 0, 1) := by decide +kernel
theorem dX8_bends_19 : decode cX8_bends 19 = .ok (.iconst 0, 1) := by decide +kernel
theorem dX8_bends_20 : decode cX8_bends 20 = .ok (.iastore, 1) := by decide +kernel
theorem dX8_bends_21 : decode cX8_bends 21 = .ok (.aload_n 0, 1) := by decide +kernel
theorem dX8_bends_22 : decode cX8_bends 22 = .ok (.iconst 1, 1) := by decide +kernel
theorem dX8_bends_23 : decode cX8_bends 23 = .ok (.putfield 125, 3) := by decide +kernel
theorem dX8_bends_26 : decode cX8_bends 26 = .ok (.iload_n 2, 1) := by decide +kernel
theorem dX8_bends_27 : decode cX8_bends 27 = .ok (.aload_n 0, 1) := by decide +kernel
theorem dX8_bends_28 : decode cX8_bends 28 = .ok (.getfield 72, 3) := by decide +kernel
theorem dX8_bends_31 : decode cX8_bends 31 = .ok (.iconst 1, 1) := by decide +kernel
theorem dX8_bends_32 : decode cX8_bends 32 = .ok (.isub, 1) := by decide +kernel
theorem dX8_bends_33 : decode cX8_bends 33 = .ok (.if_icmp .ge 75, 3) := by decide +kernel
theorem dX8_bends_36 : decode cX8_bends 36 = .ok (.iload_n 2, 1) := by decide +kernel
theorem dX8_bends_37 : decode cX8_bends 37 = .ok (.iconst 1, 1) := by decide +kernel
theorem dX8_bends_38 : decode cX8_bends 38 = .ok (.iadd, 1) := by decide +kernel
theorem dX8_bends_39 : decode cX8_bends 39 = .ok (.istore_n 3, 1) := by decide +kernel
theorem dX8_bends_40 : decode cX8_bends 40 = .ok (.iload_n 2, 1) := by decide +kernel
theorem dX8_bends_41 : decode cX8_bends 41 = .ok (.iconst 2, 1) := by decide +kernel
theorem dX8_bends_42 : decode cX8_bends 42 = .ok (.iadd, 1) := by decide +kernel
theorem dX8_bends_43 : decode cX8_bends 43 = .ok (.istore 4, 2) := by decide +kernel
theorem dX8_bends_45 : decode cX8_bends 45 = .ok (.iload 4, 2) := by decide +kernel
theorem dX8_bends_47 : decode cX8_bends 47 = .ok (.aload_n 0, 1) := by decide +kernel
theorem dX8_bends_48 : decode cX8_bends 48 = .ok (.getfield 72, 3) := by decide +kernel
theorem dX8_bends_51 : decode cX8_bends 51 = .ok (.if_icmp .ge 32, 3) := by decide +kernel
theorem dX8_bends_54 : decode cX8_bends 54 = .ok (.iload_n 1, 1) := by decide +kernel
theorem dX8_bends_55 : decode cX8_bends 55 = .ok (.i2l, 1) := by decide +kernel
theorem dX8_bends_56 : decode cX8_bends 56 = .ok (.aload_n 0, 1) := by decide +kernel
theorem dX8_bends_57 : decode cX8_bends 57 = .ok (.iload_n 2, 1) := by decide +kernel
theorem dX8_bends_58 : decode cX8_bends 58 = .ok (.iload 4, 2) := by decide +kernel
theorem dX8_bends_60 : decode cX8_bends 60 = .ok (.iload_n 3, 1) := by decide +kernel
theorem dX8_bends_61 : decode cX8_bends 61 = .ok (.invokevirtual 128, 3) := by decide +kernel
theorem dX8_bends_64 : decode cX8_bends 64 = .ok (.lmul, 1) := by decide +kernel
theorem dX8_bends_65 : decode cX8_bends 65 = .ok (.lconst 0, 1) := by decide +kernel
theorem dX8_bends_66 : decode cX8_bends 66 = .ok (.lcmp, 1) := by decide +kernel
theorem dX8_bends_67 : decode cX8_bends 67 = .ok (.ifCond .gt 8, 3) := by decide +kernel
theorem dX8_bends_70 : decode cX8_bends 70 = .ok (.iload 4, 2) := by decide +kernel
theorem dX8_bends_72 : decode cX8_bends 72 = .ok (.goto 4, 3) := by decide +kernel
theorem dX8_bends_75 : decode cX8_bends 75 = .ok (.iload_n 3, 1) := by decide +kernel
theorem dX8_bends_76 : decode cX8_bends 76 = .ok (.istore_n 3, 1) := by decide +kernel
theorem dX8_bends_77 : decode cX8_bends 77 = .ok (.iinc 4 1, 3) := by decide +kernel
theorem dX8_bends_80 : decode cX8_bends 80 = .ok (.goto (-35), 3) := by decide +kernel
theorem dX8_bends_83 : decode cX8_bends 83 = .ok (.iload_n 3, 1) := by decide +kernel
theorem dX8_bends_84 : decode cX8_bends 84 = .ok (.istore_n 2, 1) := by decide +kernel
theorem dX8_bends_85 : decode cX8_bends 85 = .ok (.aload_n 0, 1) := by decide +kernel
theorem dX8_bends_86 : decode cX8_bends 86 = .ok (.getfield 44, 3) := by decide +kernel
theorem dX8_bends_89 : decode cX8_bends 89 = .ok (.aload_n 0, 1) := by decide +kernel
theorem dX8_bends_90 : decode cX8_bends 90 = .ok (.getfield 125, 3) := by decide +kernel
theorem dX8_bends_93 : decode cX8_bends 93 = .ok (.iload_n 2, 1) := by decide +kernel
theorem dX8_bends_94 : decode cX8_bends 94 = .ok (.iastore, 1) := by decide +kernel
theorem dX8_bends_95 : decode cX8_bends 95 = .ok (.aload_n 0, 1) := by decide +kernel
theorem dX8_bends_96 : decode cX8_bends 96 = .ok (.dup, 1) := by decide +kernel
theorem dX8_bends_97 : decode cX8_bends 97 = .ok (.getfield 125, 3) := by decide +kernel
theorem dX8_bends_100 : decode cX8_bends 100 = .ok (.iconst 1, 1) := by decide +kernel
theorem dX8_bends_101 : decode cX8_bends 101 = .ok (.iadd, 1) := by decide +kernel
theorem dX8_bends_102 : decode cX8_bends 102 = .ok (.putfield 125, 3) := by decide +kernel
theorem dX8_bends_105 : decode cX8_bends 105 = .ok (.goto (-79), 3) := by decide +kernel
theorem dX8_bends_108 : decode cX8_bends 108 = .ok (.return_, 1) := by decide +kernel
set_option maxRecDepth 20000 in
theorem ggX8_bent_X8_lowers : GoodIn wsX8_bent wsX8_lowers := goodIn_r _ [10, 11, 12, 13, 14, 9, 15, 16, 17, 18, 19, 20, 21, 22, 23, 24, 25, 26, 27, 28, 29, 30, 31, 32, 33, 34, 35, 36, 37, 38, 39] (by decide +kernel) (by decide +kernel)
set_option maxRecDepth 20000 in
theorem gX8_bent_X8_lowers : GoodIn wsX8_bent (wsV RX8 132 RX8 yX8_lowers wsX8_lowers) := goodIn_app (goodIn_of _ (by decide +kernel)) ggX8_bent_X8_lowers
theorem dX8_bent_0 : decode cX8_bent 0 = .ok (.iconst 0, 1) := by decide +kernel
theorem dX8_bent_1 : decode cX8_bent 1 = .ok (.istore_n 2, 1) := by decide +kernel
theorem dX8_bent_2 : decode cX8_bent 2 = .ok (.iload_n 2, 1) := by decide +kernel
theorem dX8_bent_3 : decode cX8_bent 3 = .ok (.iconst 1, 1) := by decide +kernel
theorem dX8_bent_4 : decode cX8_bent 4 = .ok (.iadd, 1) := by decide +kernel
theorem dX8_bent_5 : decode cX8_bent 5 = .ok (.aload_n 0, 1) := by decide +kernel
theorem dX8_bent_6 : decode cX8_bent 6 = .ok (.getfield 125, 3) := by decide +kernel
theorem dX8_bent_9 : decode cX8_bent 9 = .ok (.if_icmp .ge 21, 3) := by decide +kernel
theorem dX8_bent_12 : decode cX8_bent 12 = .ok (.aload_n 0, 1) := by decide +kernel
theorem dX8_bent_13 : decode cX8_bent 13 = .ok (.getfield 44, 3) := by decide +kernel
theorem dX8_bent_16 : decode cX8_bent 16 = .ok (.iload_n 2, 1) := by decide +kernel
theorem dX8_bent_17 : decode cX8_bent 17 = .ok (.iconst 1, 1) := by decide +kernel
theorem dX8_bent_18 : decode cX8_bent 18 = .ok (.iadd, 1) := by decide +kernel
theorem dX8_bent_19 : decode cX8_bent 19 = .ok (.iaload, 1) := by decide +kernel
theorem dX8_bent_20 : decode cX8_bent 20 = .ok (.iload_n 1, 1) := by decide +kernel
theorem dX8_bent_21 : decode cX8_bent 21 = .ok (.if_icmp .gt 9, 3) := by decide +kernel
theorem dX8_bent_24 : decode cX8_bent 24 = .ok (.iinc 2 1, 3) := by decide +kernel
theorem dX8_bent_27 : decode cX8_bent 27 = .ok (.goto (-25), 3) := by decide +kernel
theorem dX8_bent_30 : decode cX8_bent 30 = .ok (.aload_n 0, 1) := by decide +kernel
theorem dX8_bent_31 : decode cX8_bent 31 = .ok (.getfield 44, 3) := by decide +kernel
theorem dX8_bent_34 : decode cX8_bent 34 = .ok (.iload_n 2, 1) := by decide +kernel
theorem dX8_bent_35 : decode cX8_bent 35 = .ok (.iaload, 1) := by decide +kernel
theorem dX8_bent_36 : decode cX8_bent 36 = .ok (.istore_n 3, 1) := by decide +kernel
theorem dX8_bent_37 : decode cX8_bent 37 = .ok (.iload_n 3, 1) := by decide +kernel
theorem dX8_bent_38 : decode cX8_bent 38 = .ok (.iload_n 1, 1) := by decide +kernel
theorem dX8_bent_39 : decode cX8_bent 39 = .ok (.if_icmp .ne 24, 3) := by decide +kernel
theorem dX8_bent_42 : decode cX8_bent 42 = .ok (.aload_n 0, 1) := by decide +kernel
theorem dX8_bent_43 : decode cX8_bent 43 = .ok (.aload_n 0, 1) := by decide +kernel
theorem dX8_bent_44 : decode cX8_bent 44 = .ok (.getfield 32, 3) := by decide +kernel
theorem dX8_bent_47 : decode cX8_bent 47 = .ok (.iload_n 1, 1) := by decide +kernel
theorem dX8_bent_48 : decode cX8_bent 48 = .ok (.iaload, 1) := by decide +kernel
theorem dX8_bent_49 : decode cX8_bent 49 = .ok (.i2l, 1) := by decide +kernel
theorem dX8_bent_50 : decode cX8_bent 50 = .ok (.aload_n 0, 1) := by decide +kernel
theorem dX8_bent_51 : decode cX8_bent 51 = .ok (.getfield 29, 3) := by decide +kernel
theorem dX8_bent_54 : decode cX8_bent 54 = .ok (.iload_n 1, 1) := by decide +kernel
theorem dX8_bent_55 : decode cX8_bent 55 = .ok (.iaload, 1) := by decide +kernel
theorem dX8_bent_56 : decode cX8_bent 56 = .ok (.i2l, 1) := by decide +kernel
theorem dX8_bent_57 : decode cX8_bent 57 = .ok (.invokevirtual 132, 3) := by decide +kernel
theorem dX8_bent_60 : decode cX8_bent 60 = .ok (.goto 124, 3) := by decide +kernel
theorem dX8_bent_63 : decode cX8_bent 63 = .ok (.aload_n 0, 1) := by decide +kernel
theorem dX8_bent_64 : decode cX8_bent 64 = .ok (.getfield 44, 3) := by decide +kernel
theorem dX8_bent_67 : decode cX8_bent 67 = .ok (.iload_n 2, 1) := by decide +kernel
theorem dX8_bent_68 : decode cX8_bent 68 = .ok (.iconst 1, 1) := by decide +kernel
theorem dX8_bent_69 : decode cX8_bent 69 = .ok (.iadd, 1) := by decide +kernel
theorem dX8_bent_70 : decode cX8_bent 70 = .ok (.iaload, 1) := by decide +kernel
theorem dX8_bent_71 : decode cX8_bent 71 = .ok (.istore 4, 2) := by decide +kernel
theorem dX8_bent_73 : decode cX8_bent 73 = .ok (.aload_n 0, 1) := by decide +kernel
theorem dX8_bent_74 : decode cX8_bent 74 = .ok (.getfield 26, 3) := by decide +kernel
theorem dX8_bent_77 : decode cX8_bent 77 = .ok (.iload 4, 2) := by decide +kernel
theorem dX8_bent_79 : decode cX8_bent 79 = .ok (.iaload, 1) := by decide +kernel
theorem dX8_bent_80 : decode cX8_bent 80 = .ok (.aload_n 0, 1) := by decide +kernel
theorem dX8_bent_81 : decode cX8_bent 81 = .ok (.getfield 26, 3) := by decide +kernel
theorem dX8_bent_84 : decode cX8_bent 84 = .ok (.iload_n 3, 1) := by decide +kernel
theorem dX8_bent_85 : decode cX8_bent 85 = .ok (.iaload, 1) := by decide +kernel
theorem dX8_bent_86 : decode cX8_bent 86 = .ok (.isub, 1) := by decide +kernel
theorem dX8_bent_87 : decode cX8_bent 87 = .ok (.i2l, 1) := by decide +kernel
theorem dX8_bent_88 : decode cX8_bent 88 = .ok (.lstore 5, 2) := by decide +kernel
theorem dX8_bent_90 : decode cX8_bent 90 = .ok (.aload_n 0, 1) := by decide +kernel
theorem dX8_bent_91 : decode cX8_bent 91 = .ok (.getfield 32, 3) := by decide +kernel
theorem dX8_bent_94 : decode cX8_bent 94 = .ok (.iload 4, 2) := by decide +kernel
theorem dX8_bent_96 : decode cX8_bent 96 = .ok (.iaload, 1) := by decide +kernel
theorem dX8_bent_97 : decode cX8_bent 97 = .ok (.i2l, 1) := by decide +kernel
theorem dX8_bent_98 : decode cX8_bent 98 = .ok (.aload_n 0, 1) := by decide +kernel
theorem dX8_bent_99 : decode cX8_bent 99 = .ok (.getfield 29, 3) := by decide +kernel
theorem dX8_bent_102 : decode cX8_bent 102 = .ok (.iload_n 3, 1) := by decide +kernel
theorem dX8_bent_103 : decode cX8_bent 103 = .ok (.iaload, 1) := by decide +kernel
theorem dX8_bent_104 : decode cX8_bent 104 = .ok (.i2l, 1) := by decide +kernel
theorem dX8_bent_105 : decode cX8_bent 105 = .ok (.lmul, 1) := by decide +kernel
theorem dX8_bent_106 : decode cX8_bent 106 = .ok (.aload_n 0, 1) := by decide +kernel
theorem dX8_bent_107 : decode cX8_bent 107 = .ok (.getfield 32, 3) := by decide +kernel
theorem dX8_bent_110 : decode cX8_bent 110 = .ok (.iload_n 3, 1) := by decide +kernel
theorem dX8_bent_111 : decode cX8_bent 111 = .ok (.iaload, 1) := by decide +kernel
theorem dX8_bent_112 : decode cX8_bent 112 = .ok (.i2l, 1) := by decide +kernel
theorem dX8_bent_113 : decode cX8_bent 113 = .ok (.aload_n 0, 1) := by decide +kernel
theorem dX8_bent_114 : decode cX8_bent 114 = .ok (.getfield 29, 3) := by decide +kernel
theorem dX8_bent_117 : decode cX8_bent 117 = .ok (.iload 4, 2) := by decide +kernel
theorem dX8_bent_119 : decode cX8_bent 119 = .ok (.iaload, 1) := by decide +kernel
theorem dX8_bent_120 : decode cX8_bent 120 = .ok (.i2l, 1) := by decide +kernel
theorem dX8_bent_121 : decode cX8_bent 121 = .ok (.lmul, 1) := by decide +kernel
theorem dX8_bent_122 : decode cX8_bent 122 = .ok (.lsub, 1) := by decide +kernel
theorem dX8_bent_123 : decode cX8_bent 123 = .ok (.lstore 7, 2) := by decide +kernel
theorem dX8_bent_125 : decode cX8_bent 125 = .ok (.aload_n 0, 1) := by decide +kernel
theorem dX8_bent_126 : decode cX8_bent 126 = .ok (.aload_n 0, 1) := by decide +kernel
theorem dX8_bent_127 : decode cX8_bent 127 = .ok (.getfield 32, 3) := by decide +kernel
theorem dX8_bent_130 : decode cX8_bent 130 = .ok (.iload_n 3, 1) := by decide +kernel
theorem dX8_bent_131 : decode cX8_bent 131 = .ok (.iaload, 1) := by decide +kernel
theorem dX8_bent_132 : decode cX8_bent 132 = .ok (.i2l, 1) := by decide +kernel
theorem dX8_bent_133 : decode cX8_bent 133 = .ok (.aload_n 0, 1) := by decide +kernel
theorem dX8_bent_134 : decode cX8_bent 134 = .ok (.getfield 29, 3) := by decide +kernel
theorem dX8_bent_137 : decode cX8_bent 137 = .ok (.iload 4, 2) := by decide +kernel
theorem dX8_bent_139 : decode cX8_bent 139 = .ok (.iaload, 1) := by decide +kernel
theorem dX8_bent_140 : decode cX8_bent 140 = .ok (.i2l, 1) := by decide +kernel
theorem dX8_bent_141 : decode cX8_bent 141 = .ok (.lmul, 1) := by decide +kernel
theorem dX8_bent_142 : decode cX8_bent 142 = .ok (.lload 5, 2) := by decide +kernel
theorem dX8_bent_144 : decode cX8_bent 144 = .ok (.lmul, 1) := by decide +kernel
theorem dX8_bent_145 : decode cX8_bent 145 = .ok (.aload_n 0, 1) := by decide +kernel
theorem dX8_bent_146 : decode cX8_bent 146 = .ok (.getfield 26, 3) := by decide +kernel
theorem dX8_bent_149 : decode cX8_bent 149 = .ok (.iload_n 1, 1) := by decide +kernel
theorem dX8_bent_150 : decode cX8_bent 150 = .ok (.iaload, 1) := by decide +kernel
theorem dX8_bent_151 : decode cX8_bent 151 = .ok (.aload_n 0, 1) := by decide +kernel
theorem dX8_bent_152 : decode cX8_bent 152 = .ok (.getfield 26, 3) := by decide +kernel
theorem dX8_bent_155 : decode cX8_bent 155 = .ok (.iload_n 3, 1) := by decide +kernel
theorem dX8_bent_156 : decode cX8_bent 156 = .ok (.iaload, 1) := by decide +kernel
theorem dX8_bent_157 : decode cX8_bent 157 = .ok (.isub, 1) := by decide +kernel
theorem dX8_bent_158 : decode cX8_bent 158 = .ok (.i2l, 1) := by decide +kernel
theorem dX8_bent_159 : decode cX8_bent 159 = .ok (.lload 7, 2) := by decide +kernel
theorem dX8_bent_161 : decode cX8_bent 161 = .ok (.lmul, 1) := by decide +kernel
theorem dX8_bent_162 : decode cX8_bent 162 = .ok (.ladd, 1) := by decide +kernel
theorem dX8_bent_163 : decode cX8_bent 163 = .ok (.aload_n 0, 1) := by decide +kernel
theorem dX8_bent_164 : decode cX8_bent 164 = .ok (.getfield 29, 3) := by decide +kernel
theorem dX8_bent_167 : decode cX8_bent 167 = .ok (.iload_n 3, 1) := by decide +kernel
theorem dX8_bent_168 : decode cX8_bent 168 = .ok (.iaload, 1) := by decide +kernel
theorem dX8_bent_169 : decode cX8_bent 169 = .ok (.aload_n 0, 1) := by decide +kernel
theorem dX8_bent_170 : decode cX8_bent 170 = .ok (.getfield 29, 3) := by decide +kernel
theorem dX8_bent_173 : decode cX8_bent 173 = .ok (.iload 4, 2) := by decide +kernel
theorem dX8_bent_175 : decode cX8_bent 175 = .ok (.iaload, 1) := by decide +kernel
theorem dX8_bent_176 : decode cX8_bent 176 = .ok (.imul, 1) := by decide +kernel
theorem dX8_bent_177 : decode cX8_bent 177 = .ok (.i2l, 1) := by decide +kernel
theorem dX8_bent_178 : decode cX8_bent 178 = .ok (.lload 5, 2) := by decide +kernel
theorem dX8_bent_180 : decode cX8_bent 180 = .ok (.lmul, 1) := by decide +kernel
theorem dX8_bent_181 : decode cX8_bent 181 = .ok (.invokevirtual 132, 3) := by decide +kernel
theorem dX8_bent_184 : decode cX8_bent 184 = .ok (.return_, 1) := by decide +kernel
set_option maxRecDepth 20000 in
theorem ggX8_fit_X8_in : GoodIn wsX8_fit wsX8_in := goodIn_r _ [7] (by decide +kernel) (by decide +kernel)
set_option maxRecDepth 20000 in
theorem gX8_fit_X8_in : GoodIn wsX8_fit (va_wsS RX8 54 yX8_in wsX8_in) := goodIn_app (goodIn_of _ (by decide +kernel)) ggX8_fit_X8_in
set_option maxRecDepth 20000 in
theorem ggX8_fit_X8_isGroup : GoodIn wsX8_fit wsX8_isGroup := goodIn_r _ [11, 12, 13, 14, 15, 6, 16, 17, 18, 19, 20, 4, 5, 7, 83, 84, 85, 86, 87, 88, 89, 90, 91, 92, 93, 94, 95, 96, 97, 98, 99, 100, 101, 102, 103, 104, 105, 106] (by decide +kernel) (by decide +kernel)
set_option maxRecDepth 20000 in
theorem gX8_fit_X8_isGroup : GoodIn wsX8_fit (wsV RX8 82 RX8 yX8_isGroup wsX8_isGroup) := goodIn_app (goodIn_of _ (by decide +kernel)) ggX8_fit_X8_isGroup
set_option maxRecDepth 20000 in
theorem ggX8_fit_X8_bends : GoodIn wsX8_fit wsX8_bends := goodIn_r _ [24, 25, 12, 26, 27, 28, 29, 6, 30, 20, 19, 18, 31, 83, 84, 85, 86, 87, 88, 89, 90, 91, 92, 93, 94, 95, 96, 97, 98, 99, 100, 101, 102, 103, 104, 105, 106] (by decide +kernel) (by decide +kernel)
set_option maxRecDepth 20000 in
theorem gX8_fit_X8_bends : GoodIn wsX8_fit (wsV RX8 138 RX8 yX8_bends wsX8_bends) := goodIn_app (goodIn_of _ (by decide +kernel)) ggX8_fit_X8_bends
set_option maxRecDepth 20000 in
theorem ggX8_fit_X8_bent : GoodIn wsX8_fit wsX8_bent := goodIn_r _ [35, 25, 26, 20, 19, 18, 36, 37, 38, 6, 39, 40, 41, 42, 43, 44, 83, 84, 85, 86, 87, 88, 89, 90, 91, 92, 93, 94, 95, 96, 97, 98, 99, 100, 101, 102, 103, 104, 105, 106] (by decide +kernel) (by decide +kernel)
set_option maxRecDepth 20000 in
theorem gX8_fit_X8_bent : GoodIn wsX8_fit (wsV RX8 142 RX8 yX8_bent wsX8_bent) := goodIn_app (goodIn_of _ (by decide +kernel)) ggX8_fit_X8_bent
set_option maxRecDepth 20000 in
theorem ggX8_fit_X8_fits : GoodIn wsX8_fit wsX8_fits := goodIn_r _ [48, 49, 12, 50, 51, 52, 6, 53, 54, 55, 56, 57, 20, 19, 2, 3, 58, 59, 60, 61, 62, 63, 64, 65, 66, 67, 68, 69, 70, 71, 72, 73, 17, 74, 83, 84, 85, 86, 87, 88, 89, 90, 91, 92, 93, 94, 95, 96, 97, 98, 99, 100, 101, 102, 103, 104, 105, 106] (by decide +kernel) (by decide +kernel)
set_option maxRecDepth 20000 in
theorem gX8_fit_X8_fits : GoodIn wsX8_fit (wsV RX8 145 RX8 yX8_fits wsX8_fits) := goodIn_app (goodIn_of _ (by decide +kernel)) ggX8_fit_X8_fits
set_option maxRecDepth 20000 in
theorem ggX8_fit_X8_blockOf : GoodIn wsX8_fit wsX8_blockOf := goodIn_r _ [78, 58, 83, 84, 85, 86, 87, 88, 89, 90, 91, 92, 93, 94, 95, 96, 97, 98, 99, 100, 101, 102, 103, 104, 105, 106] (by decide +kernel) (by decide +kernel)
set_option maxRecDepth 20000 in
theorem gX8_fit_X8_blockOf : GoodIn wsX8_fit (wsV RX8 148 RX8 yX8_blockOf wsX8_blockOf) := goodIn_app (goodIn_of _ (by decide +kernel)) ggX8_fit_X8_blockOf
set_option maxRecDepth 20000 in
theorem ggX8_fit_X8_lowers : GoodIn wsX8_fit wsX8_lowers := goodIn_r _ [39, 40, 41, 42, 43, 6, 44, 83, 84, 85, 86, 87, 88, 89, 90, 91, 92, 93, 94, 95, 96, 97, 98, 99, 100, 101, 102, 103, 104, 105, 106] (by decide +kernel) (by decide +kernel)
set_option maxRecDepth 20000 in
theorem gX8_fit_X8_lowers : GoodIn wsX8_fit (wsV RX8 132 RX8 yX8_lowers wsX8_lowers) := goodIn_app (goodIn_of _ (by decide +kernel)) ggX8_fit_X8_lowers
set_option maxRecDepth 20000 in
theorem ggX8_fit_X8_tells : GoodIn wsX8_fit wsX8_tells := goodIn_r _ [82, 40, 41, 83, 84, 85, 86, 87, 88, 89, 90, 91, 92, 93, 94, 95, 96, 97, 98, 99, 100, 101, 102, 103, 104, 105, 106] (by decide +kernel) (by decide +kernel)
set_option maxRecDepth 20000 in
theorem gX8_fit_X8_tells : GoodIn wsX8_fit (wsV RX8 151 RX8 yX8_tells wsX8_tells) := goodIn_app (goodIn_of _ (by decide +kernel)) ggX8_fit_X8_tells
theorem dX8_fit_0 : decode cX8_fit 0 = .ok (.iload_n 1, 1) := by decide +kernel
theorem dX8_fit_1 : decode cX8_fit 1 = .ok (.iconst 0, 1) := by decide +kernel
theorem dX8_fit_2 : decode cX8_fit 2 = .ok (.iconst 5, 1) := by decide +kernel
theorem dX8_fit_3 : decode cX8_fit 3 = .ok (.invokestatic 54, 3) := by decide +kernel
theorem dX8_fit_6 : decode cX8_fit 6 = .ok (.ifCond .eq 20, 3) := by decide +kernel
theorem dX8_fit_9 : decode cX8_fit 9 = .ok (.aload_n 0, 1) := by decide +kernel
theorem dX8_fit_10 : decode cX8_fit 10 = .ok (.iload_n 2, 1) := by decide +kernel
theorem dX8_fit_11 : decode cX8_fit 11 = .ok (.invokevirtual 82, 3) := by decide +kernel
theorem dX8_fit_14 : decode cX8_fit 14 = .ok (.ifCond .eq 12, 3) := by decide +kernel
theorem dX8_fit_17 : decode cX8_fit 17 = .ok (.iload_n 3, 1) := by decide +kernel
theorem dX8_fit_18 : decode cX8_fit 18 = .ok (.iconst 0, 1) := by decide +kernel
theorem dX8_fit_19 : decode cX8_fit 19 = .ok (.iconst 1, 1) := by decide +kernel
theorem dX8_fit_20 : decode cX8_fit 20 = .ok (.invokestatic 54, 3) := by decide +kernel
theorem dX8_fit_23 : decode cX8_fit 23 = .ok (.ifCond .ne 7, 3) := by decide +kernel
theorem dX8_fit_26 : decode cX8_fit 26 = .ok (.ldc2_w 136, 3) := by decide +kernel
theorem dX8_fit_29 : decode cX8_fit 29 = .ok (.lreturn, 1) := by decide +kernel
theorem dX8_fit_30 : decode cX8_fit 30 = .ok (.iload_n 1, 1) := by decide +kernel
theorem dX8_fit_31 : decode cX8_fit 31 = .ok (.iconst 3, 1) := by decide +kernel
theorem dX8_fit_32 : decode cX8_fit 32 = .ok (.if_icmp .le 25, 3) := by decide +kernel
theorem dX8_fit_35 : decode cX8_fit 35 = .ok (.aload_n 0, 1) := by decide +kernel
theorem dX8_fit_36 : decode cX8_fit 36 = .ok (.iload_n 1, 1) := by decide +kernel
theorem dX8_fit_37 : decode cX8_fit 37 = .ok (.iconst 4, 1) := by decide +kernel
theorem dX8_fit_38 : decode cX8_fit 38 = .ok (.if_icmp .ne 7, 3) := by decide +kernel
theorem dX8_fit_41 : decode cX8_fit 41 = .ok (.iconst 1, 1) := by decide +kernel
theorem dX8_fit_42 : decode cX8_fit 42 = .ok (.goto 4, 3) := by decide +kernel
theorem dX8_fit_45 : decode cX8_fit 45 = .ok (.iconst (-1), 1) := by decide +kernel
theorem dX8_fit_46 : decode cX8_fit 46 = .ok (.invokevirtual 138, 3) := by decide +kernel
theorem dX8_fit_49 : decode cX8_fit 49 = .ok (.aload_n 0, 1) := by decide +kernel
theorem dX8_fit_50 : decode cX8_fit 50 = .ok (.iload_n 2, 1) := by decide +kernel
theorem dX8_fit_51 : decode cX8_fit 51 = .ok (.invokevirtual 142, 3) := by decide +kernel
theorem dX8_fit_54 : decode cX8_fit 54 = .ok (.goto 36, 3) := by decide +kernel
theorem dX8_fit_57 : decode cX8_fit 57 = .ok (.aload_n 0, 1) := by decide +kernel
theorem dX8_fit_58 : decode cX8_fit 58 = .ok (.iload_n 1, 1) := by decide +kernel
theorem dX8_fit_59 : decode cX8_fit 59 = .ok (.invokevirtual 145, 3) := by decide +kernel
theorem dX8_fit_62 : decode cX8_fit 62 = .ok (.pop, 1) := by decide +kernel
theorem dX8_fit_63 : decode cX8_fit 63 = .ok (.aload_n 0, 1) := by decide +kernel
theorem dX8_fit_64 : decode cX8_fit 64 = .ok (.iload_n 2, 1) := by decide +kernel
theorem dX8_fit_65 : decode cX8_fit 65 = .ok (.invokevirtual 148, 3) := by decide +kernel
theorem dX8_fit_68 : decode cX8_fit 68 = .ok (.istore 4, 2) := by decide +kernel
theorem dX8_fit_70 : decode cX8_fit 70 = .ok (.aload_n 0, 1) := by decide +kernel
theorem dX8_fit_71 : decode cX8_fit 71 = .ok (.aload_n 0, 1) := by decide +kernel
theorem dX8_fit_72 : decode cX8_fit 72 = .ok (.getfield 41, 3) := by decide +kernel
theorem dX8_fit_75 : decode cX8_fit 75 = .ok (.iload 4, 2) := by decide +kernel
theorem dX8_fit_77 : decode cX8_fit 77 = .ok (.iaload, 1) := by decide +kernel
theorem dX8_fit_78 : decode cX8_fit 78 = .ok (.i2l, 1) := by decide +kernel
theorem dX8_fit_79 : decode cX8_fit 79 = .ok (.aload_n 0, 1) := by decide +kernel
theorem dX8_fit_80 : decode cX8_fit 80 = .ok (.getfield 38, 3) := by decide +kernel
theorem dX8_fit_83 : decode cX8_fit 83 = .ok (.iload 4, 2) := by decide +kernel
theorem dX8_fit_85 : decode cX8_fit 85 = .ok (.iaload, 1) := by decide +kernel
theorem dX8_fit_86 : decode cX8_fit 86 = .ok (.i2l, 1) := by decide +kernel
theorem dX8_fit_87 : decode cX8_fit 87 = .ok (.invokevirtual 132, 3) := by decide +kernel
theorem dX8_fit_90 : decode cX8_fit 90 = .ok (.aload_n 0, 1) := by decide +kernel
theorem dX8_fit_91 : decode cX8_fit 91 = .ok (.iload_n 3, 1) := by decide +kernel
theorem dX8_fit_92 : decode cX8_fit 92 = .ok (.invokevirtual 151, 3) := by decide +kernel
theorem dX8_fit_95 : decode cX8_fit 95 = .ok (.lreturn, 1) := by decide +kernel
set_option maxRecDepth 20000 in
theorem ggX8_error_X8_in : GoodIn wsX8_error wsX8_in := goodIn_r _ [8] (by decide +kernel) (by decide +kernel)
set_option maxRecDepth 20000 in
theorem gX8_error_X8_in : GoodIn wsX8_error (va_wsS RX8 54 yX8_in wsX8_in) := goodIn_app (goodIn_of _ (by decide +kernel)) ggX8_error_X8_in
set_option maxRecDepth 20000 in
theorem ggX8_error_X8_finds : GoodIn wsX8_error wsX8_finds := goodIn_r _ [12, 13, 2, 14, 15, 16, 61, 62, 63, 64, 65, 66, 67, 68, 69, 70, 71, 72, 73, 74, 75, 76, 77, 78, 79, 80, 81, 82, 83, 84] (by decide +kernel) (by decide +kernel)
set_option maxRecDepth 20000 in
theorem gX8_error_X8_finds : GoodIn wsX8_error (wsV RX8 75 RX8 yX8_finds wsX8_finds) := goodIn_app (goodIn_of _ (by decide +kernel)) ggX8_error_X8_finds
set_option maxRecDepth 20000 in
theorem ggX8_error_X8_fits : GoodIn wsX8_error wsX8_fits := goodIn_r _ [20, 21, 13, 22, 23, 24, 7, 25, 26, 27, 28, 29, 16, 15, 30, 31, 32, 33, 34, 35, 36, 37, 38, 39, 40, 41, 42, 43, 44, 45, 46, 47, 2, 4, 61, 62, 63, 64, 65, 66, 67, 68, 69, 70, 71, 72, 73, 74, 75, 76, 77, 78, 79, 80, 81, 82, 83, 84] (by decide +kernel) (by decide +kernel)
set_option maxRecDepth 20000 in
theorem gX8_error_X8_fits : GoodIn wsX8_error (wsV RX8 145 RX8 yX8_fits wsX8_fits) := goodIn_app (goodIn_of _ (by decide +kernel)) ggX8_error_X8_fits
set_option maxRecDepth 20000 in
theorem ggX8_error_X8_errorOf : GoodIn wsX8_error wsX8_errorOf := goodIn_r _ [47, 2, 4, 21, 31, 30, 61, 62, 63, 64, 65, 66, 67, 68, 69, 70, 71, 72, 73, 74, 75, 76, 77, 78, 79, 80, 81, 82, 83, 84] (by decide +kernel) (by decide +kernel)
set_option maxRecDepth 20000 in
theorem gX8_error_X8_errorOf : GoodIn wsX8_error (wsV RX8 119 RX8 yX8_errorOf wsX8_errorOf) := goodIn_app (goodIn_of _ (by decide +kernel)) ggX8_error_X8_errorOf
set_option maxRecDepth 20000 in
theorem ggX8_error_X8_lowers : GoodIn wsX8_error wsX8_lowers := goodIn_r _ [51, 52, 53, 54, 55, 7, 56, 61, 62, 63, 64, 65, 66, 67, 68, 69, 70, 71, 72, 73, 74, 75, 76, 77, 78, 79, 80, 81, 82, 83, 84] (by decide +kernel) (by decide +kernel)
set_option maxRecDepth 20000 in
theorem gX8_error_X8_lowers : GoodIn wsX8_error (wsV RX8 132 RX8 yX8_lowers wsX8_lowers) := goodIn_app (goodIn_of _ (by decide +kernel)) ggX8_error_X8_lowers
set_option maxRecDepth 20000 in
theorem ggX8_error_X8_tells : GoodIn wsX8_error wsX8_tells := goodIn_r _ [60, 52, 53, 61, 62, 63, 64, 65, 66, 67, 68, 69, 70, 71, 72, 73, 74, 75, 76, 77, 78, 79, 80, 81, 82, 83, 84] (by decide +kernel) (by decide +kernel)
set_option maxRecDepth 20000 in
theorem gX8_error_X8_tells : GoodIn wsX8_error (wsV RX8 151 RX8 yX8_tells wsX8_tells) := goodIn_app (goodIn_of _ (by decide +kernel)) ggX8_error_X8_tells
theorem dX8_error_0 : decode cX8_error 0 = .ok (.iload_n 1, 1) := by decide +kernel
theorem dX8_error_1 : decode cX8_error 1 = .ok (.iconst 0, 1) := by decide +kernel
theorem dX8_error_2 : decode cX8_error 2 = .ok (.iconst 3, 1) := by decide +kernel
theorem dX8_error_3 : decode cX8_error 3 = .ok (.invokestatic 54, 3) := by decide +kernel
theorem dX8_error_6 : decode cX8_error 6 = .ok (.ifCond .eq 12, 3) := by decide +kernel
theorem dX8_error_9 : decode cX8_error 9 = .ok (.iload_n 2, 1) := by decide +kernel
theorem dX8_error_10 : decode cX8_error 10 = .ok (.iconst 0, 1) := by decide +kernel
theorem dX8_error_11 : decode cX8_error 11 = .ok (.iconst 1, 1) := by decide +kernel
theorem dX8_error_12 : decode cX8_error 12 = .ok (.invokestatic 54, 3) := by decide +kernel
theorem dX8_error_15 : decode cX8_error 15 = .ok (.ifCond .ne 7, 3) := by decide +kernel
theorem dX8_error_18 : decode cX8_error 18 = .ok (.ldc2_w 136, 3) := by decide +kernel
theorem dX8_error_21 : decode cX8_error 21 = .ok (.lreturn, 1) := by decide +kernel
theorem dX8_error_22 : decode cX8_error 22 = .ok (.aload_n 0, 1) := by decide +kernel
theorem dX8_error_23 : decode cX8_error 23 = .ok (.getfield 7, 3) := by decide +kernel
theorem dX8_error_26 : decode cX8_error 26 = .ok (.iconst 0, 1) := by decide +kernel
theorem dX8_error_27 : decode cX8_error 27 = .ok (.iaload, 1) := by decide +kernel
theorem dX8_error_28 : decode cX8_error 28 = .ok (.ifCond .ne 7, 3) := by decide +kernel
theorem dX8_error_31 : decode cX8_error 31 = .ok (.ldc2_w 155, 3) := by decide +kernel
theorem dX8_error_34 : decode cX8_error 34 = .ok (.lreturn, 1) := by decide +kernel
theorem dX8_error_35 : decode cX8_error 35 = .ok (.aload_n 0, 1) := by decide +kernel
theorem dX8_error_36 : decode cX8_error 36 = .ok (.invokevirtual 75, 3) := by decide +kernel
theorem dX8_error_39 : decode cX8_error 39 = .ok (.aload_n 0, 1) := by decide +kernel
theorem dX8_error_40 : decode cX8_error 40 = .ok (.iload_n 1, 1) := by decide +kernel
theorem dX8_error_41 : decode cX8_error 41 = .ok (.invokevirtual 145, 3) := by decide +kernel
theorem dX8_error_44 : decode cX8_error 44 = .ok (.pop, 1) := by decide +kernel
theorem dX8_error_45 : decode cX8_error 45 = .ok (.aload_n 0, 1) := by decide +kernel
theorem dX8_error_46 : decode cX8_error 46 = .ok (.aload_n 0, 1) := by decide +kernel
theorem dX8_error_47 : decode cX8_error 47 = .ok (.invokevirtual 119, 3) := by decide +kernel
theorem dX8_error_50 : decode cX8_error 50 = .ok (.ldc2_w 113, 3) := by decide +kernel
theorem dX8_error_53 : decode cX8_error 53 = .ok (.invokevirtual 132, 3) := by decide +kernel
theorem dX8_error_56 : decode cX8_error 56 = .ok (.aload_n 0, 1) := by decide +kernel
theorem dX8_error_57 : decode cX8_error 57 = .ok (.iload_n 2, 1) := by decide +kernel
theorem dX8_error_58 : decode cX8_error 58 = .ok (.invokevirtual 151, 3) := by decide +kernel
theorem dX8_error_61 : decode cX8_error 61 = .ok (.lreturn, 1) := by decide +kernel
set_option maxRecDepth 20000 in
theorem ggX8_turn_X8_in : GoodIn wsX8_turn wsX8_in := goodIn_r _ [7] (by decide +kernel) (by decide +kernel)
set_option maxRecDepth 20000 in
theorem gX8_turn_X8_in : GoodIn wsX8_turn (va_wsS RX8 54 yX8_in wsX8_in) := goodIn_app (goodIn_of _ (by decide +kernel)) ggX8_turn_X8_in
set_option maxRecDepth 20000 in
theorem ggX8_turn_X8_finds : GoodIn wsX8_turn wsX8_finds := goodIn_r _ [11, 12, 2, 13, 14, 15, 48, 49, 50, 51, 52, 53, 54, 55, 56, 57, 58, 59, 60, 61, 62, 63, 64, 65, 66, 67, 68, 69, 70, 71] (by decide +kernel) (by decide +kernel)
set_option maxRecDepth 20000 in
theorem gX8_turn_X8_finds : GoodIn wsX8_turn (wsV RX8 75 RX8 yX8_finds wsX8_finds) := goodIn_app (goodIn_of _ (by decide +kernel)) ggX8_turn_X8_finds
set_option maxRecDepth 20000 in
theorem ggX8_turn_X8_fits : GoodIn wsX8_turn wsX8_fits := goodIn_r _ [19, 20, 12, 21, 22, 23, 6, 24, 25, 26, 27, 28, 15, 14, 29, 30, 31, 32, 33, 34, 35, 36, 37, 38, 39, 40, 41, 42, 43, 44, 45, 46, 2, 47, 48, 49, 50, 51, 52, 53, 54, 55, 56, 57, 58, 59, 60, 61, 62, 63, 64, 65, 66, 67, 68, 69, 70, 71] (by decide +kernel) (by decide +kernel)
set_option maxRecDepth 20000 in
theorem gX8_turn_X8_fits : GoodIn wsX8_turn (wsV RX8 145 RX8 yX8_fits wsX8_fits) := goodIn_app (goodIn_of _ (by decide +kernel)) ggX8_turn_X8_fits
theorem dX8_turn_0 : decode cX8_turn 0 = .ok (.iload_n 1, 1) := by decide +kernel
theorem dX8_turn_1 : decode cX8_turn 1 = .ok (.iconst 2, 1) := by decide +kernel
theorem dX8_turn_2 : decode cX8_turn 2 = .ok (.iconst 3, 1) := by decide +kernel
theorem dX8_turn_3 : decode cX8_turn 3 = .ok (.invokestatic 54, 3) := by decide +kernel
theorem dX8_turn_6 : decode cX8_turn 6 = .ok (.ifCond .ne 6, 3) := by decide +kernel
theorem dX8_turn_9 : decode cX8_turn 9 = .ok (.ldc 62, 2) := by decide +kernel
theorem dX8_turn_11 : decode cX8_turn 11 = .ok (.ireturn, 1) := by decide +kernel
theorem dX8_turn_12 : decode cX8_turn 12 = .ok (.aload_n 0, 1) := by decide +kernel
theorem dX8_turn_13 : decode cX8_turn 13 = .ok (.getfield 7, 3) := by decide +kernel
theorem dX8_turn_16 : decode cX8_turn 16 = .ok (.iconst 0, 1) := by decide +kernel
theorem dX8_turn_17 : decode cX8_turn 17 = .ok (.iaload, 1) := by decide +kernel
theorem dX8_turn_18 : decode cX8_turn 18 = .ok (.ifCond .ne 6, 3) := by decide +kernel
theorem dX8_turn_21 : decode cX8_turn 21 = .ok (.ldc 71, 2) := by decide +kernel
theorem dX8_turn_23 : decode cX8_turn 23 = .ok (.ireturn, 1) := by decide +kernel
theorem dX8_turn_24 : decode cX8_turn 24 = .ok (.aload_n 0, 1) := by decide +kernel
theorem dX8_turn_25 : decode cX8_turn 25 = .ok (.invokevirtual 75, 3) := by decide +kernel
theorem dX8_turn_28 : decode cX8_turn 28 = .ok (.aload_n 0, 1) := by decide +kernel
theorem dX8_turn_29 : decode cX8_turn 29 = .ok (.iload_n 1, 1) := by decide +kernel
theorem dX8_turn_30 : decode cX8_turn 30 = .ok (.invokevirtual 145, 3) := by decide +kernel
theorem dX8_turn_33 : decode cX8_turn 33 = .ok (.ireturn, 1) := by decide +kernel
set_option maxRecDepth 20000 in
theorem ggX8_turnError_X8_in : GoodIn wsX8_turnError wsX8_in := goodIn_r _ [6] (by decide +kernel) (by decide +kernel)
set_option maxRecDepth 20000 in
theorem gX8_turnError_X8_in : GoodIn wsX8_turnError (va_wsS RX8 54 yX8_in wsX8_in) := goodIn_app (goodIn_of _ (by decide +kernel)) ggX8_turnError_X8_in
set_option maxRecDepth 20000 in
theorem ggX8_turnError_X8_isGroup : GoodIn wsX8_turnError wsX8_isGroup := goodIn_r _ [10, 11, 12, 13, 14, 5, 15, 16, 17, 18, 19, 3, 4, 6, 60, 61, 62, 63, 64, 65, 66, 67, 68, 69, 70, 71, 72, 73, 74, 75, 76, 77, 78, 79, 80, 81, 82, 83] (by decide +kernel) (by decide +kernel)
set_option maxRecDepth 20000 in
theorem gX8_turnError_X8_isGroup : GoodIn wsX8_turnError (wsV RX8 82 RX8 yX8_isGroup wsX8_isGroup) := goodIn_app (goodIn_of _ (by decide +kernel)) ggX8_turnError_X8_isGroup
set_option maxRecDepth 20000 in
theorem ggX8_turnError_X8_turns : GoodIn wsX8_turnError wsX8_turns := goodIn_r _ [23, 19, 18, 11, 24, 25, 26, 27, 28, 29, 5, 30, 31, 32, 33, 34, 35, 36, 37, 38, 39, 40, 41, 42, 60, 61, 62, 63, 64, 65, 66, 67, 68, 69, 70, 71, 72, 73, 74, 75, 76, 77, 78, 79, 80, 81, 82, 83] (by decide +kernel) (by decide +kernel)
set_option maxRecDepth 20000 in
theorem gX8_turnError_X8_turns : GoodIn wsX8_turnError (wsV RX8 115 RX8 yX8_turns wsX8_turns) := goodIn_app (goodIn_of _ (by decide +kernel)) ggX8_turnError_X8_turns
set_option maxRecDepth 20000 in
theorem ggX8_turnError_X8_errorOf : GoodIn wsX8_turnError wsX8_errorOf := goodIn_r _ [46, 16, 2, 24, 27, 26, 60, 61, 62, 63, 64, 65, 66, 67, 68, 69, 70, 71, 72, 73, 74, 75, 76, 77, 78, 79, 80, 81, 82, 83] (by decide +kernel) (by decide +kernel)
set_option maxRecDepth 20000 in
theorem gX8_turnError_X8_errorOf : GoodIn wsX8_turnError (wsV RX8 119 RX8 yX8_errorOf wsX8_errorOf) := goodIn_app (goodIn_of _ (by decide +kernel)) ggX8_turnError_X8_errorOf
set_option maxRecDepth 20000 in
theorem ggX8_turnError_X8_lowers : GoodIn wsX8_turnError wsX8_lowers := goodIn_r _ [50, 51, 52, 53, 54, 5, 55, 60, 61, 62, 63, 64, 65, 66, 67, 68, 69, 70, 71, 72, 73, 74, 75, 76, 77, 78, 79, 80, 81, 82, 83] (by decide +kernel) (by decide +kernel)
set_option maxRecDepth 20000 in
theorem gX8_turnError_X8_lowers : GoodIn wsX8_turnError (wsV RX8 132 RX8 yX8_lowers wsX8_lowers) := goodIn_app (goodIn_of _ (by decide +kernel)) ggX8_turnError_X8_lowers
set_option maxRecDepth 20000 in
theorem ggX8_turnError_X8_tells : GoodIn wsX8_turnError wsX8_tells := goodIn_r _ [59, 51, 52, 60, 61, 62, 63, 64, 65, 66, 67, 68, 69, 70, 71, 72, 73, 74, 75, 76, 77, 78, 79, 80, 81, 82, 83] (by decide +kernel) (by decide +kernel)
set_option maxRecDepth 20000 in
theorem gX8_turnError_X8_tells : GoodIn wsX8_turnError (wsV RX8 151 RX8 yX8_tells wsX8_tells) := goodIn_app (goodIn_of _ (by decide +kernel)) ggX8_turnError_X8_tells
theorem dX8_turnError_0 : decode cX8_turnError 0 = .ok (.iload_n 1, 1) := by decide +kernel
theorem dX8_turnError_1 : decode cX8_turnError 1 = .ok (.iconst 2, 1) := by decide +kernel
theorem dX8_turnError_2 : decode cX8_turnError 2 = .ok (.iconst 3, 1) := by decide +kernel
theorem dX8_turnError_3 : decode cX8_turnError 3 = .ok (.invokestatic 54, 3) := by decide +kernel
theorem dX8_turnError_6 : decode cX8_turnError 6 = .ok (.ifCond .eq 20, 3) := by decide +kernel
theorem dX8_turnError_9 : decode cX8_turnError 9 = .ok (.aload_n 0, 1) := by decide +kernel
theorem dX8_turnError_10 : decode cX8_turnError 10 = .ok (.iload_n 2, 1) := by decide +kernel
theorem dX8_turnError_11 : decode cX8_turnError 11 = .ok (.invokevirtual 82, 3) := by decide +kernel
theorem dX8_turnError_14 : decode cX8_turnError 14 = .ok (.ifCond .eq 12, 3) := by decide +kernel
theorem dX8_turnError_17 : decode cX8_turnError 17 = .ok (.iload_n 3, 1) := by decide +kernel
theorem dX8_turnError_18 : decode cX8_turnError 18 = .ok (.iconst 0, 1) := by decide +kernel
theorem dX8_turnError_19 : decode cX8_turnError 19 = .ok (.iconst 1, 1) := by decide +kernel
theorem dX8_turnError_20 : decode cX8_turnError 20 = .ok (.invokestatic 54, 3) := by decide +kernel
theorem dX8_turnError_23 : decode cX8_turnError 23 = .ok (.ifCond .ne 7, 3) := by decide +kernel
theorem dX8_turnError_26 : decode cX8_turnError 26 = .ok (.ldc2_w 136, 3) := by decide +kernel
theorem dX8_turnError_29 : decode cX8_turnError 29 = .ok (.lreturn, 1) := by decide +kernel
theorem dX8_turnError_30 : decode cX8_turnError 30 = .ok (.aload_n 0, 1) := by decide +kernel
theorem dX8_turnError_31 : decode cX8_turnError 31 = .ok (.iload_n 2, 1) := by decide +kernel
theorem dX8_turnError_32 : decode cX8_turnError 32 = .ok (.iload_n 1, 1) := by decide +kernel
theorem dX8_turnError_33 : decode cX8_turnError 33 = .ok (.iconst 2, 1) := by decide +kernel
theorem dX8_turnError_34 : decode cX8_turnError 34 = .ok (.if_icmp .ne 7, 3) := by decide +kernel
theorem dX8_turnError_37 : decode cX8_turnError 37 = .ok (.iconst 1, 1) := by decide +kernel
theorem dX8_turnError_38 : decode cX8_turnError 38 = .ok (.goto 4, 3) := by decide +kernel
theorem dX8_turnError_41 : decode cX8_turnError 41 = .ok (.iconst (-1), 1) := by decide +kernel
theorem dX8_turnError_42 : decode cX8_turnError 42 = .ok (.invokevirtual 115, 3) := by decide +kernel
theorem dX8_turnError_45 : decode cX8_turnError 45 = .ok (.aload_n 0, 1) := by decide +kernel
theorem dX8_turnError_46 : decode cX8_turnError 46 = .ok (.aload_n 0, 1) := by decide +kernel
theorem dX8_turnError_47 : decode cX8_turnError 47 = .ok (.invokevirtual 119, 3) := by decide +kernel
theorem dX8_turnError_50 : decode cX8_turnError 50 = .ok (.ldc2_w 113, 3) := by decide +kernel
theorem dX8_turnError_53 : decode cX8_turnError 53 = .ok (.invokevirtual 132, 3) := by decide +kernel
theorem dX8_turnError_56 : decode cX8_turnError 56 = .ok (.aload_n 0, 1) := by decide +kernel
theorem dX8_turnError_57 : decode cX8_turnError 57 = .ok (.iload_n 3, 1) := by decide +kernel
theorem dX8_turnError_58 : decode cX8_turnError 58 = .ok (.invokevirtual 151, 3) := by decide +kernel
theorem dX8_turnError_61 : decode cX8_turnError 61 = .ok (.lreturn, 1) := by decide +kernel
set_option maxRecDepth 20000 in
theorem ggX8_blocks_X8_in : GoodIn wsX8_blocks wsX8_in := goodIn_r _ [7] (by decide +kernel) (by decide +kernel)
set_option maxRecDepth 20000 in
theorem gX8_blocks_X8_in : GoodIn wsX8_blocks (va_wsS RX8 54 yX8_in wsX8_in) := goodIn_app (goodIn_of _ (by decide +kernel)) ggX8_blocks_X8_in
set_option maxRecDepth 20000 in
theorem ggX8_blocks_X8_finds : GoodIn wsX8_blocks wsX8_finds := goodIn_r _ [11, 3, 12, 13, 14, 15, 47, 48, 49, 50, 51, 52, 53, 54, 55, 56, 57, 58, 59, 60, 61, 62, 63, 64, 65, 66, 67, 68, 69, 70] (by decide +kernel) (by decide +kernel)
set_option maxRecDepth 20000 in
theorem gX8_blocks_X8_finds : GoodIn wsX8_blocks (wsV RX8 75 RX8 yX8_finds wsX8_finds) := goodIn_app (goodIn_of _ (by decide +kernel)) ggX8_blocks_X8_finds
set_option maxRecDepth 20000 in
theorem ggX8_blocks_X8_fits : GoodIn wsX8_blocks wsX8_fits := goodIn_r _ [19, 2, 3, 20, 21, 22, 6, 23, 24, 25, 26, 27, 15, 14, 28, 29, 30, 31, 32, 33, 34, 35, 36, 37, 38, 39, 40, 41, 42, 43, 44, 45, 12, 46, 47, 48, 49, 50, 51, 52, 53, 54, 55, 56, 57, 58, 59, 60, 61, 62, 63, 64, 65, 66, 67, 68, 69, 70] (by decide +kernel) (by decide +kernel)
set_option maxRecDepth 20000 in
theorem gX8_blocks_X8_fits : GoodIn wsX8_blocks (wsV RX8 145 RX8 yX8_fits wsX8_fits) := goodIn_app (goodIn_of _ (by decide +kernel)) ggX8_blocks_X8_fits
theorem dX8_blocks_0 : decode cX8_blocks 0 = .ok (.iload_n 1, 1) := by decide +kernel
theorem dX8_blocks_1 : decode cX8_blocks 1 = .ok (.iconst 0, 1) := by decide +kernel
theorem dX8_blocks_2 : decode cX8_blocks 2 = .ok (.iconst 3, 1) := by decide +kernel
theorem dX8_blocks_3 : decode cX8_blocks 3 = .ok (.invokestatic 54, 3) := by decide +kernel
theorem dX8_blocks_6 : decode cX8_blocks 6 = .ok (.ifCond .ne 6, 3) := by decide +kernel
theorem dX8_blocks_9 : decode cX8_blocks 9 = .ok (.ldc 62, 2) := by decide +kernel
theorem dX8_blocks_11 : decode cX8_blocks 11 = .ok (.ireturn, 1) := by decide +kernel
theorem dX8_blocks_12 : decode cX8_blocks 12 = .ok (.aload_n 0, 1) := by decide +kernel
theorem dX8_blocks_13 : decode cX8_blocks 13 = .ok (.invokevirtual 75, 3) := by decide +kernel
theorem dX8_blocks_16 : decode cX8_blocks 16 = .ok (.aload_n 0, 1) := by decide +kernel
theorem dX8_blocks_17 : decode cX8_blocks 17 = .ok (.iconst 0, 1) := by decide +kernel
theorem dX8_blocks_18 : decode cX8_blocks 18 = .ok (.putfield 96, 3) := by decide +kernel
theorem dX8_blocks_21 : decode cX8_blocks 21 = .ok (.aload_n 0, 1) := by decide +kernel
theorem dX8_blocks_22 : decode cX8_blocks 22 = .ok (.iload_n 1, 1) := by decide +kernel
theorem dX8_blocks_23 : decode cX8_blocks 23 = .ok (.invokevirtual 145, 3) := by decide +kernel
theorem dX8_blocks_26 : decode cX8_blocks 26 = .ok (.pop, 1) := by decide +kernel
theorem dX8_blocks_27 : decode cX8_blocks 27 = .ok (.aload_n 0, 1) := by decide +kernel
theorem dX8_blocks_28 : decode cX8_blocks 28 = .ok (.getfield 72, 3) := by decide +kernel
theorem dX8_blocks_31 : decode cX8_blocks 31 = .ok (.ifCond .ne 7, 3) := by decide +kernel
theorem dX8_blocks_34 : decode cX8_blocks 34 = .ok (.iconst 0, 1) := by decide +kernel
theorem dX8_blocks_35 : decode cX8_blocks 35 = .ok (.goto 7, 3) := by decide +kernel
theorem dX8_blocks_38 : decode cX8_blocks 38 = .ok (.aload_n 0, 1) := by decide +kernel
theorem dX8_blocks_39 : decode cX8_blocks 39 = .ok (.getfield 96, 3) := by decide +kernel
theorem dX8_blocks_42 : decode cX8_blocks 42 = .ok (.ireturn, 1) := by decide +kernel
set_option maxRecDepth 20000 in
theorem ggX8_blockInfo_X8_in : GoodIn wsX8_blockInfo wsX8_in := goodIn_r _ [9] (by decide +kernel) (by decide +kernel)
set_option maxRecDepth 20000 in
theorem gX8_blockInfo_X8_in : GoodIn wsX8_blockInfo (va_wsS RX8 54 yX8_in wsX8_in) := goodIn_app (goodIn_of _ (by decide +kernel)) ggX8_blockInfo_X8_in
set_option maxRecDepth 20000 in
theorem ggX8_blockInfo_X8_blocks : GoodIn wsX8_blockInfo wsX8_blocks := goodIn_r _ [13, 1, 14, 15, 6, 7, 8, 9, 16, 17, 18, 19, 20, 21, 22, 23, 24, 25, 26, 27, 28, 29, 30, 31, 32, 33, 34, 35, 5, 4, 3, 36, 37, 38, 39, 40, 41, 42, 43, 44, 45, 46, 47, 48, 49, 50, 51, 52, 53, 54, 55, 56, 57, 58, 59, 60, 61, 62, 63, 64, 65, 66, 67, 68, 69, 70, 71, 72, 73, 74, 75] (by decide +kernel) (by decide +kernel)
set_option maxRecDepth 20000 in
theorem gX8_blockInfo_X8_blocks : GoodIn wsX8_blockInfo (wsV RX8 157 RX8 yX8_blocks wsX8_blocks) := goodIn_app (goodIn_of _ (by decide +kernel)) ggX8_blockInfo_X8_blocks
theorem dX8_blockInfo_0 : decode cX8_blockInfo 0 = .ok (.iload_n 1, 1) := by decide +kernel
theorem dX8_blockInfo_1 : decode cX8_blockInfo 1 = .ok (.iconst 0, 1) := by decide +kernel
theorem dX8_blockInfo_2 : decode cX8_blockInfo 2 = .ok (.iconst 3, 1) := by decide +kernel
theorem dX8_blockInfo_3 : decode cX8_blockInfo 3 = .ok (.invokestatic 54, 3) := by decide +kernel
theorem dX8_blockInfo_6 : decode cX8_blockInfo 6 = .ok (.ifCond .eq 16, 3) := by decide +kernel
theorem dX8_blockInfo_9 : decode cX8_blockInfo 9 = .ok (.iload_n 2, 1) := by decide +kernel
theorem dX8_blockInfo_10 : decode cX8_blockInfo 10 = .ok (.ifCond .lt 12, 3) := by decide +kernel
theorem dX8_blockInfo_13 : decode cX8_blockInfo 13 = .ok (.iload_n 3, 1) := by decide +kernel
theorem dX8_blockInfo_14 : decode cX8_blockInfo 14 = .ok (.iconst 0, 1) := by decide +kernel
theorem dX8_blockInfo_15 : decode cX8_blockInfo 15 = .ok (.iconst 3, 1) := by decide +kernel
theorem dX8_blockInfo_16 : decode cX8_blockInfo 16 = .ok (.invokestatic 54, 3) := by decide +kernel
theorem dX8_blockInfo_19 : decode cX8_blockInfo 19 = .ok (.ifCond .ne 6, 3) := by decide +kernel
theorem dX8_blockInfo_22 : decode cX8_blockInfo 22 = .ok (.ldc 62, 2) := by decide +kernel
theorem dX8_blockInfo_24 : decode cX8_blockInfo 24 = .ok (.ireturn, 1) := by decide +kernel
theorem dX8_blockInfo_25 : decode cX8_blockInfo 25 = .ok (.iload_n 2, 1) := by decide +kernel
theorem dX8_blockInfo_26 : decode cX8_blockInfo 26 = .ok (.aload_n 0, 1) := by decide +kernel
theorem dX8_blockInfo_27 : decode cX8_blockInfo 27 = .ok (.iload_n 1, 1) := by decide +kernel
theorem dX8_blockInfo_28 : decode cX8_blockInfo 28 = .ok (.invokevirtual 157, 3) := by decide +kernel
theorem dX8_blockInfo_31 : decode cX8_blockInfo 31 = .ok (.if_icmp .lt 6, 3) := by decide +kernel
theorem dX8_blockInfo_34 : decode cX8_blockInfo 34 = .ok (.ldc 159, 2) := by decide +kernel
theorem dX8_blockInfo_36 : decode cX8_blockInfo 36 = .ok (.ireturn, 1) := by decide +kernel
theorem dX8_blockInfo_37 : decode cX8_blockInfo 37 = .ok (.iload_n 3, 1) := by decide +kernel
theorem dX8_blockInfo_38 : decode cX8_blockInfo 38 = .ok (.ifCond .ne 12, 3) := by decide +kernel
theorem dX8_blockInfo_41 : decode cX8_blockInfo 41 = .ok (.aload_n 0, 1) := by decide +kernel
theorem dX8_blockInfo_42 : decode cX8_blockInfo 42 = .ok (.getfield 35, 3) := by decide +kernel
theorem dX8_blockInfo_45 : decode cX8_blockInfo 45 = .ok (.iload_n 2, 1) := by decide +kernel
theorem dX8_blockInfo_46 : decode cX8_blockInfo 46 = .ok (.iaload, 1) := by decide +kernel
theorem dX8_blockInfo_47 : decode cX8_blockInfo 47 = .ok (.goto 41, 3) := by decide +kernel
theorem dX8_blockInfo_50 : decode cX8_blockInfo 50 = .ok (.iload_n 3, 1) := by decide +kernel
theorem dX8_blockInfo_51 : decode cX8_blockInfo 51 = .ok (.iconst 1, 1) := by decide +kernel
theorem dX8_blockInfo_52 : decode cX8_blockInfo 52 = .ok (.if_icmp .ne 16, 3) := by decide +kernel
theorem dX8_blockInfo_55 : decode cX8_blockInfo 55 = .ok (.aload_n 0, 1) := by decide +kernel
theorem dX8_blockInfo_56 : decode cX8_blockInfo 56 = .ok (.getfield 35, 3) := by decide +kernel
theorem dX8_blockInfo_59 : decode cX8_blockInfo 59 = .ok (.iload_n 2, 1) := by decide +kernel
theorem dX8_blockInfo_60 : decode cX8_blockInfo 60 = .ok (.iconst 1, 1) := by decide +kernel
theorem dX8_blockInfo_61 : decode cX8_blockInfo 61 = .ok (.iadd, 1) := by decide +kernel
theorem dX8_blockInfo_62 : decode cX8_blockInfo 62 = .ok (.iaload, 1) := by decide +kernel
theorem dX8_blockInfo_63 : decode cX8_blockInfo 63 = .ok (.iconst 1, 1) := by decide +kernel
theorem dX8_blockInfo_64 : decode cX8_blockInfo 64 = .ok (.isub, 1) := by decide +kernel
theorem dX8_blockInfo_65 : decode cX8_blockInfo 65 = .ok (.goto 23, 3) := by decide +kernel
theorem dX8_blockInfo_68 : decode cX8_blockInfo 68 = .ok (.iload_n 3, 1) := by decide +kernel
theorem dX8_blockInfo_69 : decode cX8_blockInfo 69 = .ok (.iconst 2, 1) := by decide +kernel
theorem dX8_blockInfo_70 : decode cX8_blockInfo 70 = .ok (.if_icmp .ne 12, 3) := by decide +kernel
theorem dX8_blockInfo_73 : decode cX8_blockInfo 73 = .ok (.aload_n 0, 1) := by decide +kernel
theorem dX8_blockInfo_74 : decode cX8_blockInfo 74 = .ok (.getfield 38, 3) := by decide +kernel
theorem dX8_blockInfo_77 : decode cX8_blockInfo 77 = .ok (.iload_n 2, 1) := by decide +kernel
theorem dX8_blockInfo_78 : decode cX8_blockInfo 78 = .ok (.iaload, 1) := by decide +kernel
theorem dX8_blockInfo_79 : decode cX8_blockInfo 79 = .ok (.goto 9, 3) := by decide +kernel
theorem dX8_blockInfo_82 : decode cX8_blockInfo 82 = .ok (.aload_n 0, 1) := by decide +kernel
theorem dX8_blockInfo_83 : decode cX8_blockInfo 83 = .ok (.getfield 41, 3) := by decide +kernel
theorem dX8_blockInfo_86 : decode cX8_blockInfo 86 = .ok (.iload_n 2, 1) := by decide +kernel
theorem dX8_blockInfo_87 : decode cX8_blockInfo 87 = .ok (.iaload, 1) := by decide +kernel
theorem dX8_blockInfo_88 : decode cX8_blockInfo 88 = .ok (.ireturn, 1) := by decide +kernel
set_option maxRecDepth 20000 in
theorem ggX8_kinks_X8_in : GoodIn wsX8_kinks wsX8_in := goodIn_r _ [6] (by decide +kernel) (by decide +kernel)
set_option maxRecDepth 20000 in
theorem gX8_kinks_X8_in : GoodIn wsX8_kinks (va_wsS RX8 54 yX8_in wsX8_in) := goodIn_app (goodIn_of _ (by decide +kernel)) ggX8_kinks_X8_in
set_option maxRecDepth 20000 in
theorem ggX8_kinks_X8_finds : GoodIn wsX8_kinks wsX8_finds := goodIn_r _ [10, 11, 12, 13, 14, 15, 26, 27, 28, 29, 30, 31, 32, 33, 34, 35, 36, 37, 38, 39, 40, 41, 42, 43, 44, 45, 46, 47, 48, 49] (by decide +kernel) (by decide +kernel)
set_option maxRecDepth 20000 in
theorem gX8_kinks_X8_finds : GoodIn wsX8_kinks (wsV RX8 75 RX8 yX8_finds wsX8_finds) := goodIn_app (goodIn_of _ (by decide +kernel)) ggX8_kinks_X8_finds
set_option maxRecDepth 20000 in
theorem ggX8_kinks_X8_bends : GoodIn wsX8_kinks wsX8_bends := goodIn_r _ [19, 2, 11, 20, 21, 22, 23, 5, 24, 15, 14, 13, 25, 26, 27, 28, 29, 30, 31, 32, 33, 34, 35, 36, 37, 38, 39, 40, 41, 42, 43, 44, 45, 46, 47, 48, 49] (by decide +kernel) (by decide +kernel)
set_option maxRecDepth 20000 in
theorem gX8_kinks_X8_bends : GoodIn wsX8_kinks (wsV RX8 138 RX8 yX8_bends wsX8_bends) := goodIn_app (goodIn_of _ (by decide +kernel)) ggX8_kinks_X8_bends
theorem dX8_kinks_0 : decode cX8_kinks 0 = .ok (.iload_n 1, 1) := by decide +kernel
theorem dX8_kinks_1 : decode cX8_kinks 1 = .ok (.iconst 4, 1) := by decide +kernel
theorem dX8_kinks_2 : decode cX8_kinks 2 = .ok (.iconst 5, 1) := by decide +kernel
theorem dX8_kinks_3 : decode cX8_kinks 3 = .ok (.invokestatic 54, 3) := by decide +kernel
theorem dX8_kinks_6 : decode cX8_kinks 6 = .ok (.ifCond .ne 6, 3) := by decide +kernel
theorem dX8_kinks_9 : decode cX8_kinks 9 = .ok (.ldc 62, 2) := by decide +kernel
theorem dX8_kinks_11 : decode cX8_kinks 11 = .ok (.ireturn, 1) := by decide +kernel
theorem dX8_kinks_12 : decode cX8_kinks 12 = .ok (.aload_n 0, 1) := by decide +kernel
theorem dX8_kinks_13 : decode cX8_kinks 13 = .ok (.invokevirtual 75, 3) := by decide +kernel
theorem dX8_kinks_16 : decode cX8_kinks 16 = .ok (.aload_n 0, 1) := by decide +kernel
theorem dX8_kinks_17 : decode cX8_kinks 17 = .ok (.iload_n 1, 1) := by decide +kernel
theorem dX8_kinks_18 : decode cX8_kinks 18 = .ok (.iconst 4, 1) := by decide +kernel
theorem dX8_kinks_19 : decode cX8_kinks 19 = .ok (.if_icmp .ne 7, 3) := by decide +kernel
theorem dX8_kinks_22 : decode cX8_kinks 22 = .ok (.iconst 1, 1) := by decide +kernel
theorem dX8_kinks_23 : decode cX8_kinks 23 = .ok (.goto 4, 3) := by decide +kernel
theorem dX8_kinks_26 : decode cX8_kinks 26 = .ok (.iconst (-1), 1) := by decide +kernel
theorem dX8_kinks_27 : decode cX8_kinks 27 = .ok (.invokevirtual 138, 3) := by decide +kernel
theorem dX8_kinks_30 : decode cX8_kinks 30 = .ok (.aload_n 0, 1) := by decide +kernel
theorem dX8_kinks_31 : decode cX8_kinks 31 = .ok (.getfield 125, 3) := by decide +kernel
theorem dX8_kinks_34 : decode cX8_kinks 34 = .ok (.iconst 2, 1) := by decide +kernel
theorem dX8_kinks_35 : decode cX8_kinks 35 = .ok (.if_icmp .ge 7, 3) := by decide +kernel
theorem dX8_kinks_38 : decode cX8_kinks 38 = .ok (.iconst 0, 1) := by decide +kernel
theorem dX8_kinks_39 : decode cX8_kinks 39 = .ok (.goto 9, 3) := by decide +kernel
theorem dX8_kinks_42 : decode cX8_kinks 42 = .ok (.aload_n 0, 1) := by decide +kernel
theorem dX8_kinks_43 : decode cX8_kinks 43 = .ok (.getfield 125, 3) := by decide +kernel
theorem dX8_kinks_46 : decode cX8_kinks 46 = .ok (.iconst 2, 1) := by decide +kernel
theorem dX8_kinks_47 : decode cX8_kinks 47 = .ok (.isub, 1) := by decide +kernel
theorem dX8_kinks_48 : decode cX8_kinks 48 = .ok (.ireturn, 1) := by decide +kernel
set_option maxRecDepth 20000 in
theorem ggX8_kinkAt_X8_in : GoodIn wsX8_kinkAt wsX8_in := goodIn_r _ [7] (by decide +kernel) (by decide +kernel)
set_option maxRecDepth 20000 in
theorem gX8_kinkAt_X8_in : GoodIn wsX8_kinkAt (va_wsS RX8 54 yX8_in wsX8_in) := goodIn_app (goodIn_of _ (by decide +kernel)) ggX8_kinkAt_X8_in
set_option maxRecDepth 20000 in
theorem ggX8_kinkAt_X8_kinks : GoodIn wsX8_kinkAt wsX8_kinks := goodIn_r _ [11, 1, 12, 4, 5, 6, 7, 13, 14, 15, 16, 17, 18, 19, 20, 21, 22, 23, 24, 25, 2, 26, 27, 28, 29, 30, 31, 32, 33, 34, 35, 36, 37, 38, 39, 40, 41, 42, 43, 44, 45, 46, 47, 48, 49, 50, 51, 52, 53, 54] (by decide +kernel) (by decide +kernel)
set_option maxRecDepth 20000 in
theorem gX8_kinkAt_X8_kinks : GoodIn wsX8_kinkAt (wsV RX8 160 RX8 yX8_kinks wsX8_kinks) := goodIn_app (goodIn_of _ (by decide +kernel)) ggX8_kinkAt_X8_kinks
theorem dX8_kinkAt_0 : decode cX8_kinkAt 0 = .ok (.iload_n 1, 1) := by decide +kernel
theorem dX8_kinkAt_1 : decode cX8_kinkAt 1 = .ok (.iconst 4, 1) := by decide +kernel
theorem dX8_kinkAt_2 : decode cX8_kinkAt 2 = .ok (.iconst 5, 1) := by decide +kernel
theorem dX8_kinkAt_3 : decode cX8_kinkAt 3 = .ok (.invokestatic 54, 3) := by decide +kernel
theorem dX8_kinkAt_6 : decode cX8_kinkAt 6 = .ok (.ifCond .eq 7, 3) := by decide +kernel
theorem dX8_kinkAt_9 : decode cX8_kinkAt 9 = .ok (.iload_n 2, 1) := by decide +kernel
theorem dX8_kinkAt_10 : decode cX8_kinkAt 10 = .ok (.ifCond .ge 6, 3) := by decide +kernel
theorem dX8_kinkAt_13 : decode cX8_kinkAt 13 = .ok (.ldc 62, 2) := by decide +kernel
theorem dX8_kinkAt_15 : decode cX8_kinkAt 15 = .ok (.ireturn, 1) := by decide +kernel
theorem dX8_kinkAt_16 : decode cX8_kinkAt 16 = .ok (.iload_n 2, 1) := by decide +kernel
theorem dX8_kinkAt_17 : decode cX8_kinkAt 17 = .ok (.aload_n 0, 1) := by decide +kernel
theorem dX8_kinkAt_18 : decode cX8_kinkAt 18 = .ok (.iload_n 1, 1) := by decide +kernel
theorem dX8_kinkAt_19 : decode cX8_kinkAt 19 = .ok (.invokevirtual 160, 3) := by decide +kernel
theorem dX8_kinkAt_22 : decode cX8_kinkAt 22 = .ok (.if_icmp .ge 14, 3) := by decide +kernel
theorem dX8_kinkAt_25 : decode cX8_kinkAt 25 = .ok (.aload_n 0, 1) := by decide +kernel
theorem dX8_kinkAt_26 : decode cX8_kinkAt 26 = .ok (.getfield 44, 3) := by decide +kernel
theorem dX8_kinkAt_29 : decode cX8_kinkAt 29 = .ok (.iload_n 2, 1) := by decide +kernel
theorem dX8_kinkAt_30 : decode cX8_kinkAt 30 = .ok (.iconst 1, 1) := by decide +kernel
theorem dX8_kinkAt_31 : decode cX8_kinkAt 31 = .ok (.iadd, 1) := by decide +kernel
theorem dX8_kinkAt_32 : decode cX8_kinkAt 32 = .ok (.iaload, 1) := by decide +kernel
theorem dX8_kinkAt_33 : decode cX8_kinkAt 33 = .ok (.goto 5, 3) := by decide +kernel
theorem dX8_kinkAt_36 : decode cX8_kinkAt 36 = .ok (.ldc 159, 2) := by decide +kernel
theorem dX8_kinkAt_38 : decode cX8_kinkAt 38 = .ok (.ireturn, 1) := by decide +kernel
set_option maxRecDepth 20000 in
theorem ggX8_gap_X8_in : GoodIn wsX8_gap wsX8_in := goodIn_r _ [11] (by decide +kernel) (by decide +kernel)
set_option maxRecDepth 20000 in
theorem gX8_gap_X8_in : GoodIn wsX8_gap (va_wsS RX8 54 yX8_in wsX8_in) := goodIn_app (goodIn_of _ (by decide +kernel)) ggX8_gap_X8_in
set_option maxRecDepth 20000 in
theorem ggX8_gap_X8_finds : GoodIn wsX8_gap wsX8_finds := goodIn_r _ [15, 5, 2, 16, 17, 18, 40, 41, 42, 43, 44, 45, 46, 47, 48, 49, 50, 51, 52, 53, 54, 55, 56, 57, 58, 59, 60, 61, 62, 63] (by decide +kernel) (by decide +kernel)
set_option maxRecDepth 20000 in
theorem gX8_gap_X8_finds : GoodIn wsX8_gap (wsV RX8 75 RX8 yX8_finds wsX8_finds) := goodIn_app (goodIn_of _ (by decide +kernel)) ggX8_gap_X8_finds
set_option maxRecDepth 20000 in
theorem ggX8_gap_X8_bends : GoodIn wsX8_gap wsX8_bends := goodIn_r _ [22, 23, 5, 24, 25, 26, 27, 10, 28, 18, 17, 16, 4, 40, 41, 42, 43, 44, 45, 46, 47, 48, 49, 50, 51, 52, 53, 54, 55, 56, 57, 58, 59, 60, 61, 62, 63] (by decide +kernel) (by decide +kernel)
set_option maxRecDepth 20000 in
theorem gX8_gap_X8_bends : GoodIn wsX8_gap (wsV RX8 138 RX8 yX8_bends wsX8_bends) := goodIn_app (goodIn_of _ (by decide +kernel)) ggX8_gap_X8_bends
set_option maxRecDepth 20000 in
theorem ggX8_gap_X8_bent : GoodIn wsX8_gap wsX8_bent := goodIn_r _ [32, 23, 24, 18, 17, 16, 33, 34, 35, 10, 36, 6, 7, 37, 38, 39, 40, 41, 42, 43, 44, 45, 46, 47, 48, 49, 50, 51, 52, 53, 54, 55, 56, 57, 58, 59, 60, 61, 62, 63] (by decide +kernel) (by decide +kernel)
set_option maxRecDepth 20000 in
theorem gX8_gap_X8_bent : GoodIn wsX8_gap (wsV RX8 142 RX8 yX8_bent wsX8_bent) := goodIn_app (goodIn_of _ (by decide +kernel)) ggX8_gap_X8_bent
set_option maxRecDepth 20000 in
theorem ggX8_gap_X8_lowers : GoodIn wsX8_gap wsX8_lowers := goodIn_r _ [36, 6, 7, 37, 38, 10, 39, 40, 41, 42, 43, 44, 45, 46, 47, 48, 49, 50, 51, 52, 53, 54, 55, 56, 57, 58, 59, 60, 61, 62, 63] (by decide +kernel) (by decide +kernel)
set_option maxRecDepth 20000 in
theorem gX8_gap_X8_lowers : GoodIn wsX8_gap (wsV RX8 132 RX8 yX8_lowers wsX8_lowers) := goodIn_app (goodIn_of _ (by decide +kernel)) ggX8_gap_X8_lowers
theorem dX8_gap_0 : decode cX8_gap 0 = .ok (.iload_n 1, 1) := by decide +kernel
theorem dX8_gap_1 : decode cX8_gap 1 = .ok (.iconst 0, 1) := by decide +kernel
theorem dX8_gap_2 : decode cX8_gap 2 = .ok (.iconst 2, 1) := by decide +kernel
theorem dX8_gap_3 : decode cX8_gap 3 = .ok (.invokestatic 54, 3) := by decide +kernel
theorem dX8_gap_6 : decode cX8_gap 6 = .ok (.ifCond .ne 7, 3) := by decide +kernel
theorem dX8_gap_9 : decode cX8_gap 9 = .ok (.ldc2_w 136, 3) := by decide +kernel
theorem dX8_gap_12 : decode cX8_gap 12 = .ok (.lreturn, 1) := by decide +kernel
theorem dX8_gap_13 : decode cX8_gap 13 = .ok (.aload_n 0, 1) := by decide +kernel
theorem dX8_gap_14 : decode cX8_gap 14 = .ok (.getfield 7, 3) := by decide +kernel
theorem dX8_gap_17 : decode cX8_gap 17 = .ok (.iconst 0, 1) := by decide +kernel
theorem dX8_gap_18 : decode cX8_gap 18 = .ok (.iaload, 1) := by decide +kernel
theorem dX8_gap_19 : decode cX8_gap 19 = .ok (.ifCond .ne 7, 3) := by decide +kernel
theorem dX8_gap_22 : decode cX8_gap 22 = .ok (.ldc2_w 155, 3) := by decide +kernel
theorem dX8_gap_25 : decode cX8_gap 25 = .ok (.lreturn, 1) := by decide +kernel
theorem dX8_gap_26 : decode cX8_gap 26 = .ok (.aload_n 0, 1) := by decide +kernel
theorem dX8_gap_27 : decode cX8_gap 27 = .ok (.invokevirtual 75, 3) := by decide +kernel
theorem dX8_gap_30 : decode cX8_gap 30 = .ok (.ldc2_w 123, 3) := by decide +kernel
theorem dX8_gap_33 : decode cX8_gap 33 = .ok (.lstore_n 2, 1) := by decide +kernel
theorem dX8_gap_34 : decode cX8_gap 34 = .ok (.lconst 1, 1) := by decide +kernel
theorem dX8_gap_35 : decode cX8_gap 35 = .ok (.lstore 4, 2) := by decide +kernel
theorem dX8_gap_37 : decode cX8_gap 37 = .ok (.iconst 0, 1) := by decide +kernel
theorem dX8_gap_38 : decode cX8_gap 38 = .ok (.istore 6, 2) := by decide +kernel
theorem dX8_gap_40 : decode cX8_gap 40 = .ok (.iconst 0, 1) := by decide +kernel
theorem dX8_gap_41 : decode cX8_gap 41 = .ok (.istore 7, 2) := by decide +kernel
theorem dX8_gap_43 : decode cX8_gap 43 = .ok (.iload 7, 2) := by decide +kernel
theorem dX8_gap_45 : decode cX8_gap 45 = .ok (.aload_n 0, 1) := by decide +kernel
theorem dX8_gap_46 : decode cX8_gap 46 = .ok (.getfield 72, 3) := by decide +kernel
theorem dX8_gap_49 : decode cX8_gap 49 = .ok (.if_icmp .ge 101, 3) := by decide +kernel
theorem dX8_gap_52 : decode cX8_gap 52 = .ok (.aload_n 0, 1) := by decide +kernel
theorem dX8_gap_53 : decode cX8_gap 53 = .ok (.iconst (-1), 1) := by decide +kernel
theorem dX8_gap_54 : decode cX8_gap 54 = .ok (.invokevirtual 138, 3) := by decide +kernel
theorem dX8_gap_57 : decode cX8_gap 57 = .ok (.aload_n 0, 1) := by decide +kernel
theorem dX8_gap_58 : decode cX8_gap 58 = .ok (.iload 7, 2) := by decide +kernel
theorem dX8_gap_60 : decode cX8_gap 60 = .ok (.invokevirtual 142, 3) := by decide +kernel
theorem dX8_gap_63 : decode cX8_gap 63 = .ok (.aload_n 0, 1) := by decide +kernel
theorem dX8_gap_64 : decode cX8_gap 64 = .ok (.getfield 89, 3) := by decide +kernel
theorem dX8_gap_67 : decode cX8_gap 67 = .ok (.lstore 8, 2) := by decide +kernel
theorem dX8_gap_69 : decode cX8_gap 69 = .ok (.aload_n 0, 1) := by decide +kernel
theorem dX8_gap_70 : decode cX8_gap 70 = .ok (.getfield 93, 3) := by decide +kernel
theorem dX8_gap_73 : decode cX8_gap 73 = .ok (.lstore 10, 2) := by decide +kernel
theorem dX8_gap_75 : decode cX8_gap 75 = .ok (.aload_n 0, 1) := by decide +kernel
theorem dX8_gap_76 : decode cX8_gap 76 = .ok (.iconst 1, 1) := by decide +kernel
theorem dX8_gap_77 : decode cX8_gap 77 = .ok (.invokevirtual 138, 3) := by decide +kernel
theorem dX8_gap_80 : decode cX8_gap 80 = .ok (.aload_n 0, 1) := by decide +kernel
theorem dX8_gap_81 : decode cX8_gap 81 = .ok (.iload 7, 2) := by decide +kernel
theorem dX8_gap_83 : decode cX8_gap 83 = .ok (.invokevirtual 142, 3) := by decide +kernel
theorem dX8_gap_86 : decode cX8_gap 86 = .ok (.aload_n 0, 1) := by decide +kernel
theorem dX8_gap_87 : decode cX8_gap 87 = .ok (.lload 8, 2) := by decide +kernel
theorem dX8_gap_89 : decode cX8_gap 89 = .ok (.aload_n 0, 1) := by decide +kernel
theorem dX8_gap_90 : decode cX8_gap 90 = .ok (.getfield 93, 3) := by decide +kernel
theorem dX8_gap_93 : decode cX8_gap 93 = .ok (.lmul, 1) := by decide +kernel
theorem dX8_gap_94 : decode cX8_gap 94 = .ok (.aload_n 0, 1) := by decide +kernel
theorem dX8_gap_95 : decode cX8_gap 95 = .ok (.getfield 89, 3) := by decide +kernel
theorem dX8_gap_98 : decode cX8_gap 98 = .ok (.lload 10, 2) := by decide +kernel
theorem dX8_gap_100 : decode cX8_gap 100 = .ok (.lmul, 1) := by decide +kernel
theorem dX8_gap_101 : decode cX8_gap 101 = .ok (.lsub, 1) := by decide +kernel
theorem dX8_gap_102 : decode cX8_gap 102 = .ok (.lload 10, 2) := by decide +kernel
theorem dX8_gap_104 : decode cX8_gap 104 = .ok (.aload_n 0, 1) := by decide +kernel
theorem dX8_gap_105 : decode cX8_gap 105 = .ok (.getfield 93, 3) := by decide +kernel
theorem dX8_gap_108 : decode cX8_gap 108 = .ok (.lmul, 1) := by decide +kernel
theorem dX8_gap_109 : decode cX8_gap 109 = .ok (.invokevirtual 132, 3) := by decide +kernel
theorem dX8_gap_112 : decode cX8_gap 112 = .ok (.aload_n 0, 1) := by decide +kernel
theorem dX8_gap_113 : decode cX8_gap 113 = .ok (.getfield 89, 3) := by decide +kernel
theorem dX8_gap_116 : decode cX8_gap 116 = .ok (.lload 4, 2) := by decide +kernel
theorem dX8_gap_118 : decode cX8_gap 118 = .ok (.lmul, 1) := by decide +kernel
theorem dX8_gap_119 : decode cX8_gap 119 = .ok (.lload_n 2, 1) := by decide +kernel
theorem dX8_gap_120 : decode cX8_gap 120 = .ok (.aload_n 0, 1) := by decide +kernel
theorem dX8_gap_121 : decode cX8_gap 121 = .ok (.getfield 93, 3) := by decide +kernel
theorem dX8_gap_124 : decode cX8_gap 124 = .ok (.lmul, 1) := by decide +kernel
theorem dX8_gap_125 : decode cX8_gap 125 = .ok (.lcmp, 1) := by decide +kernel
theorem dX8_gap_126 : decode cX8_gap 126 = .ok (.ifCond .le 18, 3) := by decide +kernel
theorem dX8_gap_129 : decode cX8_gap 129 = .ok (.aload_n 0, 1) := by decide +kernel
theorem dX8_gap_130 : decode cX8_gap 130 = .ok (.getfield 89, 3) := by decide +kernel
theorem dX8_gap_133 : decode cX8_gap 133 = .ok (.lstore_n 2, 1) := by decide +kernel
theorem dX8_gap_134 : decode cX8_gap 134 = .ok (.aload_n 0, 1) := by decide +kernel
theorem dX8_gap_135 : decode cX8_gap 135 = .ok (.getfield 93, 3) := by decide +kernel
theorem dX8_gap_138 : decode cX8_gap 138 = .ok (.lstore 4, 2) := by decide +kernel
theorem dX8_gap_140 : decode cX8_gap 140 = .ok (.iload 7, 2) := by decide +kernel
theorem dX8_gap_142 : decode cX8_gap 142 = .ok (.istore 6, 2) := by decide +kernel
theorem dX8_gap_144 : decode cX8_gap 144 = .ok (.iinc 7 1, 3) := by decide +kernel
theorem dX8_gap_147 : decode cX8_gap 147 = .ok (.goto (-104), 3) := by decide +kernel
theorem dX8_gap_150 : decode cX8_gap 150 = .ok (.iload_n 1, 1) := by decide +kernel
theorem dX8_gap_151 : decode cX8_gap 151 = .ok (.ifCond .ne 7, 3) := by decide +kernel
theorem dX8_gap_154 : decode cX8_gap 154 = .ok (.lload_n 2, 1) := by decide +kernel
theorem dX8_gap_155 : decode cX8_gap 155 = .ok (.goto 16, 3) := by decide +kernel
theorem dX8_gap_158 : decode cX8_gap 158 = .ok (.iload_n 1, 1) := by decide +kernel
theorem dX8_gap_159 : decode cX8_gap 159 = .ok (.iconst 1, 1) := by decide +kernel
theorem dX8_gap_160 : decode cX8_gap 160 = .ok (.if_icmp .ne 8, 3) := by decide +kernel
theorem dX8_gap_163 : decode cX8_gap 163 = .ok (.lload 4, 2) := by decide +kernel
theorem dX8_gap_165 : decode cX8_gap 165 = .ok (.goto 6, 3) := by decide +kernel
theorem dX8_gap_168 : decode cX8_gap 168 = .ok (.iload 6, 2) := by decide +kernel
theorem dX8_gap_170 : decode cX8_gap 170 = .ok (.i2l, 1) := by decide +kernel
theorem dX8_gap_171 : decode cX8_gap 171 = .ok (.lreturn, 1) := by decide +kernel
theorem dX8_part_0 : decode cX8_part 0 = .ok (.iconst 0, 1) := by decide +kernel
theorem dX8_part_1 : decode cX8_part 1 = .ok (.istore_n 3, 1) := by decide +kernel
theorem dX8_part_2 : decode cX8_part 2 = .ok (.iconst 0, 1) := by decide +kernel
theorem dX8_part_3 : decode cX8_part 3 = .ok (.istore 4, 2) := by decide +kernel
theorem dX8_part_5 : decode cX8_part 5 = .ok (.iload_n 1, 1) := by decide +kernel
theorem dX8_part_6 : decode cX8_part 6 = .ok (.istore 5, 2) := by decide +kernel
theorem dX8_part_8 : decode cX8_part 8 = .ok (.iload 5, 2) := by decide +kernel
theorem dX8_part_10 : decode cX8_part 10 = .ok (.iload_n 2, 1) := by decide +kernel
theorem dX8_part_11 : decode cX8_part 11 = .ok (.if_icmp .ge 31, 3) := by decide +kernel
theorem dX8_part_14 : decode cX8_part 14 = .ok (.iload_n 3, 1) := by decide +kernel
theorem dX8_part_15 : decode cX8_part 15 = .ok (.aload_n 0, 1) := by decide +kernel
theorem dX8_part_16 : decode cX8_part 16 = .ok (.getfield 32, 3) := by decide +kernel
theorem dX8_part_19 : decode cX8_part 19 = .ok (.iload 5, 2) := by decide +kernel
theorem dX8_part_21 : decode cX8_part 21 = .ok (.iaload, 1) := by decide +kernel
theorem dX8_part_22 : decode cX8_part 22 = .ok (.iadd, 1) := by decide +kernel
theorem dX8_part_23 : decode cX8_part 23 = .ok (.istore_n 3, 1) := by decide +kernel
theorem dX8_part_24 : decode cX8_part 24 = .ok (.iload 4, 2) := by decide +kernel
theorem dX8_part_26 : decode cX8_part 26 = .ok (.aload_n 0, 1) := by decide +kernel
theorem dX8_part_27 : decode cX8_part 27 = .ok (.getfield 29, 3) := by decide +kernel
theorem dX8_part_30 : decode cX8_part 30 = .ok (.iload 5, 2) := by decide +kernel
theorem dX8_part_32 : decode cX8_part 32 = .ok (.iaload, 1) := by decide +kernel
theorem dX8_part_33 : decode cX8_part 33 = .ok (.iadd, 1) := by decide +kernel
theorem dX8_part_34 : decode cX8_part 34 = .ok (.istore 4, 2) := by decide +kernel
theorem dX8_part_36 : decode cX8_part 36 = .ok (.iinc 5 1, 3) := by decide +kernel
theorem dX8_part_39 : decode cX8_part 39 = .ok (.goto (-31), 3) := by decide +kernel
theorem dX8_part_42 : decode cX8_part 42 = .ok (.ldc2_w 113, 3) := by decide +kernel
theorem dX8_part_45 : decode cX8_part 45 = .ok (.iload 4, 2) := by decide +kernel
theorem dX8_part_47 : decode cX8_part 47 = .ok (.i2l, 1) := by decide +kernel
theorem dX8_part_48 : decode cX8_part 48 = .ok (.ldiv, 1) := by decide +kernel
theorem dX8_part_49 : decode cX8_part 49 = .ok (.iload_n 3, 1) := by decide +kernel
theorem dX8_part_50 : decode cX8_part 50 = .ok (.i2l, 1) := by decide +kernel
theorem dX8_part_51 : decode cX8_part 51 = .ok (.lmul, 1) := by decide +kernel
theorem dX8_part_52 : decode cX8_part 52 = .ok (.iload_n 3, 1) := by decide +kernel
theorem dX8_part_53 : decode cX8_part 53 = .ok (.i2l, 1) := by decide +kernel
theorem dX8_part_54 : decode cX8_part 54 = .ok (.lmul, 1) := by decide +kernel
theorem dX8_part_55 : decode cX8_part 55 = .ok (.lneg, 1) := by decide +kernel
theorem dX8_part_56 : decode cX8_part 56 = .ok (.lreturn, 1) := by decide +kernel
set_option maxRecDepth 20000 in
theorem ggX8_divides_X8_finds : GoodIn wsX8_divides wsX8_finds := goodIn_r _ [8, 1, 9, 10, 11, 12, 18, 19, 20, 21, 22, 23, 24, 25, 26, 27, 28, 29, 30, 31, 32, 33, 34, 35, 36, 37, 38, 39, 40, 41] (by decide +kernel) (by decide +kernel)
set_option maxRecDepth 20000 in
theorem gX8_divides_X8_finds : GoodIn wsX8_divides (wsV RX8 75 RX8 yX8_finds wsX8_finds) := goodIn_app (goodIn_of _ (by decide +kernel)) ggX8_divides_X8_finds
set_option maxRecDepth 20000 in
theorem ggX8_divides_X8_part : GoodIn wsX8_divides wsX8_part := goodIn_r _ [16, 12, 11, 17, 18, 19, 20, 21, 22, 23, 24, 25, 26, 27, 28, 29, 30, 31, 32, 33, 34, 35, 36, 37, 38, 39, 40, 41] (by decide +kernel) (by decide +kernel)
set_option maxRecDepth 20000 in
theorem gX8_divides_X8_part : GoodIn wsX8_divides (wsV RX8 163 RX8 yX8_part wsX8_part) := goodIn_app (goodIn_of _ (by decide +kernel)) ggX8_divides_X8_part
theorem dX8_divides_0 : decode cX8_divides 0 = .ok (.aload_n 0, 1) := by decide +kernel
theorem dX8_divides_1 : decode cX8_divides 1 = .ok (.invokevirtual 75, 3) := by decide +kernel
theorem dX8_divides_4 : decode cX8_divides 4 = .ok (.iconst 1, 1) := by decide +kernel
theorem dX8_divides_5 : decode cX8_divides 5 = .ok (.istore_n 1, 1) := by decide +kernel
theorem dX8_divides_6 : decode cX8_divides 6 = .ok (.iload_n 1, 1) := by decide +kernel
theorem dX8_divides_7 : decode cX8_divides 7 = .ok (.aload_n 0, 1) := by decide +kernel
theorem dX8_divides_8 : decode cX8_divides 8 = .ok (.getfield 72, 3) := by decide +kernel
theorem dX8_divides_11 : decode cX8_divides 11 = .ok (.if_icmp .gt 166, 3) := by decide +kernel
theorem dX8_divides_14 : decode cX8_divides 14 = .ok (.aload_n 0, 1) := by decide +kernel
theorem dX8_divides_15 : decode cX8_divides 15 = .ok (.getfield 72, 3) := by decide +kernel
theorem dX8_divides_18 : decode cX8_divides 18 = .ok (.iload_n 1, 1) := by decide +kernel
theorem dX8_divides_19 : decode cX8_divides 19 = .ok (.isub, 1) := by decide +kernel
theorem dX8_divides_20 : decode cX8_divides 20 = .ok (.istore_n 2, 1) := by decide +kernel
theorem dX8_divides_21 : decode cX8_divides 21 = .ok (.iload_n 2, 1) := by decide +kernel
theorem dX8_divides_22 : decode cX8_divides 22 = .ok (.ifCond .lt 149, 3) := by decide +kernel
theorem dX8_divides_25 : decode cX8_divides 25 = .ok (.bipush 13, 2) := by decide +kernel
theorem dX8_divides_27 : decode cX8_divides 27 = .ok (.iload_n 1, 1) := by decide +kernel
theorem dX8_divides_28 : decode cX8_divides 28 = .ok (.imul, 1) := by decide +kernel
theorem dX8_divides_29 : decode cX8_divides 29 = .ok (.iload_n 2, 1) := by decide +kernel
theorem dX8_divides_30 : decode cX8_divides 30 = .ok (.iadd, 1) := by decide +kernel
theorem dX8_divides_31 : decode cX8_divides 31 = .ok (.istore_n 3, 1) := by decide +kernel
theorem dX8_divides_32 : decode cX8_divides 32 = .ok (.iload_n 1, 1) := by decide +kernel
theorem dX8_divides_33 : decode cX8_divides 33 = .ok (.iconst 1, 1) := by decide +kernel
theorem dX8_divides_34 : decode cX8_divides 34 = .ok (.if_icmp .ne 10, 3) := by decide +kernel
theorem dX8_divides_37 : decode cX8_divides 37 = .ok (.aload_n 0, 1) := by decide +kernel
theorem dX8_divides_38 : decode cX8_divides 38 = .ok (.getfield 72, 3) := by decide +kernel
theorem dX8_divides_41 : decode cX8_divides 41 = .ok (.goto 11, 3) := by decide +kernel
theorem dX8_divides_44 : decode cX8_divides 44 = .ok (.aload_n 0, 1) := by decide +kernel
theorem dX8_divides_45 : decode cX8_divides 45 = .ok (.getfield 72, 3) := by decide +kernel
theorem dX8_divides_48 : decode cX8_divides 48 = .ok (.iload_n 1, 1) := by decide +kernel
theorem dX8_divides_49 : decode cX8_divides 49 = .ok (.isub, 1) := by decide +kernel
theorem dX8_divides_50 : decode cX8_divides 50 = .ok (.iconst 1, 1) := by decide +kernel
theorem dX8_divides_51 : decode cX8_divides 51 = .ok (.iadd, 1) := by decide +kernel
theorem dX8_divides_52 : decode cX8_divides 52 = .ok (.istore 4, 2) := by decide +kernel
theorem dX8_divides_54 : decode cX8_divides 54 = .ok (.aload_n 0, 1) := by decide +kernel
theorem dX8_divides_55 : decode cX8_divides 55 = .ok (.getfield 47, 3) := by decide +kernel
theorem dX8_divides_58 : decode cX8_divides 58 = .ok (.iload_n 3, 1) := by decide +kernel
theorem dX8_divides_59 : decode cX8_divides 59 = .ok (.lconst 1, 1) := by decide +kernel
theorem dX8_divides_60 : decode cX8_divides 60 = .ok (.lastore, 1) := by decide +kernel
theorem dX8_divides_61 : decode cX8_divides 61 = .ok (.iload 4, 2) := by decide +kernel
theorem dX8_divides_63 : decode cX8_divides 63 = .ok (.istore 5, 2) := by decide +kernel
theorem dX8_divides_65 : decode cX8_divides 65 = .ok (.iload 5, 2) := by decide +kernel
theorem dX8_divides_67 : decode cX8_divides 67 = .ok (.iload_n 2, 1) := by decide +kernel
theorem dX8_divides_68 : decode cX8_divides 68 = .ok (.if_icmp .le 97, 3) := by decide +kernel
theorem dX8_divides_71 : decode cX8_divides 71 = .ok (.iload_n 1, 1) := by decide +kernel
theorem dX8_divides_72 : decode cX8_divides 72 = .ok (.iconst 1, 1) := by decide +kernel
theorem dX8_divides_73 : decode cX8_divides 73 = .ok (.if_icmp .gt 12, 3) := by decide +kernel
theorem dX8_divides_76 : decode cX8_divides 76 = .ok (.iload 5, 2) := by decide +kernel
theorem dX8_divides_78 : decode cX8_divides 78 = .ok (.aload_n 0, 1) := by decide +kernel
theorem dX8_divides_79 : decode cX8_divides 79 = .ok (.getfield 72, 3) := by decide +kernel
theorem dX8_divides_82 : decode cX8_divides 82 = .ok (.if_icmp .ne 77, 3) := by decide +kernel
theorem dX8_divides_85 : decode cX8_divides 85 = .ok (.aload_n 0, 1) := by decide +kernel
theorem dX8_divides_86 : decode cX8_divides 86 = .ok (.iload_n 2, 1) := by decide +kernel
theorem dX8_divides_87 : decode cX8_divides 87 = .ok (.iload 5, 2) := by decide +kernel
theorem dX8_divides_89 : decode cX8_divides 89 = .ok (.invokevirtual 163, 3) := by decide +kernel
theorem dX8_divides_92 : decode cX8_divides 92 = .ok (.iload_n 1, 1) := by decide +kernel
theorem dX8_divides_93 : decode cX8_divides 93 = .ok (.iconst 1, 1) := by decide +kernel
theorem dX8_divides_94 : decode cX8_divides 94 = .ok (.if_icmp .le 20, 3) := by decide +kernel
theorem dX8_divides_97 : decode cX8_divides 97 = .ok (.aload_n 0, 1) := by decide +kernel
theorem dX8_divides_98 : decode cX8_divides 98 = .ok (.getfield 47, 3) := by decide +kernel
theorem dX8_divides_101 : decode cX8_divides 101 = .ok (.bipush 13, 2) := by decide +kernel
theorem dX8_divides_103 : decode cX8_divides 103 = .ok (.iload_n 1, 1) := by decide +kernel
theorem dX8_divides_104 : decode cX8_divides 104 = .ok (.iconst 1, 1) := by decide +kernel
theorem dX8_divides_105 : decode cX8_divides 105 = .ok (.isub, 1) := by decide +kernel
theorem dX8_divides_106 : decode cX8_divides 106 = .ok (.imul, 1) := by decide +kernel
theorem dX8_divides_107 : decode cX8_divides 107 = .ok (.iload 5, 2) := by decide +kernel
theorem dX8_divides_109 : decode cX8_divides 109 = .ok (.iadd, 1) := by decide +kernel
theorem dX8_divides_110 : decode cX8_divides 110 = .ok (.laload, 1) := by decide +kernel
theorem dX8_divides_111 : decode cX8_divides 111 = .ok (.goto 4, 3) := by decide +kernel
theorem dX8_divides_114 : decode cX8_divides 114 = .ok (.lconst 0, 1) := by decide +kernel
theorem dX8_divides_115 : decode cX8_divides 115 = .ok (.ladd, 1) := by decide +kernel
theorem dX8_divides_116 : decode cX8_divides 116 = .ok (.lstore 6, 2) := by decide +kernel
theorem dX8_divides_118 : decode cX8_divides 118 = .ok (.aload_n 0, 1) := by decide +kernel
theorem dX8_divides_119 : decode cX8_divides 119 = .ok (.getfield 47, 3) := by decide +kernel
theorem dX8_divides_122 : decode cX8_divides 122 = .ok (.iload_n 3, 1) := by decide +kernel
theorem dX8_divides_123 : decode cX8_divides 123 = .ok (.laload, 1) := by decide +kernel
theorem dX8_divides_124 : decode cX8_divides 124 = .ok (.lconst 0, 1) := by decide +kernel
theorem dX8_divides_125 : decode cX8_divides 125 = .ok (.lcmp, 1) := by decide +kernel
theorem dX8_divides_126 : decode cX8_divides 126 = .ok (.ifCond .gt 15, 3) := by decide +kernel
theorem dX8_divides_129 : decode cX8_divides 129 = .ok (.lload 6, 2) := by decide +kernel
theorem dX8_divides_131 : decode cX8_divides 131 = .ok (.aload_n 0, 1) := by decide +kernel
theorem dX8_divides_132 : decode cX8_divides 132 = .ok (.getfield 47, 3) := by decide +kernel
theorem dX8_divides_135 : decode cX8_divides 135 = .ok (.iload_n 3, 1) := by decide +kernel
theorem dX8_divides_136 : decode cX8_divides 136 = .ok (.laload, 1) := by decide +kernel
theorem dX8_divides_137 : decode cX8_divides 137 = .ok (.lcmp, 1) := by decide +kernel
theorem dX8_divides_138 : decode cX8_divides 138 = .ok (.ifCond .ge 21, 3) := by decide +kernel
theorem dX8_divides_141 : decode cX8_divides 141 = .ok (.aload_n 0, 1) := by decide +kernel
theorem dX8_divides_142 : decode cX8_divides 142 = .ok (.getfield 47, 3) := by decide +kernel
theorem dX8_divides_145 : decode cX8_divides 145 = .ok (.iload_n 3, 1) := by decide +kernel
theorem dX8_divides_146 : decode cX8_divides 146 = .ok (.lload 6, 2) := by decide +kernel
theorem dX8_divides_148 : decode cX8_divides 148 = .ok (.lastore, 1) := by decide +kernel
theorem dX8_divides_149 : decode cX8_divides 149 = .ok (.aload_n 0, 1) := by decide +kernel
theorem dX8_divides_150 : decode cX8_divides 150 = .ok (.getfield 51, 3) := by decide +kernel
theorem dX8_divides_153 : decode cX8_divides 153 = .ok (.iload_n 3, 1) := by decide +kernel
theorem dX8_divides_154 : decode cX8_divides 154 = .ok (.iload 5, 2) := by decide +kernel
theorem dX8_divides_156 : decode cX8_divides 156 = .ok (.iload_n 2, 1) := by decide +kernel
theorem dX8_divides_157 : decode cX8_divides 157 = .ok (.isub, 1) := by decide +kernel
theorem dX8_divides_158 : decode cX8_divides 158 = .ok (.iastore, 1) := by decide +kernel
theorem dX8_divides_159 : decode cX8_divides 159 = .ok (.iinc 5 (-1), 3) := by decide +kernel
theorem dX8_divides_162 : decode cX8_divides 162 = .ok (.goto (-97), 3) := by decide +kernel
theorem dX8_divides_165 : decode cX8_divides 165 = .ok (.iinc 2 (-1), 3) := by decide +kernel
theorem dX8_divides_168 : decode cX8_divides 168 = .ok (.goto (-147), 3) := by decide +kernel
theorem dX8_divides_171 : decode cX8_divides 171 = .ok (.iinc 1 1, 3) := by decide +kernel
theorem dX8_divides_174 : decode cX8_divides 174 = .ok (.goto (-168), 3) := by decide +kernel
theorem dX8_divides_177 : decode cX8_divides 177 = .ok (.return_, 1) := by decide +kernel
set_option maxRecDepth 20000 in
theorem ggX8_errorBy_X8_errorOf : GoodIn wsX8_errorBy wsX8_errorOf := goodIn_r _ [7, 8, 9, 1, 10, 11, 12, 13, 14, 15, 16, 17, 18, 19, 20, 21, 22, 23, 24, 25, 26, 27, 28, 29, 30, 31, 32, 33, 34, 35] (by decide +kernel) (by decide +kernel)
set_option maxRecDepth 20000 in
theorem gX8_errorBy_X8_errorOf : GoodIn wsX8_errorBy (wsV RX8 119 RX8 yX8_errorOf wsX8_errorOf) := goodIn_app (goodIn_of _ (by decide +kernel)) ggX8_errorBy_X8_errorOf
theorem dX8_errorBy_0 : decode cX8_errorBy 0 = .ok (.aload_n 0, 1) := by decide +kernel
theorem dX8_errorBy_1 : decode cX8_errorBy 1 = .ok (.iconst 0, 1) := by decide +kernel
theorem dX8_errorBy_2 : decode cX8_errorBy 2 = .ok (.putfield 96, 3) := by decide +kernel
theorem dX8_errorBy_5 : decode cX8_errorBy 5 = .ok (.aload_n 0, 1) := by decide +kernel
theorem dX8_errorBy_6 : decode cX8_errorBy 6 = .ok (.invokevirtual 119, 3) := by decide +kernel
theorem dX8_errorBy_9 : decode cX8_errorBy 9 = .ok (.aload_n 0, 1) := by decide +kernel
theorem dX8_errorBy_10 : decode cX8_errorBy 10 = .ok (.getfield 47, 3) := by decide +kernel
theorem dX8_errorBy_13 : decode cX8_errorBy 13 = .ok (.bipush 13, 2) := by decide +kernel
theorem dX8_errorBy_15 : decode cX8_errorBy 15 = .ok (.iload_n 1, 1) := by decide +kernel
theorem dX8_errorBy_16 : decode cX8_errorBy 16 = .ok (.imul, 1) := by decide +kernel
theorem dX8_errorBy_17 : decode cX8_errorBy 17 = .ok (.laload, 1) := by decide +kernel
theorem dX8_errorBy_18 : decode cX8_errorBy 18 = .ok (.ladd, 1) := by decide +kernel
theorem dX8_errorBy_19 : decode cX8_errorBy 19 = .ok (.lreturn, 1) := by decide +kernel
set_option maxRecDepth 20000 in
theorem ggX8_levelError_X8_in : GoodIn wsX8_levelError wsX8_in := goodIn_r _ [8] (by decide +kernel) (by decide +kernel)
set_option maxRecDepth 20000 in
theorem gX8_levelError_X8_in : GoodIn wsX8_levelError (va_wsS RX8 54 yX8_in wsX8_in) := goodIn_app (goodIn_of _ (by decide +kernel)) ggX8_levelError_X8_in
set_option maxRecDepth 20000 in
theorem ggX8_levelError_X8_divides : GoodIn wsX8_levelError wsX8_divides := goodIn_r _ [12, 2, 13, 14, 15, 16, 17, 7, 18, 19, 20, 21, 22, 23, 24, 25, 26, 4, 51, 52, 53, 54, 55, 56, 57, 58, 59, 60, 61, 62, 63, 64, 65, 66, 67, 68, 69, 70, 71, 72, 73, 74] (by decide +kernel) (by decide +kernel)
set_option maxRecDepth 20000 in
theorem gX8_levelError_X8_divides : GoodIn wsX8_levelError (wsV RX8 167 RX8 yX8_divides wsX8_divides) := goodIn_app (goodIn_of _ (by decide +kernel)) ggX8_levelError_X8_divides
set_option maxRecDepth 20000 in
theorem ggX8_levelError_X8_errorBy : GoodIn wsX8_levelError wsX8_errorBy := goodIn_r _ [30, 31, 13, 32, 33, 34, 7, 35, 19, 4, 36, 37, 51, 52, 53, 54, 55, 56, 57, 58, 59, 60, 61, 62, 63, 64, 65, 66, 67, 68, 69, 70, 71, 72, 73, 74] (by decide +kernel) (by decide +kernel)
set_option maxRecDepth 20000 in
theorem gX8_levelError_X8_errorBy : GoodIn wsX8_levelError (wsV RX8 172 RX8 yX8_errorBy wsX8_errorBy) := goodIn_app (goodIn_of _ (by decide +kernel)) ggX8_levelError_X8_errorBy
set_option maxRecDepth 20000 in
theorem ggX8_levelError_X8_lowers : GoodIn wsX8_levelError wsX8_lowers := goodIn_r _ [41, 42, 43, 44, 45, 7, 46, 51, 52, 53, 54, 55, 56, 57, 58, 59, 60, 61, 62, 63, 64, 65, 66, 67, 68, 69, 70, 71, 72, 73, 74] (by decide +kernel) (by decide +kernel)
set_option maxRecDepth 20000 in
theorem gX8_levelError_X8_lowers : GoodIn wsX8_levelError (wsV RX8 132 RX8 yX8_lowers wsX8_lowers) := goodIn_app (goodIn_of _ (by decide +kernel)) ggX8_levelError_X8_lowers
set_option maxRecDepth 20000 in
theorem ggX8_levelError_X8_tells : GoodIn wsX8_levelError wsX8_tells := goodIn_r _ [50, 42, 43, 51, 52, 53, 54, 55, 56, 57, 58, 59, 60, 61, 62, 63, 64, 65, 66, 67, 68, 69, 70, 71, 72, 73, 74] (by decide +kernel) (by decide +kernel)
set_option maxRecDepth 20000 in
theorem gX8_levelError_X8_tells : GoodIn wsX8_levelError (wsV RX8 151 RX8 yX8_tells wsX8_tells) := goodIn_app (goodIn_of _ (by decide +kernel)) ggX8_levelError_X8_tells
theorem dX8_levelError_0 : decode cX8_levelError 0 = .ok (.iload_n 1, 1) := by decide +kernel
theorem dX8_levelError_1 : decode cX8_levelError 1 = .ok (.iconst 1, 1) := by decide +kernel
theorem dX8_levelError_2 : decode cX8_levelError 2 = .ok (.bipush 12, 2) := by decide +kernel
theorem dX8_levelError_4 : decode cX8_levelError 4 = .ok (.invokestatic 54, 3) := by decide +kernel
theorem dX8_levelError_7 : decode cX8_levelError 7 = .ok (.ifCond .eq 12, 3) := by decide +kernel
theorem dX8_levelError_10 : decode cX8_levelError 10 = .ok (.iload_n 2, 1) := by decide +kernel
theorem dX8_levelError_11 : decode cX8_levelError 11 = .ok (.iconst 0, 1) := by decide +kernel
theorem dX8_levelError_12 : decode cX8_levelError 12 = .ok (.iconst 1, 1) := by decide +kernel
theorem dX8_levelError_13 : decode cX8_levelError 13 = .ok (.invokestatic 54, 3) := by decide +kernel
theorem dX8_levelError_16 : decode cX8_levelError 16 = .ok (.ifCond .ne 7, 3) := by decide +kernel
theorem dX8_levelError_19 : decode cX8_levelError 19 = .ok (.ldc2_w 136, 3) := by decide +kernel
theorem dX8_levelError_22 : decode cX8_levelError 22 = .ok (.lreturn, 1) := by decide +kernel
theorem dX8_levelError_23 : decode cX8_levelError 23 = .ok (.aload_n 0, 1) := by decide +kernel
theorem dX8_levelError_24 : decode cX8_levelError 24 = .ok (.invokevirtual 167, 3) := by decide +kernel
theorem dX8_levelError_27 : decode cX8_levelError 27 = .ok (.iload_n 1, 1) := by decide +kernel
theorem dX8_levelError_28 : decode cX8_levelError 28 = .ok (.aload_n 0, 1) := by decide +kernel
theorem dX8_levelError_29 : decode cX8_levelError 29 = .ok (.getfield 72, 3) := by decide +kernel
theorem dX8_levelError_32 : decode cX8_levelError 32 = .ok (.if_icmp .le 7, 3) := by decide +kernel
theorem dX8_levelError_35 : decode cX8_levelError 35 = .ok (.ldc2_w 170, 3) := by decide +kernel
theorem dX8_levelError_38 : decode cX8_levelError 38 = .ok (.lreturn, 1) := by decide +kernel
theorem dX8_levelError_39 : decode cX8_levelError 39 = .ok (.aload_n 0, 1) := by decide +kernel
theorem dX8_levelError_40 : decode cX8_levelError 40 = .ok (.aload_n 0, 1) := by decide +kernel
theorem dX8_levelError_41 : decode cX8_levelError 41 = .ok (.iload_n 1, 1) := by decide +kernel
theorem dX8_levelError_42 : decode cX8_levelError 42 = .ok (.invokevirtual 172, 3) := by decide +kernel
theorem dX8_levelError_45 : decode cX8_levelError 45 = .ok (.ldc2_w 113, 3) := by decide +kernel
theorem dX8_levelError_48 : decode cX8_levelError 48 = .ok (.invokevirtual 132, 3) := by decide +kernel
theorem dX8_levelError_51 : decode cX8_levelError 51 = .ok (.aload_n 0, 1) := by decide +kernel
theorem dX8_levelError_52 : decode cX8_levelError 52 = .ok (.iload_n 2, 1) := by decide +kernel
theorem dX8_levelError_53 : decode cX8_levelError 53 = .ok (.invokevirtual 151, 3) := by decide +kernel
theorem dX8_levelError_56 : decode cX8_levelError 56 = .ok (.lreturn, 1) := by decide +kernel
set_option maxRecDepth 20000 in
theorem ggX8_levelBegin_X8_in : GoodIn wsX8_levelBegin wsX8_in := goodIn_r _ [8] (by decide +kernel) (by decide +kernel)
set_option maxRecDepth 20000 in
theorem gX8_levelBegin_X8_in : GoodIn wsX8_levelBegin (va_wsS RX8 54 yX8_in wsX8_in) := goodIn_app (goodIn_of _ (by decide +kernel)) ggX8_levelBegin_X8_in
set_option maxRecDepth 20000 in
theorem ggX8_levelBegin_X8_divides : GoodIn wsX8_levelBegin wsX8_divides := goodIn_r _ [12, 2, 13, 4, 14, 15, 16, 7, 17, 18, 19, 20, 21, 22, 23, 24, 25, 26, 27, 28, 29, 30, 31, 32, 33, 34, 35, 36, 37, 38, 39, 40, 41, 42, 43, 44, 45, 46, 47, 48, 49, 50] (by decide +kernel) (by decide +kernel)
set_option maxRecDepth 20000 in
theorem gX8_levelBegin_X8_divides : GoodIn wsX8_levelBegin (wsV RX8 167 RX8 yX8_divides wsX8_divides) := goodIn_app (goodIn_of _ (by decide +kernel)) ggX8_levelBegin_X8_divides
theorem dX8_levelBegin_0 : decode cX8_levelBegin 0 = .ok (.iload_n 1, 1) := by decide +kernel
theorem dX8_levelBegin_1 : decode cX8_levelBegin 1 = .ok (.iconst 1, 1) := by decide +kernel
theorem dX8_levelBegin_2 : decode cX8_levelBegin 2 = .ok (.bipush 12, 2) := by decide +kernel
theorem dX8_levelBegin_4 : decode cX8_levelBegin 4 = .ok (.invokestatic 54, 3) := by decide +kernel
theorem dX8_levelBegin_7 : decode cX8_levelBegin 7 = .ok (.ifCond .eq 14, 3) := by decide +kernel
theorem dX8_levelBegin_10 : decode cX8_levelBegin 10 = .ok (.iload_n 2, 1) := by decide +kernel
theorem dX8_levelBegin_11 : decode cX8_levelBegin 11 = .ok (.iconst 0, 1) := by decide +kernel
theorem dX8_levelBegin_12 : decode cX8_levelBegin 12 = .ok (.iload_n 1, 1) := by decide +kernel
theorem dX8_levelBegin_13 : decode cX8_levelBegin 13 = .ok (.iconst 1, 1) := by decide +kernel
theorem dX8_levelBegin_14 : decode cX8_levelBegin 14 = .ok (.isub, 1) := by decide +kernel
theorem dX8_levelBegin_15 : decode cX8_levelBegin 15 = .ok (.invokestatic 54, 3) := by decide +kernel
theorem dX8_levelBegin_18 : decode cX8_levelBegin 18 = .ok (.ifCond .ne 6, 3) := by decide +kernel
theorem dX8_levelBegin_21 : decode cX8_levelBegin 21 = .ok (.ldc 62, 2) := by decide +kernel
theorem dX8_levelBegin_23 : decode cX8_levelBegin 23 = .ok (.ireturn, 1) := by decide +kernel
theorem dX8_levelBegin_24 : decode cX8_levelBegin 24 = .ok (.aload_n 0, 1) := by decide +kernel
theorem dX8_levelBegin_25 : decode cX8_levelBegin 25 = .ok (.invokevirtual 167, 3) := by decide +kernel
theorem dX8_levelBegin_28 : decode cX8_levelBegin 28 = .ok (.iload_n 1, 1) := by decide +kernel
theorem dX8_levelBegin_29 : decode cX8_levelBegin 29 = .ok (.aload_n 0, 1) := by decide +kernel
theorem dX8_levelBegin_30 : decode cX8_levelBegin 30 = .ok (.getfield 72, 3) := by decide +kernel
theorem dX8_levelBegin_33 : decode cX8_levelBegin 33 = .ok (.if_icmp .le 6, 3) := by decide +kernel
theorem dX8_levelBegin_36 : decode cX8_levelBegin 36 = .ok (.ldc 159, 2) := by decide +kernel
theorem dX8_levelBegin_38 : decode cX8_levelBegin 38 = .ok (.ireturn, 1) := by decide +kernel
theorem dX8_levelBegin_39 : decode cX8_levelBegin 39 = .ok (.iconst 0, 1) := by decide +kernel
theorem dX8_levelBegin_40 : decode cX8_levelBegin 40 = .ok (.istore_n 3, 1) := by decide +kernel
theorem dX8_levelBegin_41 : decode cX8_levelBegin 41 = .ok (.iconst 0, 1) := by decide +kernel
theorem dX8_levelBegin_42 : decode cX8_levelBegin 42 = .ok (.istore 4, 2) := by decide +kernel
theorem dX8_levelBegin_44 : decode cX8_levelBegin 44 = .ok (.iload 4, 2) := by decide +kernel
theorem dX8_levelBegin_46 : decode cX8_levelBegin 46 = .ok (.iload_n 2, 1) := by decide +kernel
theorem dX8_levelBegin_47 : decode cX8_levelBegin 47 = .ok (.if_icmp .ge 26, 3) := by decide +kernel
theorem dX8_levelBegin_50 : decode cX8_levelBegin 50 = .ok (.iload_n 3, 1) := by decide +kernel
theorem dX8_levelBegin_51 : decode cX8_levelBegin 51 = .ok (.aload_n 0, 1) := by decide +kernel
theorem dX8_levelBegin_52 : decode cX8_levelBegin 52 = .ok (.getfield 51, 3) := by decide +kernel
theorem dX8_levelBegin_55 : decode cX8_levelBegin 55 = .ok (.bipush 13, 2) := by decide +kernel
theorem dX8_levelBegin_57 : decode cX8_levelBegin 57 = .ok (.iload_n 1, 1) := by decide +kernel
theorem dX8_levelBegin_58 : decode cX8_levelBegin 58 = .ok (.iload 4, 2) := by decide +kernel
theorem dX8_levelBegin_60 : decode cX8_levelBegin 60 = .ok (.isub, 1) := by decide +kernel
theorem dX8_levelBegin_61 : decode cX8_levelBegin 61 = .ok (.imul, 1) := by decide +kernel
theorem dX8_levelBegin_62 : decode cX8_levelBegin 62 = .ok (.iload_n 3, 1) := by decide +kernel
theorem dX8_levelBegin_63 : decode cX8_levelBegin 63 = .ok (.iadd, 1) := by decide +kernel
theorem dX8_levelBegin_64 : decode cX8_levelBegin 64 = .ok (.iaload, 1) := by decide +kernel
theorem dX8_levelBegin_65 : decode cX8_levelBegin 65 = .ok (.iadd, 1) := by decide +kernel
theorem dX8_levelBegin_66 : decode cX8_levelBegin 66 = .ok (.istore_n 3, 1) := by decide +kernel
theorem dX8_levelBegin_67 : decode cX8_levelBegin 67 = .ok (.iinc 4 1, 3) := by decide +kernel
theorem dX8_levelBegin_70 : decode cX8_levelBegin 70 = .ok (.goto (-26), 3) := by decide +kernel
theorem dX8_levelBegin_73 : decode cX8_levelBegin 73 = .ok (.iload_n 3, 1) := by decide +kernel
theorem dX8_levelBegin_74 : decode cX8_levelBegin 74 = .ok (.ireturn, 1) := by decide +kernel
set_option maxRecDepth 20000 in
theorem ggX8_levels_X8_in : GoodIn wsX8_levels wsX8_in := goodIn_r _ [10] (by decide +kernel) (by decide +kernel)
set_option maxRecDepth 20000 in
theorem gX8_levels_X8_in : GoodIn wsX8_levels (va_wsS RX8 54 yX8_in wsX8_in) := goodIn_app (goodIn_of _ (by decide +kernel)) ggX8_levels_X8_in
set_option maxRecDepth 20000 in
theorem ggX8_levels_X8_divides : GoodIn wsX8_levels wsX8_divides := goodIn_r _ [14, 5, 15, 16, 17, 18, 19, 9, 20, 3, 21, 22, 23, 24, 25, 26, 27, 6, 39, 40, 41, 42, 43, 44, 45, 46, 47, 48, 49, 50, 51, 52, 53, 54, 55, 56, 57, 58, 59, 60, 61, 62] (by decide +kernel) (by decide +kernel)
set_option maxRecDepth 20000 in
theorem gX8_levels_X8_divides : GoodIn wsX8_levels (wsV RX8 167 RX8 yX8_divides wsX8_divides) := goodIn_app (goodIn_of _ (by decide +kernel)) ggX8_levels_X8_divides
set_option maxRecDepth 20000 in
theorem ggX8_levels_X8_errorBy : GoodIn wsX8_levels wsX8_errorBy := goodIn_r _ [31, 32, 15, 33, 34, 35, 9, 36, 3, 6, 37, 38, 39, 40, 41, 42, 43, 44, 45, 46, 47, 48, 49, 50, 51, 52, 53, 54, 55, 56, 57, 58, 59, 60, 61, 62] (by decide +kernel) (by decide +kernel)
set_option maxRecDepth 20000 in
theorem gX8_levels_X8_errorBy : GoodIn wsX8_levels (wsV RX8 172 RX8 yX8_errorBy wsX8_errorBy) := goodIn_app (goodIn_of _ (by decide +kernel)) ggX8_levels_X8_errorBy
theorem dX8_levels_0 : decode cX8_levels 0 = .ok (.iload_n 1, 1) := by decide +kernel
theorem dX8_levels_1 : decode cX8_levels 1 = .ok (.iconst 0, 1) := by decide +kernel
theorem dX8_levels_2 : decode cX8_levels 2 = .ok (.ldc 175, 2) := by decide +kernel
theorem dX8_levels_4 : decode cX8_levels 4 = .ok (.invokestatic 54, 3) := by decide +kernel
theorem dX8_levels_7 : decode cX8_levels 7 = .ok (.ifCond .eq 13, 3) := by decide +kernel
theorem dX8_levels_10 : decode cX8_levels 10 = .ok (.iload_n 2, 1) := by decide +kernel
theorem dX8_levels_11 : decode cX8_levels 11 = .ok (.iconst 1, 1) := by decide +kernel
theorem dX8_levels_12 : decode cX8_levels 12 = .ok (.bipush 100, 2) := by decide +kernel
theorem dX8_levels_14 : decode cX8_levels 14 = .ok (.invokestatic 54, 3) := by decide +kernel
theorem dX8_levels_17 : decode cX8_levels 17 = .ok (.ifCond .ne 6, 3) := by decide +kernel
theorem dX8_levels_20 : decode cX8_levels 20 = .ok (.ldc 62, 2) := by decide +kernel
theorem dX8_levels_22 : decode cX8_levels 22 = .ok (.ireturn, 1) := by decide +kernel
theorem dX8_levels_23 : decode cX8_levels 23 = .ok (.aload_n 0, 1) := by decide +kernel
theorem dX8_levels_24 : decode cX8_levels 24 = .ok (.getfield 7, 3) := by decide +kernel
theorem dX8_levels_27 : decode cX8_levels 27 = .ok (.iconst 0, 1) := by decide +kernel
theorem dX8_levels_28 : decode cX8_levels 28 = .ok (.iaload, 1) := by decide +kernel
theorem dX8_levels_29 : decode cX8_levels 29 = .ok (.ifCond .ne 6, 3) := by decide +kernel
theorem dX8_levels_32 : decode cX8_levels 32 = .ok (.ldc 71, 2) := by decide +kernel
theorem dX8_levels_34 : decode cX8_levels 34 = .ok (.ireturn, 1) := by decide +kernel
theorem dX8_levels_35 : decode cX8_levels 35 = .ok (.aload_n 0, 1) := by decide +kernel
theorem dX8_levels_36 : decode cX8_levels 36 = .ok (.invokevirtual 167, 3) := by decide +kernel
theorem dX8_levels_39 : decode cX8_levels 39 = .ok (.iconst 1, 1) := by decide +kernel
theorem dX8_levels_40 : decode cX8_levels 40 = .ok (.istore_n 3, 1) := by decide +kernel
theorem dX8_levels_41 : decode cX8_levels 41 = .ok (.lconst 0, 1) := by decide +kernel
theorem dX8_levels_42 : decode cX8_levels 42 = .ok (.lstore 4, 2) := by decide +kernel
theorem dX8_levels_44 : decode cX8_levels 44 = .ok (.iconst 1, 1) := by decide +kernel
theorem dX8_levels_45 : decode cX8_levels 45 = .ok (.istore 6, 2) := by decide +kernel
theorem dX8_levels_47 : decode cX8_levels 47 = .ok (.iload 6, 2) := by decide +kernel
theorem dX8_levels_49 : decode cX8_levels 49 = .ok (.aload_n 0, 1) := by decide +kernel
theorem dX8_levels_50 : decode cX8_levels 50 = .ok (.getfield 72, 3) := by decide +kernel
theorem dX8_levels_53 : decode cX8_levels 53 = .ok (.if_icmp .gt 52, 3) := by decide +kernel
theorem dX8_levels_56 : decode cX8_levels 56 = .ok (.aload_n 0, 1) := by decide +kernel
theorem dX8_levels_57 : decode cX8_levels 57 = .ok (.iload 6, 2) := by decide +kernel
theorem dX8_levels_59 : decode cX8_levels 59 = .ok (.invokevirtual 172, 3) := by decide +kernel
theorem dX8_levels_62 : decode cX8_levels 62 = .ok (.iload_n 2, 1) := by decide +kernel
theorem dX8_levels_63 : decode cX8_levels 63 = .ok (.i2l, 1) := by decide +kernel
theorem dX8_levels_64 : decode cX8_levels 64 = .ok (.lmul, 1) := by decide +kernel
theorem dX8_levels_65 : decode cX8_levels 65 = .ok (.ldc2_w 113, 3) := by decide +kernel
theorem dX8_levels_68 : decode cX8_levels 68 = .ok (.iload_n 1, 1) := by decide +kernel
theorem dX8_levels_69 : decode cX8_levels 69 = .ok (.i2l, 1) := by decide +kernel
theorem dX8_levels_70 : decode cX8_levels 70 = .ok (.lmul, 1) := by decide +kernel
theorem dX8_levels_71 : decode cX8_levels 71 = .ok (.iload 6, 2) := by decide +kernel
theorem dX8_levels_73 : decode cX8_levels 73 = .ok (.i2l, 1) := by decide +kernel
theorem dX8_levels_74 : decode cX8_levels 74 = .ok (.lmul, 1) := by decide +kernel
theorem dX8_levels_75 : decode cX8_levels 75 = .ok (.ladd, 1) := by decide +kernel
theorem dX8_levels_76 : decode cX8_levels 76 = .ok (.lstore 7, 2) := by decide +kernel
theorem dX8_levels_78 : decode cX8_levels 78 = .ok (.iload 6, 2) := by decide +kernel
theorem dX8_levels_80 : decode cX8_levels 80 = .ok (.iconst 1, 1) := by decide +kernel
theorem dX8_levels_81 : decode cX8_levels 81 = .ok (.if_icmp .eq 11, 3) := by decide +kernel
theorem dX8_levels_84 : decode cX8_levels 84 = .ok (.lload 7, 2) := by decide +kernel
theorem dX8_levels_86 : decode cX8_levels 86 = .ok (.lload 4, 2) := by decide +kernel
theorem dX8_levels_88 : decode cX8_levels 88 = .ok (.lcmp, 1) := by decide +kernel
theorem dX8_levels_89 : decode cX8_levels 89 = .ok (.ifCond .ge 10, 3) := by decide +kernel
theorem dX8_levels_92 : decode cX8_levels 92 = .ok (.lload 7, 2) := by decide +kernel
theorem dX8_levels_94 : decode cX8_levels 94 = .ok (.lstore 4, 2) := by decide +kernel
theorem dX8_levels_96 : decode cX8_levels 96 = .ok (.iload 6, 2) := by decide +kernel
theorem dX8_levels_98 : decode cX8_levels 98 = .ok (.istore_n 3, 1) := by decide +kernel
theorem dX8_levels_99 : decode cX8_levels 99 = .ok (.iinc 6 1, 3) := by decide +kernel
theorem dX8_levels_102 : decode cX8_levels 102 = .ok (.goto (-55), 3) := by decide +kernel
theorem dX8_levels_105 : decode cX8_levels 105 = .ok (.iload_n 3, 1) := by decide +kernel
theorem dX8_levels_106 : decode cX8_levels 106 = .ok (.ireturn, 1) := by decide +kernel
set_option maxRecDepth 20000 in
theorem ggX8_penaltyFor_X8_in : GoodIn wsX8_penaltyFor wsX8_in := goodIn_r _ [10] (by decide +kernel) (by decide +kernel)
set_option maxRecDepth 20000 in
theorem gX8_penaltyFor_X8_in : GoodIn wsX8_penaltyFor (va_wsS RX8 54 yX8_in wsX8_in) := goodIn_app (goodIn_of _ (by decide +kernel)) ggX8_penaltyFor_X8_in
set_option maxRecDepth 20000 in
theorem ggX8_penaltyFor_X8_divides : GoodIn wsX8_penaltyFor wsX8_divides := goodIn_r _ [14, 4, 15, 16, 17, 18, 19, 9, 20, 2, 21, 22, 23, 24, 25, 26, 27, 6, 52, 53, 54, 55, 56, 57, 58, 59, 60, 61, 62, 63, 64, 65, 66, 67, 68, 69, 70, 71, 72, 73, 74, 75] (by decide +kernel) (by decide +kernel)
set_option maxRecDepth 20000 in
theorem gX8_penaltyFor_X8_divides : GoodIn wsX8_penaltyFor (wsV RX8 167 RX8 yX8_divides wsX8_divides) := goodIn_app (goodIn_of _ (by decide +kernel)) ggX8_penaltyFor_X8_divides
set_option maxRecDepth 20000 in
theorem ggX8_penaltyFor_X8_errorBy : GoodIn wsX8_penaltyFor wsX8_errorBy := goodIn_r _ [31, 32, 15, 33, 34, 35, 9, 36, 2, 6, 37, 38, 52, 53, 54, 55, 56, 57, 58, 59, 60, 61, 62, 63, 64, 65, 66, 67, 68, 69, 70, 71, 72, 73, 74, 75] (by decide +kernel) (by decide +kernel)
set_option maxRecDepth 20000 in
theorem gX8_penaltyFor_X8_errorBy : GoodIn wsX8_penaltyFor (wsV RX8 172 RX8 yX8_errorBy wsX8_errorBy) := goodIn_app (goodIn_of _ (by decide +kernel)) ggX8_penaltyFor_X8_errorBy
set_option maxRecDepth 20000 in
theorem ggX8_penaltyFor_X8_lowers : GoodIn wsX8_penaltyFor wsX8_lowers := goodIn_r _ [42, 43, 44, 45, 46, 9, 47, 52, 53, 54, 55, 56, 57, 58, 59, 60, 61, 62, 63, 64, 65, 66, 67, 68, 69, 70, 71, 72, 73, 74, 75] (by decide +kernel) (by decide +kernel)
set_option maxRecDepth 20000 in
theorem gX8_penaltyFor_X8_lowers : GoodIn wsX8_penaltyFor (wsV RX8 132 RX8 yX8_lowers wsX8_lowers) := goodIn_app (goodIn_of _ (by decide +kernel)) ggX8_penaltyFor_X8_lowers
set_option maxRecDepth 20000 in
theorem ggX8_penaltyFor_X8_tells : GoodIn wsX8_penaltyFor wsX8_tells := goodIn_r _ [51, 43, 44, 52, 53, 54, 55, 56, 57, 58, 59, 60, 61, 62, 63, 64, 65, 66, 67, 68, 69, 70, 71, 72, 73, 74, 75] (by decide +kernel) (by decide +kernel)
set_option maxRecDepth 20000 in
theorem gX8_penaltyFor_X8_tells : GoodIn wsX8_penaltyFor (wsV RX8 151 RX8 yX8_tells wsX8_tells) := goodIn_app (goodIn_of _ (by decide +kernel)) ggX8_penaltyFor_X8_tells
theorem dX8_penaltyFor_0 : decode cX8_penaltyFor 0 = .ok (.iload_n 1, 1) := by decide +kernel
theorem dX8_penaltyFor_1 : decode cX8_penaltyFor 1 = .ok (.iconst 1, 1) := by decide +kernel
theorem dX8_penaltyFor_2 : decode cX8_penaltyFor 2 = .ok (.bipush 12, 2) := by decide +kernel
theorem dX8_penaltyFor_4 : decode cX8_penaltyFor 4 = .ok (.invokestatic 54, 3) := by decide +kernel
theorem dX8_penaltyFor_7 : decode cX8_penaltyFor 7 = .ok (.ifCond .eq 12, 3) := by decide +kernel
theorem dX8_penaltyFor_10 : decode cX8_penaltyFor 10 = .ok (.iload_n 2, 1) := by decide +kernel
theorem dX8_penaltyFor_11 : decode cX8_penaltyFor 11 = .ok (.iconst 0, 1) := by decide +kernel
theorem dX8_penaltyFor_12 : decode cX8_penaltyFor 12 = .ok (.iconst 1, 1) := by decide +kernel
theorem dX8_penaltyFor_13 : decode cX8_penaltyFor 13 = .ok (.invokestatic 54, 3) := by decide +kernel
theorem dX8_penaltyFor_16 : decode cX8_penaltyFor 16 = .ok (.ifCond .ne 7, 3) := by decide +kernel
theorem dX8_penaltyFor_19 : decode cX8_penaltyFor 19 = .ok (.ldc2_w 136, 3) := by decide +kernel
theorem dX8_penaltyFor_22 : decode cX8_penaltyFor 22 = .ok (.lreturn, 1) := by decide +kernel
theorem dX8_penaltyFor_23 : decode cX8_penaltyFor 23 = .ok (.aload_n 0, 1) := by decide +kernel
theorem dX8_penaltyFor_24 : decode cX8_penaltyFor 24 = .ok (.getfield 7, 3) := by decide +kernel
theorem dX8_penaltyFor_27 : decode cX8_penaltyFor 27 = .ok (.iconst 0, 1) := by decide +kernel
theorem dX8_penaltyFor_28 : decode cX8_penaltyFor 28 = .ok (.iaload, 1) := by decide +kernel
theorem dX8_penaltyFor_29 : decode cX8_penaltyFor 29 = .ok (.ifCond .ne 7, 3) := by decide +kernel
theorem dX8_penaltyFor_32 : decode cX8_penaltyFor 32 = .ok (.ldc2_w 155, 3) := by decide +kernel
theorem dX8_penaltyFor_35 : decode cX8_penaltyFor 35 = .ok (.lreturn, 1) := by decide +kernel
theorem dX8_penaltyFor_36 : decode cX8_penaltyFor 36 = .ok (.aload_n 0, 1) := by decide +kernel
theorem dX8_penaltyFor_37 : decode cX8_penaltyFor 37 = .ok (.invokevirtual 167, 3) := by decide +kernel
theorem dX8_penaltyFor_40 : decode cX8_penaltyFor 40 = .ok (.lconst 0, 1) := by decide +kernel
theorem dX8_penaltyFor_41 : decode cX8_penaltyFor 41 = .ok (.lstore_n 3, 1) := by decide +kernel
theorem dX8_penaltyFor_42 : decode cX8_penaltyFor 42 = .ok (.lconst 1, 1) := by decide +kernel
theorem dX8_penaltyFor_43 : decode cX8_penaltyFor 43 = .ok (.lstore 5, 2) := by decide +kernel
theorem dX8_penaltyFor_45 : decode cX8_penaltyFor 45 = .ok (.iload_n 1, 1) := by decide +kernel
theorem dX8_penaltyFor_46 : decode cX8_penaltyFor 46 = .ok (.iconst 1, 1) := by decide +kernel
theorem dX8_penaltyFor_47 : decode cX8_penaltyFor 47 = .ok (.iadd, 1) := by decide +kernel
theorem dX8_penaltyFor_48 : decode cX8_penaltyFor 48 = .ok (.istore 7, 2) := by decide +kernel
theorem dX8_penaltyFor_50 : decode cX8_penaltyFor 50 = .ok (.iload 7, 2) := by decide +kernel
theorem dX8_penaltyFor_52 : decode cX8_penaltyFor 52 = .ok (.aload_n 0, 1) := by decide +kernel
theorem dX8_penaltyFor_53 : decode cX8_penaltyFor 53 = .ok (.getfield 72, 3) := by decide +kernel
theorem dX8_penaltyFor_56 : decode cX8_penaltyFor 56 = .ok (.if_icmp .gt 104, 3) := by decide +kernel
theorem dX8_penaltyFor_59 : decode cX8_penaltyFor 59 = .ok (.ldc2_w 123, 3) := by decide +kernel
theorem dX8_penaltyFor_62 : decode cX8_penaltyFor 62 = .ok (.lstore 8, 2) := by decide +kernel
theorem dX8_penaltyFor_64 : decode cX8_penaltyFor 64 = .ok (.lconst 1, 1) := by decide +kernel
theorem dX8_penaltyFor_65 : decode cX8_penaltyFor 65 = .ok (.lstore 10, 2) := by decide +kernel
theorem dX8_penaltyFor_67 : decode cX8_penaltyFor 67 = .ok (.iconst 1, 1) := by decide +kernel
theorem dX8_penaltyFor_68 : decode cX8_penaltyFor 68 = .ok (.istore 12, 2) := by decide +kernel
theorem dX8_penaltyFor_70 : decode cX8_penaltyFor 70 = .ok (.iload 12, 2) := by decide +kernel
theorem dX8_penaltyFor_72 : decode cX8_penaltyFor 72 = .ok (.iload_n 1, 1) := by decide +kernel
theorem dX8_penaltyFor_73 : decode cX8_penaltyFor 73 = .ok (.if_icmp .gt 61, 3) := by decide +kernel
theorem dX8_penaltyFor_76 : decode cX8_penaltyFor 76 = .ok (.aload_n 0, 1) := by decide +kernel
theorem dX8_penaltyFor_77 : decode cX8_penaltyFor 77 = .ok (.iload 12, 2) := by decide +kernel
theorem dX8_penaltyFor_79 : decode cX8_penaltyFor 79 = .ok (.invokevirtual 172, 3) := by decide +kernel
theorem dX8_penaltyFor_82 : decode cX8_penaltyFor 82 = .ok (.aload_n 0, 1) := by decide +kernel
theorem dX8_penaltyFor_83 : decode cX8_penaltyFor 83 = .ok (.iload 7, 2) := by decide +kernel
theorem dX8_penaltyFor_85 : decode cX8_penaltyFor 85 = .ok (.invokevirtual 172, 3) := by decide +kernel
theorem dX8_penaltyFor_88 : decode cX8_penaltyFor 88 = .ok (.lsub, 1) := by decide +kernel
theorem dX8_penaltyFor_89 : decode cX8_penaltyFor 89 = .ok (.lstore 13, 2) := by decide +kernel
theorem dX8_penaltyFor_91 : decode cX8_penaltyFor 91 = .ok (.lload 8, 2) := by decide +kernel
theorem dX8_penaltyFor_93 : decode cX8_penaltyFor 93 = .ok (.lconst 0, 1) := by decide +kernel
theorem dX8_penaltyFor_94 : decode cX8_penaltyFor 94 = .ok (.lcmp, 1) := by decide +kernel
theorem dX8_penaltyFor_95 : decode cX8_penaltyFor 95 = .ok (.ifCond .lt 21, 3) := by decide +kernel
theorem dX8_penaltyFor_98 : decode cX8_penaltyFor 98 = .ok (.lload 13, 2) := by decide +kernel
theorem dX8_penaltyFor_100 : decode cX8_penaltyFor 100 = .ok (.lload 10, 2) := by decide +kernel
theorem dX8_penaltyFor_102 : decode cX8_penaltyFor 102 = .ok (.lmul, 1) := by decide +kernel
theorem dX8_penaltyFor_103 : decode cX8_penaltyFor 103 = .ok (.lload 8, 2) := by decide +kernel
theorem dX8_penaltyFor_105 : decode cX8_penaltyFor 105 = .ok (.iload 7, 2) := by decide +kernel
theorem dX8_penaltyFor_107 : decode cX8_penaltyFor 107 = .ok (.iload 12, 2) := by decide +kernel
theorem dX8_penaltyFor_109 : decode cX8_penaltyFor 109 = .ok (.isub, 1) := by decide +kernel
theorem dX8_penaltyFor_110 : decode cX8_penaltyFor 110 = .ok (.i2l, 1) := by decide +kernel
theorem dX8_penaltyFor_111 : decode cX8_penaltyFor 111 = .ok (.lmul, 1) := by decide +kernel
theorem dX8_penaltyFor_112 : decode cX8_penaltyFor 112 = .ok (.lcmp, 1) := by decide +kernel
theorem dX8_penaltyFor_113 : decode cX8_penaltyFor 113 = .ok (.ifCond .ge 15, 3) := by decide +kernel
theorem dX8_penaltyFor_116 : decode cX8_penaltyFor 116 = .ok (.lload 13, 2) := by decide +kernel
theorem dX8_penaltyFor_118 : decode cX8_penaltyFor 118 = .ok (.lstore 8, 2) := by decide +kernel
theorem dX8_penaltyFor_120 : decode cX8_penaltyFor 120 = .ok (.iload 7, 2) := by decide +kernel
theorem dX8_penaltyFor_122 : decode cX8_penaltyFor 122 = .ok (.iload 12, 2) := by decide +kernel
theorem dX8_penaltyFor_124 : decode cX8_penaltyFor 124 = .ok (.isub, 1) := by decide +kernel
theorem dX8_penaltyFor_125 : decode cX8_penaltyFor 125 = .ok (.i2l, 1) := by decide +kernel
theorem dX8_penaltyFor_126 : decode cX8_penaltyFor 126 = .ok (.lstore 10, 2) := by decide +kernel
theorem dX8_penaltyFor_128 : decode cX8_penaltyFor 128 = .ok (.iinc 12 1, 3) := by decide +kernel
theorem dX8_penaltyFor_131 : decode cX8_penaltyFor 131 = .ok (.goto (-61), 3) := by decide +kernel
theorem dX8_penaltyFor_134 : decode cX8_penaltyFor 134 = .ok (.lload 8, 2) := by decide +kernel
theorem dX8_penaltyFor_136 : decode cX8_penaltyFor 136 = .ok (.lload 5, 2) := by decide +kernel
theorem dX8_penaltyFor_138 : decode cX8_penaltyFor 138 = .ok (.lmul, 1) := by decide +kernel
theorem dX8_penaltyFor_139 : decode cX8_penaltyFor 139 = .ok (.lload_n 3, 1) := by decide +kernel
theorem dX8_penaltyFor_140 : decode cX8_penaltyFor 140 = .ok (.lload 10, 2) := by decide +kernel
theorem dX8_penaltyFor_142 : decode cX8_penaltyFor 142 = .ok (.lmul, 1) := by decide +kernel
theorem dX8_penaltyFor_143 : decode cX8_penaltyFor 143 = .ok (.lcmp, 1) := by decide +kernel
theorem dX8_penaltyFor_144 : decode cX8_penaltyFor 144 = .ok (.ifCond .le 10, 3) := by decide +kernel
theorem dX8_penaltyFor_147 : decode cX8_penaltyFor 147 = .ok (.lload 8, 2) := by decide +kernel
theorem dX8_penaltyFor_149 : decode cX8_penaltyFor 149 = .ok (.lstore_n 3, 1) := by decide +kernel
theorem dX8_penaltyFor_150 : decode cX8_penaltyFor 150 = .ok (.lload 10, 2) := by decide +kernel
theorem dX8_penaltyFor_152 : decode cX8_penaltyFor 152 = .ok (.lstore 5, 2) := by decide +kernel
theorem dX8_penaltyFor_154 : decode cX8_penaltyFor 154 = .ok (.iinc 7 1, 3) := by decide +kernel
theorem dX8_penaltyFor_157 : decode cX8_penaltyFor 157 = .ok (.goto (-107), 3) := by decide +kernel
theorem dX8_penaltyFor_160 : decode cX8_penaltyFor 160 = .ok (.aload_n 0, 1) := by decide +kernel
theorem dX8_penaltyFor_161 : decode cX8_penaltyFor 161 = .ok (.lload_n 3, 1) := by decide +kernel
theorem dX8_penaltyFor_162 : decode cX8_penaltyFor 162 = .ok (.ldc2_w 113, 3) := by decide +kernel
theorem dX8_penaltyFor_165 : decode cX8_penaltyFor 165 = .ok (.lload 5, 2) := by decide +kernel
theorem dX8_penaltyFor_167 : decode cX8_penaltyFor 167 = .ok (.lmul, 1) := by decide +kernel
theorem dX8_penaltyFor_168 : decode cX8_penaltyFor 168 = .ok (.invokevirtual 132, 3) := by decide +kernel
theorem dX8_penaltyFor_171 : decode cX8_penaltyFor 171 = .ok (.aload_n 0, 1) := by decide +kernel
theorem dX8_penaltyFor_172 : decode cX8_penaltyFor 172 = .ok (.iload_n 2, 1) := by decide +kernel
theorem dX8_penaltyFor_173 : decode cX8_penaltyFor 173 = .ok (.invokevirtual 151, 3) := by decide +kernel
theorem dX8_penaltyFor_176 : decode cX8_penaltyFor 176 = .ok (.lreturn, 1) := by decide +kernel
set_option maxRecDepth 20000 in
theorem ggX8_type_X8_in : GoodIn wsX8_type wsX8_in := goodIn_r _ [8] (by decide +kernel) (by decide +kernel)
set_option maxRecDepth 20000 in
theorem gX8_type_X8_in : GoodIn wsX8_type (va_wsS RX8 54 yX8_in wsX8_in) := goodIn_app (goodIn_of _ (by decide +kernel)) ggX8_type_X8_in
theorem dX8_type_0 : decode cX8_type 0 = .ok (.iload_n 1, 1) := by decide +kernel
theorem dX8_type_1 : decode cX8_type 1 = .ok (.bipush 32, 2) := by decide +kernel
theorem dX8_type_3 : decode cX8_type 3 = .ok (.bipush 126, 2) := by decide +kernel
theorem dX8_type_5 : decode cX8_type 5 = .ok (.invokestatic 54, 3) := by decide +kernel
theorem dX8_type_8 : decode cX8_type 8 = .ok (.ifCond .ne 6, 3) := by decide +kernel
theorem dX8_type_11 : decode cX8_type 11 = .ok (.ldc 62, 2) := by decide +kernel
theorem dX8_type_13 : decode cX8_type 13 = .ok (.ireturn, 1) := by decide +kernel
theorem dX8_type_14 : decode cX8_type 14 = .ok (.aload_n 0, 1) := by decide +kernel
theorem dX8_type_15 : decode cX8_type 15 = .ok (.getfield 176, 3) := by decide +kernel
theorem dX8_type_18 : decode cX8_type 18 = .ok (.bipush 90, 2) := by decide +kernel
theorem dX8_type_20 : decode cX8_type 20 = .ok (.if_icmp .ne 6, 3) := by decide +kernel
theorem dX8_type_23 : decode cX8_type 23 = .ok (.ldc 63, 2) := by decide +kernel
theorem dX8_type_25 : decode cX8_type 25 = .ok (.ireturn, 1) := by decide +kernel
theorem dX8_type_26 : decode cX8_type 26 = .ok (.aload_n 0, 1) := by decide +kernel
theorem dX8_type_27 : decode cX8_type 27 = .ok (.getfield 16, 3) := by decide +kernel
theorem dX8_type_30 : decode cX8_type 30 = .ok (.aload_n 0, 1) := by decide +kernel
theorem dX8_type_31 : decode cX8_type 31 = .ok (.getfield 176, 3) := by decide +kernel
theorem dX8_type_34 : decode cX8_type 34 = .ok (.iload_n 1, 1) := by decide +kernel
theorem dX8_type_35 : decode cX8_type 35 = .ok (.i2c, 1) := by decide +kernel
theorem dX8_type_36 : decode cX8_type 36 = .ok (.castore, 1) := by decide +kernel
theorem dX8_type_37 : decode cX8_type 37 = .ok (.aload_n 0, 1) := by decide +kernel
theorem dX8_type_38 : decode cX8_type 38 = .ok (.dup, 1) := by decide +kernel
theorem dX8_type_39 : decode cX8_type 39 = .ok (.getfield 176, 3) := by decide +kernel
theorem dX8_type_42 : decode cX8_type 42 = .ok (.iconst 1, 1) := by decide +kernel
theorem dX8_type_43 : decode cX8_type 43 = .ok (.iadd, 1) := by decide +kernel
theorem dX8_type_44 : decode cX8_type 44 = .ok (.putfield 176, 3) := by decide +kernel
theorem dX8_type_47 : decode cX8_type 47 = .ok (.aload_n 0, 1) := by decide +kernel
theorem dX8_type_48 : decode cX8_type 48 = .ok (.getfield 176, 3) := by decide +kernel
theorem dX8_type_51 : decode cX8_type 51 = .ok (.ireturn, 1) := by decide +kernel
theorem dX8_clearText_0 : decode cX8_clearText 0 = .ok (.aload_n 0, 1) := by decide +kernel
theorem dX8_clearText_1 : decode cX8_clearText 1 = .ok (.getfield 176, 3) := by decide +kernel
theorem dX8_clearText_4 : decode cX8_clearText 4 = .ok (.istore_n 1, 1) := by decide +kernel
theorem dX8_clearText_5 : decode cX8_clearText 5 = .ok (.aload_n 0, 1) := by decide +kernel
theorem dX8_clearText_6 : decode cX8_clearText 6 = .ok (.iconst 0, 1) := by decide +kernel
theorem dX8_clearText_7 : decode cX8_clearText 7 = .ok (.putfield 176, 3) := by decide +kernel
theorem dX8_clearText_10 : decode cX8_clearText 10 = .ok (.iload_n 1, 1) := by decide +kernel
theorem dX8_clearText_11 : decode cX8_clearText 11 = .ok (.ireturn, 1) := by decide +kernel
theorem dX8_has_0 : decode cX8_has 0 = .ok (.aload_n 0, 1) := by decide +kernel
theorem dX8_has_1 : decode cX8_has 1 = .ok (.getfield 179, 3) := by decide +kernel
theorem dX8_has_4 : decode cX8_has 4 = .ok (.aload_n 0, 1) := by decide +kernel
theorem dX8_has_5 : decode cX8_has 5 = .ok (.getfield 176, 3) := by decide +kernel
theorem dX8_has_8 : decode cX8_has 8 = .ok (.if_icmp .ge 20, 3) := by decide +kernel
theorem dX8_has_11 : decode cX8_has 11 = .ok (.aload_n 0, 1) := by decide +kernel
theorem dX8_has_12 : decode cX8_has 12 = .ok (.getfield 16, 3) := by decide +kernel
theorem dX8_has_15 : decode cX8_has 15 = .ok (.aload_n 0, 1) := by decide +kernel
theorem dX8_has_16 : decode cX8_has 16 = .ok (.getfield 179, 3) := by decide +kernel
theorem dX8_has_19 : decode cX8_has 19 = .ok (.caload, 1) := by decide +kernel
theorem dX8_has_20 : decode cX8_has 20 = .ok (.iload_n 1, 1) := by decide +kernel
theorem dX8_has_21 : decode cX8_has 21 = .ok (.if_icmp .ne 7, 3) := by decide +kernel
theorem dX8_has_24 : decode cX8_has 24 = .ok (.iconst 1, 1) := by decide +kernel
theorem dX8_has_25 : decode cX8_has 25 = .ok (.goto 4, 3) := by decide +kernel
theorem dX8_has_28 : decode cX8_has 28 = .ok (.iconst 0, 1) := by decide +kernel
theorem dX8_has_29 : decode cX8_has 29 = .ok (.istore_n 2, 1) := by decide +kernel
theorem dX8_has_30 : decode cX8_has 30 = .ok (.aload_n 0, 1) := by decide +kernel
theorem dX8_has_31 : decode cX8_has 31 = .ok (.dup, 1) := by decide +kernel
theorem dX8_has_32 : decode cX8_has 32 = .ok (.getfield 179, 3) := by decide +kernel
theorem dX8_has_35 : decode cX8_has 35 = .ok (.iload_n 2, 1) := by decide +kernel
theorem dX8_has_36 : decode cX8_has 36 = .ok (.ifCond .eq 7, 3) := by decide +kernel
theorem dX8_has_39 : decode cX8_has 39 = .ok (.iconst 1, 1) := by decide +kernel
theorem dX8_has_40 : decode cX8_has 40 = .ok (.goto 4, 3) := by decide +kernel
theorem dX8_has_43 : decode cX8_has 43 = .ok (.iconst 0, 1) := by decide +kernel
theorem dX8_has_44 : decode cX8_has 44 = .ok (.iadd, 1) := by decide +kernel
theorem dX8_has_45 : decode cX8_has 45 = .ok (.putfield 179, 3) := by decide +kernel
theorem dX8_has_48 : decode cX8_has 48 = .ok (.iload_n 2, 1) := by decide +kernel
theorem dX8_has_49 : decode cX8_has 49 = .ok (.ireturn, 1) := by decide +kernel
set_option maxRecDepth 20000 in
theorem ggX8_number_X8_in : GoodIn wsX8_number wsX8_in := goodIn_r _ [7] (by decide +kernel) (by decide +kernel)
set_option maxRecDepth 20000 in
theorem gX8_number_X8_in : GoodIn wsX8_number (va_wsS RX8 54 yX8_in wsX8_in) := goodIn_app (goodIn_of _ (by decide +kernel)) ggX8_number_X8_in
theorem dX8_number_0 : decode cX8_number 0 = .ok (.iconst (-1), 1) := by decide +kernel
theorem dX8_number_1 : decode cX8_number 1 = .ok (.istore_n 2, 1) := by decide +kernel
theorem dX8_number_2 : decode cX8_number 2 = .ok (.iconst 0, 1) := by decide +kernel
theorem dX8_number_3 : decode cX8_number 3 = .ok (.istore_n 3, 1) := by decide +kernel
theorem dX8_number_4 : decode cX8_number 4 = .ok (.iload_n 3, 1) := by decide +kernel
theorem dX8_number_5 : decode cX8_number 5 = .ok (.iload_n 1, 1) := by decide +kernel
theorem dX8_number_6 : decode cX8_number 6 = .ok (.if_icmp .ge 75, 3) := by decide +kernel
theorem dX8_number_9 : decode cX8_number 9 = .ok (.aload_n 0, 1) := by decide +kernel
theorem dX8_number_10 : decode cX8_number 10 = .ok (.getfield 179, 3) := by decide +kernel
theorem dX8_number_13 : decode cX8_number 13 = .ok (.aload_n 0, 1) := by decide +kernel
theorem dX8_number_14 : decode cX8_number 14 = .ok (.getfield 176, 3) := by decide +kernel
theorem dX8_number_17 : decode cX8_number 17 = .ok (.if_icmp .ge 64, 3) := by decide +kernel
theorem dX8_number_20 : decode cX8_number 20 = .ok (.aload_n 0, 1) := by decide +kernel
theorem dX8_number_21 : decode cX8_number 21 = .ok (.getfield 16, 3) := by decide +kernel
theorem dX8_number_24 : decode cX8_number 24 = .ok (.aload_n 0, 1) := by decide +kernel
theorem dX8_number_25 : decode cX8_number 25 = .ok (.getfield 179, 3) := by decide +kernel
theorem dX8_number_28 : decode cX8_number 28 = .ok (.caload, 1) := by decide +kernel
theorem dX8_number_29 : decode cX8_number 29 = .ok (.bipush 48, 2) := by decide +kernel
theorem dX8_number_31 : decode cX8_number 31 = .ok (.bipush 57, 2) := by decide +kernel
theorem dX8_number_33 : decode cX8_number 33 = .ok (.invokestatic 54, 3) := by decide +kernel
theorem dX8_number_36 : decode cX8_number 36 = .ok (.ifCond .eq 45, 3) := by decide +kernel
theorem dX8_number_39 : decode cX8_number 39 = .ok (.iload_n 2, 1) := by decide +kernel
theorem dX8_number_40 : decode cX8_number 40 = .ok (.ifCond .ge 7, 3) := by decide +kernel
theorem dX8_number_43 : decode cX8_number 43 = .ok (.iconst 0, 1) := by decide +kernel
theorem dX8_number_44 : decode cX8_number 44 = .ok (.goto 7, 3) := by decide +kernel
theorem dX8_number_47 : decode cX8_number 47 = .ok (.bipush 10, 2) := by decide +kernel
theorem dX8_number_49 : decode cX8_number 49 = .ok (.iload_n 2, 1) := by decide +kernel
theorem dX8_number_50 : decode cX8_number 50 = .ok (.imul, 1) := by decide +kernel
theorem dX8_number_51 : decode cX8_number 51 = .ok (.aload_n 0, 1) := by decide +kernel
theorem dX8_number_52 : decode cX8_number 52 = .ok (.getfield 16, 3) := by decide +kernel
theorem dX8_number_55 : decode cX8_number 55 = .ok (.aload_n 0, 1) := by decide +kernel
theorem dX8_number_56 : decode cX8_number 56 = .ok (.getfield 179, 3) := by decide +kernel
theorem dX8_number_59 : decode cX8_number 59 = .ok (.caload, 1) := by decide +kernel
theorem dX8_number_60 : decode cX8_number 60 = .ok (.iadd, 1) := by decide +kernel
theorem dX8_number_61 : decode cX8_number 61 = .ok (.bipush 48, 2) := by decide +kernel
theorem dX8_number_63 : decode cX8_number 63 = .ok (.isub, 1) := by decide +kernel
theorem dX8_number_64 : decode cX8_number 64 = .ok (.istore_n 2, 1) := by decide +kernel
theorem dX8_number_65 : decode cX8_number 65 = .ok (.aload_n 0, 1) := by decide +kernel
theorem dX8_number_66 : decode cX8_number 66 = .ok (.dup, 1) := by decide +kernel
theorem dX8_number_67 : decode cX8_number 67 = .ok (.getfield 179, 3) := by decide +kernel
theorem dX8_number_70 : decode cX8_number 70 = .ok (.iconst 1, 1) := by decide +kernel
theorem dX8_number_71 : decode cX8_number 71 = .ok (.iadd, 1) := by decide +kernel
theorem dX8_number_72 : decode cX8_number 72 = .ok (.putfield 179, 3) := by decide +kernel
theorem dX8_number_75 : decode cX8_number 75 = .ok (.iinc 3 1, 3) := by decide +kernel
theorem dX8_number_78 : decode cX8_number 78 = .ok (.goto (-74), 3) := by decide +kernel
theorem dX8_number_81 : decode cX8_number 81 = .ok (.iload_n 2, 1) := by decide +kernel
theorem dX8_number_82 : decode cX8_number 82 = .ok (.ireturn, 1) := by decide +kernel
theorem dX8_blames_0 : decode cX8_blames 0 = .ok (.aload_n 0, 1) := by decide +kernel
theorem dX8_blames_1 : decode cX8_blames 1 = .ok (.getfield 20, 3) := by decide +kernel
theorem dX8_blames_4 : decode cX8_blames 4 = .ok (.iconst 0, 1) := by decide +kernel
theorem dX8_blames_5 : decode cX8_blames 5 = .ok (.bipush 10, 2) := by decide +kernel
theorem dX8_blames_7 : decode cX8_blames 7 = .ok (.iload_n 1, 1) := by decide +kernel
theorem dX8_blames_8 : decode cX8_blames 8 = .ok (.iadd, 1) := by decide +kernel
theorem dX8_blames_9 : decode cX8_blames 9 = .ok (.iastore, 1) := by decide +kernel
theorem dX8_blames_10 : decode cX8_blames 10 = .ok (.aload_n 0, 1) := by decide +kernel
theorem dX8_blames_11 : decode cX8_blames 11 = .ok (.getfield 20, 3) := by decide +kernel
theorem dX8_blames_14 : decode cX8_blames 14 = .ok (.iconst 1, 1) := by decide +kernel
theorem dX8_blames_15 : decode cX8_blames 15 = .ok (.iload_n 2, 1) := by decide +kernel
theorem dX8_blames_16 : decode cX8_blames 16 = .ok (.iastore, 1) := by decide +kernel
theorem dX8_blames_17 : decode cX8_blames 17 = .ok (.aload_n 0, 1) := by decide +kernel
theorem dX8_blames_18 : decode cX8_blames 18 = .ok (.getfield 20, 3) := by decide +kernel
theorem dX8_blames_21 : decode cX8_blames 21 = .ok (.iconst 2, 1) := by decide +kernel
theorem dX8_blames_22 : decode cX8_blames 22 = .ok (.iload_n 3, 1) := by decide +kernel
theorem dX8_blames_23 : decode cX8_blames 23 = .ok (.iastore, 1) := by decide +kernel
theorem dX8_blames_24 : decode cX8_blames 24 = .ok (.aload_n 0, 1) := by decide +kernel
theorem dX8_blames_25 : decode cX8_blames 25 = .ok (.iload_n 3, 1) := by decide +kernel
theorem dX8_blames_26 : decode cX8_blames 26 = .ok (.ifCond .ne 7, 3) := by decide +kernel
theorem dX8_blames_29 : decode cX8_blames 29 = .ok (.iconst 2, 1) := by decide +kernel
theorem dX8_blames_30 : decode cX8_blames 30 = .ok (.goto 4, 3) := by decide +kernel
theorem dX8_blames_33 : decode cX8_blames 33 = .ok (.iconst 3, 1) := by decide +kernel
theorem dX8_blames_34 : decode cX8_blames 34 = .ok (.putfield 182, 3) := by decide +kernel
theorem dX8_blames_37 : decode cX8_blames 37 = .ok (.return_, 1) := by decide +kernel
set_option maxRecDepth 20000 in
theorem ggX8_reads_X8_has : GoodIn wsX8_reads wsX8_has := goodIn_r _ [6, 7, 8, 9, 23, 24, 25, 26, 27, 28, 29, 30, 31, 32, 33, 34, 35, 36, 37, 38, 39, 40, 41, 42, 43, 44, 45, 46] (by decide +kernel) (by decide +kernel)
set_option maxRecDepth 20000 in
theorem gX8_reads_X8_has : GoodIn wsX8_reads (wsV RX8 185 RX8 yX8_has wsX8_has) := goodIn_app (goodIn_of _ (by decide +kernel)) ggX8_reads_X8_has
set_option maxRecDepth 20000 in
theorem ggX8_reads_X8_number : GoodIn wsX8_reads wsX8_number := goodIn_r _ [13, 7, 8, 9, 14, 15, 5, 16, 23, 24, 25, 26, 27, 28, 29, 30, 31, 32, 33, 34, 35, 36, 37, 38, 39, 40, 41, 42, 43, 44, 45, 46] (by decide +kernel) (by decide +kernel)
set_option maxRecDepth 20000 in
theorem gX8_reads_X8_number : GoodIn wsX8_reads (wsV RX8 189 RX8 yX8_number wsX8_number) := goodIn_app (goodIn_of _ (by decide +kernel)) ggX8_reads_X8_number
set_option maxRecDepth 20000 in
theorem ggX8_reads_X8_in : GoodIn wsX8_reads wsX8_in := goodIn_r _ [16] (by decide +kernel) (by decide +kernel)
set_option maxRecDepth 20000 in
theorem gX8_reads_X8_in : GoodIn wsX8_reads (va_wsS RX8 54 yX8_in wsX8_in) := goodIn_app (goodIn_of _ (by decide +kernel)) ggX8_reads_X8_in
set_option maxRecDepth 20000 in
theorem ggX8_reads_X8_blames : GoodIn wsX8_reads wsX8_blames := goodIn_r _ [20, 21, 22, 23, 24, 25, 26, 27, 28, 29, 30, 31, 32, 33, 34, 35, 36, 37, 38, 39, 40, 41, 42, 43, 44, 45, 46] (by decide +kernel) (by decide +kernel)
set_option maxRecDepth 20000 in
theorem gX8_reads_X8_blames : GoodIn wsX8_reads (wsV RX8 192 RX8 yX8_blames wsX8_blames) := goodIn_app (goodIn_of _ (by decide +kernel)) ggX8_reads_X8_blames
theorem dX8_reads_0 : decode cX8_reads 0 = .ok (.iload_n 2, 1) := by decide +kernel
theorem dX8_reads_1 : decode cX8_reads 1 = .ok (.iconst 2, 1) := by decide +kernel
theorem dX8_reads_2 : decode cX8_reads 2 = .ok (.if_icmp .ne 16, 3) := by decide +kernel
theorem dX8_reads_5 : decode cX8_reads 5 = .ok (.aload_n 0, 1) := by decide +kernel
theorem dX8_reads_6 : decode cX8_reads 6 = .ok (.bipush 45, 2) := by decide +kernel
theorem dX8_reads_8 : decode cX8_reads 8 = .ok (.invokevirtual 185, 3) := by decide +kernel
theorem dX8_reads_11 : decode cX8_reads 11 = .ok (.ifCond .eq 7, 3) := by decide +kernel
theorem dX8_reads_14 : decode cX8_reads 14 = .ok (.iconst 1, 1) := by decide +kernel
theorem dX8_reads_15 : decode cX8_reads 15 = .ok (.goto 4, 3) := by decide +kernel
theorem dX8_reads_18 : decode cX8_reads 18 = .ok (.iconst 0, 1) := by decide +kernel
theorem dX8_reads_19 : decode cX8_reads 19 = .ok (.istore 6, 2) := by decide +kernel
theorem dX8_reads_21 : decode cX8_reads 21 = .ok (.aload_n 0, 1) := by decide +kernel
theorem dX8_reads_22 : decode cX8_reads 22 = .ok (.iload_n 3, 1) := by decide +kernel
theorem dX8_reads_23 : decode cX8_reads 23 = .ok (.invokevirtual 189, 3) := by decide +kernel
theorem dX8_reads_26 : decode cX8_reads 26 = .ok (.istore 7, 2) := by decide +kernel
theorem dX8_reads_28 : decode cX8_reads 28 = .ok (.iload 7, 2) := by decide +kernel
theorem dX8_reads_30 : decode cX8_reads 30 = .ok (.ifCond .lt 15, 3) := by decide +kernel
theorem dX8_reads_33 : decode cX8_reads 33 = .ok (.iload 7, 2) := by decide +kernel
theorem dX8_reads_35 : decode cX8_reads 35 = .ok (.iload 4, 2) := by decide +kernel
theorem dX8_reads_37 : decode cX8_reads 37 = .ok (.iload 5, 2) := by decide +kernel
theorem dX8_reads_39 : decode cX8_reads 39 = .ok (.invokestatic 54, 3) := by decide +kernel
theorem dX8_reads_42 : decode cX8_reads 42 = .ok (.ifCond .ne 23, 3) := by decide +kernel
theorem dX8_reads_45 : decode cX8_reads 45 = .ok (.aload_n 0, 1) := by decide +kernel
theorem dX8_reads_46 : decode cX8_reads 46 = .ok (.iload_n 1, 1) := by decide +kernel
theorem dX8_reads_47 : decode cX8_reads 47 = .ok (.iload_n 2, 1) := by decide +kernel
theorem dX8_reads_48 : decode cX8_reads 48 = .ok (.iload 7, 2) := by decide +kernel
theorem dX8_reads_50 : decode cX8_reads 50 = .ok (.ifCond .ge 8, 3) := by decide +kernel
theorem dX8_reads_53 : decode cX8_reads 53 = .ok (.bipush 6, 2) := by decide +kernel
theorem dX8_reads_55 : decode cX8_reads 55 = .ok (.goto 5, 3) := by decide +kernel
theorem dX8_reads_58 : decode cX8_reads 58 = .ok (.bipush 7, 2) := by decide +kernel
theorem dX8_reads_60 : decode cX8_reads 60 = .ok (.invokevirtual 192, 3) := by decide +kernel
theorem dX8_reads_63 : decode cX8_reads 63 = .ok (.iconst 0, 1) := by decide +kernel
theorem dX8_reads_64 : decode cX8_reads 64 = .ok (.ireturn, 1) := by decide +kernel
theorem dX8_reads_65 : decode cX8_reads 65 = .ok (.aload_n 0, 1) := by decide +kernel
theorem dX8_reads_66 : decode cX8_reads 66 = .ok (.getfield 23, 3) := by decide +kernel
theorem dX8_reads_69 : decode cX8_reads 69 = .ok (.bipush 12, 2) := by decide +kernel
theorem dX8_reads_71 : decode cX8_reads 71 = .ok (.iload_n 2, 1) := by decide +kernel
theorem dX8_reads_72 : decode cX8_reads 72 = .ok (.iconst 1, 1) := by decide +kernel
theorem dX8_reads_73 : decode cX8_reads 73 = .ok (.isub, 1) := by decide +kernel
theorem dX8_reads_74 : decode cX8_reads 74 = .ok (.imul, 1) := by decide +kernel
theorem dX8_reads_75 : decode cX8_reads 75 = .ok (.iload_n 1, 1) := by decide +kernel
theorem dX8_reads_76 : decode cX8_reads 76 = .ok (.iadd, 1) := by decide +kernel
theorem dX8_reads_77 : decode cX8_reads 77 = .ok (.iload 6, 2) := by decide +kernel
theorem dX8_reads_79 : decode cX8_reads 79 = .ok (.ifCond .eq 9, 3) := by decide +kernel
theorem dX8_reads_82 : decode cX8_reads 82 = .ok (.iload 7, 2) := by decide +kernel
theorem dX8_reads_84 : decode cX8_reads 84 = .ok (.ineg, 1) := by decide +kernel
theorem dX8_reads_85 : decode cX8_reads 85 = .ok (.goto 5, 3) := by decide +kernel
theorem dX8_reads_88 : decode cX8_reads 88 = .ok (.iload 7, 2) := by decide +kernel
theorem dX8_reads_90 : decode cX8_reads 90 = .ok (.iastore, 1) := by decide +kernel
theorem dX8_reads_91 : decode cX8_reads 91 = .ok (.iconst 1, 1) := by decide +kernel
theorem dX8_reads_92 : decode cX8_reads 92 = .ok (.ireturn, 1) := by decide +kernel
set_option maxRecDepth 20000 in
theorem ggX8_expects_X8_has : GoodIn wsX8_expects wsX8_has := goodIn_r _ [5, 6, 7, 8, 15, 16, 17, 18, 19, 20, 21, 22, 23, 24, 25, 26, 27, 28, 29, 30, 31, 32, 33, 34, 35, 36, 37, 38] (by decide +kernel) (by decide +kernel)
set_option maxRecDepth 20000 in
theorem gX8_expects_X8_has : GoodIn wsX8_expects (wsV RX8 185 RX8 yX8_has wsX8_has) := goodIn_app (goodIn_of _ (by decide +kernel)) ggX8_expects_X8_has
set_option maxRecDepth 20000 in
theorem ggX8_expects_X8_blames : GoodIn wsX8_expects wsX8_blames := goodIn_r _ [12, 13, 14, 15, 16, 17, 18, 19, 20, 21, 22, 23, 24, 25, 26, 27, 28, 29, 30, 31, 32, 33, 34, 35, 36, 37, 38] (by decide +kernel) (by decide +kernel)
set_option maxRecDepth 20000 in
theorem gX8_expects_X8_blames : GoodIn wsX8_expects (wsV RX8 192 RX8 yX8_blames wsX8_blames) := goodIn_app (goodIn_of _ (by decide +kernel)) ggX8_expects_X8_blames
theorem dX8_expects_0 : decode cX8_expects 0 = .ok (.aload_n 0, 1) := by decide +kernel
theorem dX8_expects_1 : decode cX8_expects 1 = .ok (.iload_n 2, 1) := by decide +kernel
theorem dX8_expects_2 : decode cX8_expects 2 = .ok (.invokevirtual 185, 3) := by decide +kernel
theorem dX8_expects_5 : decode cX8_expects 5 = .ok (.ifCond .ne 12, 3) := by decide +kernel
theorem dX8_expects_8 : decode cX8_expects 8 = .ok (.aload_n 0, 1) := by decide +kernel
theorem dX8_expects_9 : decode cX8_expects 9 = .ok (.iload_n 1, 1) := by decide +kernel
theorem dX8_expects_10 : decode cX8_expects 10 = .ok (.iconst 4, 1) := by decide +kernel
theorem dX8_expects_11 : decode cX8_expects 11 = .ok (.iconst 0, 1) := by decide +kernel
theorem dX8_expects_12 : decode cX8_expects 12 = .ok (.invokevirtual 192, 3) := by decide +kernel
theorem dX8_expects_15 : decode cX8_expects 15 = .ok (.iconst 0, 1) := by decide +kernel
theorem dX8_expects_16 : decode cX8_expects 16 = .ok (.ireturn, 1) := by decide +kernel
theorem dX8_expects_17 : decode cX8_expects 17 = .ok (.iconst 1, 1) := by decide +kernel
theorem dX8_expects_18 : decode cX8_expects 18 = .ok (.ireturn, 1) := by decide +kernel
set_option maxRecDepth 20000 in
theorem ggX8_readsPoint_X8_blames : GoodIn wsX8_readsPoint wsX8_blames := goodIn_r _ [6, 7, 8, 31, 32, 33, 34, 35, 36, 37, 38, 39, 40, 41, 42, 43, 44, 45, 46, 47, 48, 49, 50, 51, 52, 53, 54] (by decide +kernel) (by decide +kernel)
set_option maxRecDepth 20000 in
theorem gX8_readsPoint_X8_blames : GoodIn wsX8_readsPoint (wsV RX8 192 RX8 yX8_blames wsX8_blames) := goodIn_app (goodIn_of _ (by decide +kernel)) ggX8_readsPoint_X8_blames
set_option maxRecDepth 20000 in
theorem ggX8_readsPoint_X8_reads : GoodIn wsX8_readsPoint wsX8_reads := goodIn_r _ [12, 1, 13, 14, 15, 5, 16, 17, 18, 19, 20, 21, 22, 23, 24, 25, 26, 2, 3, 4, 6, 7, 8, 31, 32, 33, 34, 35, 36, 37, 38, 39, 40, 41, 42, 43, 44, 45, 46, 47, 48, 49, 50, 51, 52, 53, 54] (by decide +kernel) (by decide +kernel)
set_option maxRecDepth 20000 in
theorem gX8_readsPoint_X8_reads : GoodIn wsX8_readsPoint (wsV RX8 195 RX8 yX8_reads wsX8_reads) := goodIn_app (goodIn_of _ (by decide +kernel)) ggX8_readsPoint_X8_reads
set_option maxRecDepth 20000 in
theorem ggX8_readsPoint_X8_expects : GoodIn wsX8_readsPoint wsX8_expects := goodIn_r _ [30, 13, 14, 15, 5, 16, 17, 18, 19, 2, 3, 4, 6, 7, 8, 31, 32, 33, 34, 35, 36, 37, 38, 39, 40, 41, 42, 43, 44, 45, 46, 47, 48, 49, 50, 51, 52, 53, 54] (by decide +kernel) (by decide +kernel)
set_option maxRecDepth 20000 in
theorem gX8_readsPoint_X8_expects : GoodIn wsX8_readsPoint (wsV RX8 199 RX8 yX8_expects wsX8_expects) := goodIn_app (goodIn_of _ (by decide +kernel)) ggX8_readsPoint_X8_expects
set_option maxRecDepth 20000 in
theorem ggX8_readsPoint_X8_has : GoodIn wsX8_readsPoint wsX8_has := goodIn_r _ [16, 17, 18, 19, 31, 32, 33, 34, 35, 36, 37, 38, 39, 40, 41, 42, 43, 44, 45, 46, 47, 48, 49, 50, 51, 52, 53, 54] (by decide +kernel) (by decide +kernel)
set_option maxRecDepth 20000 in
theorem gX8_readsPoint_X8_has : GoodIn wsX8_readsPoint (wsV RX8 185 RX8 yX8_has wsX8_has) := goodIn_app (goodIn_of _ (by decide +kernel)) ggX8_readsPoint_X8_has
theorem dX8_readsPoint_0 : decode cX8_readsPoint 0 = .ok (.iload_n 1, 1) := by decide +kernel
theorem dX8_readsPoint_1 : decode cX8_readsPoint 1 = .ok (.bipush 12, 2) := by decide +kernel
theorem dX8_readsPoint_3 : decode cX8_readsPoint 3 = .ok (.if_icmp .ne 12, 3) := by decide +kernel
theorem dX8_readsPoint_6 : decode cX8_readsPoint 6 = .ok (.aload_n 0, 1) := by decide +kernel
theorem dX8_readsPoint_7 : decode cX8_readsPoint 7 = .ok (.iload_n 1, 1) := by decide +kernel
theorem dX8_readsPoint_8 : decode cX8_readsPoint 8 = .ok (.iconst 5, 1) := by decide +kernel
theorem dX8_readsPoint_9 : decode cX8_readsPoint 9 = .ok (.iconst 0, 1) := by decide +kernel
theorem dX8_readsPoint_10 : decode cX8_readsPoint 10 = .ok (.invokevirtual 192, 3) := by decide +kernel
theorem dX8_readsPoint_13 : decode cX8_readsPoint 13 = .ok (.iconst 0, 1) := by decide +kernel
theorem dX8_readsPoint_14 : decode cX8_readsPoint 14 = .ok (.ireturn, 1) := by decide +kernel
theorem dX8_readsPoint_15 : decode cX8_readsPoint 15 = .ok (.aload_n 0, 1) := by decide +kernel
theorem dX8_readsPoint_16 : decode cX8_readsPoint 16 = .ok (.getfield 23, 3) := by decide +kernel
theorem dX8_readsPoint_19 : decode cX8_readsPoint 19 = .ok (.bipush 24, 2) := by decide +kernel
theorem dX8_readsPoint_21 : decode cX8_readsPoint 21 = .ok (.iload_n 1, 1) := by decide +kernel
theorem dX8_readsPoint_22 : decode cX8_readsPoint 22 = .ok (.iadd, 1) := by decide +kernel
theorem dX8_readsPoint_23 : decode cX8_readsPoint 23 = .ok (.iconst 1, 1) := by decide +kernel
theorem dX8_readsPoint_24 : decode cX8_readsPoint 24 = .ok (.iastore, 1) := by decide +kernel
theorem dX8_readsPoint_25 : decode cX8_readsPoint 25 = .ok (.aload_n 0, 1) := by decide +kernel
theorem dX8_readsPoint_26 : decode cX8_readsPoint 26 = .ok (.iload_n 1, 1) := by decide +kernel
theorem dX8_readsPoint_27 : decode cX8_readsPoint 27 = .ok (.iconst 1, 1) := by decide +kernel
theorem dX8_readsPoint_28 : decode cX8_readsPoint 28 = .ok (.iconst 2, 1) := by decide +kernel
theorem dX8_readsPoint_29 : decode cX8_readsPoint 29 = .ok (.iconst 0, 1) := by decide +kernel
theorem dX8_readsPoint_30 : decode cX8_readsPoint 30 = .ok (.bipush 40, 2) := by decide +kernel
theorem dX8_readsPoint_32 : decode cX8_readsPoint 32 = .ok (.invokevirtual 195, 3) := by decide +kernel
theorem dX8_readsPoint_35 : decode cX8_readsPoint 35 = .ok (.ifCond .eq 26, 3) := by decide +kernel
theorem dX8_readsPoint_38 : decode cX8_readsPoint 38 = .ok (.aload_n 0, 1) := by decide +kernel
theorem dX8_readsPoint_39 : decode cX8_readsPoint 39 = .ok (.iload_n 1, 1) := by decide +kernel
theorem dX8_readsPoint_40 : decode cX8_readsPoint 40 = .ok (.bipush 58, 2) := by decide +kernel
theorem dX8_readsPoint_42 : decode cX8_readsPoint 42 = .ok (.invokevirtual 199, 3) := by decide +kernel
theorem dX8_readsPoint_45 : decode cX8_readsPoint 45 = .ok (.ifCond .eq 16, 3) := by decide +kernel
theorem dX8_readsPoint_48 : decode cX8_readsPoint 48 = .ok (.aload_n 0, 1) := by decide +kernel
theorem dX8_readsPoint_49 : decode cX8_readsPoint 49 = .ok (.iload_n 1, 1) := by decide +kernel
theorem dX8_readsPoint_50 : decode cX8_readsPoint 50 = .ok (.iconst 2, 1) := by decide +kernel
theorem dX8_readsPoint_51 : decode cX8_readsPoint 51 = .ok (.iconst 2, 1) := by decide +kernel
theorem dX8_readsPoint_52 : decode cX8_readsPoint 52 = .ok (.iconst 0, 1) := by decide +kernel
theorem dX8_readsPoint_53 : decode cX8_readsPoint 53 = .ok (.bipush 99, 2) := by decide +kernel
theorem dX8_readsPoint_55 : decode cX8_readsPoint 55 = .ok (.invokevirtual 195, 3) := by decide +kernel
theorem dX8_readsPoint_58 : decode cX8_readsPoint 58 = .ok (.ifCond .ne 5, 3) := by decide +kernel
theorem dX8_readsPoint_61 : decode cX8_readsPoint 61 = .ok (.iconst 0, 1) := by decide +kernel
theorem dX8_readsPoint_62 : decode cX8_readsPoint 62 = .ok (.ireturn, 1) := by decide +kernel
theorem dX8_readsPoint_63 : decode cX8_readsPoint 63 = .ok (.aload_n 0, 1) := by decide +kernel
theorem dX8_readsPoint_64 : decode cX8_readsPoint 64 = .ok (.bipush 42, 2) := by decide +kernel
theorem dX8_readsPoint_66 : decode cX8_readsPoint 66 = .ok (.invokevirtual 185, 3) := by decide +kernel
theorem dX8_readsPoint_69 : decode cX8_readsPoint 69 = .ok (.ifCond .eq 15, 3) := by decide +kernel
theorem dX8_readsPoint_72 : decode cX8_readsPoint 72 = .ok (.aload_n 0, 1) := by decide +kernel
theorem dX8_readsPoint_73 : decode cX8_readsPoint 73 = .ok (.iload_n 1, 1) := by decide +kernel
theorem dX8_readsPoint_74 : decode cX8_readsPoint 74 = .ok (.iconst 3, 1) := by decide +kernel
theorem dX8_readsPoint_75 : decode cX8_readsPoint 75 = .ok (.iconst 1, 1) := by decide +kernel
theorem dX8_readsPoint_76 : decode cX8_readsPoint 76 = .ok (.iconst 1, 1) := by decide +kernel
theorem dX8_readsPoint_77 : decode cX8_readsPoint 77 = .ok (.iconst 2, 1) := by decide +kernel
theorem dX8_readsPoint_78 : decode cX8_readsPoint 78 = .ok (.invokevirtual 195, 3) := by decide +kernel
theorem dX8_readsPoint_81 : decode cX8_readsPoint 81 = .ok (.ifCond .eq 17, 3) := by decide +kernel
theorem dX8_readsPoint_84 : decode cX8_readsPoint 84 = .ok (.aload_n 0, 1) := by decide +kernel
theorem dX8_readsPoint_85 : decode cX8_readsPoint 85 = .ok (.iload_n 1, 1) := by decide +kernel
theorem dX8_readsPoint_86 : decode cX8_readsPoint 86 = .ok (.bipush 59, 2) := by decide +kernel
theorem dX8_readsPoint_88 : decode cX8_readsPoint 88 = .ok (.invokevirtual 199, 3) := by decide +kernel
theorem dX8_readsPoint_91 : decode cX8_readsPoint 91 = .ok (.ifCond .eq 7, 3) := by decide +kernel
theorem dX8_readsPoint_94 : decode cX8_readsPoint 94 = .ok (.iconst 1, 1) := by decide +kernel
theorem dX8_readsPoint_95 : decode cX8_readsPoint 95 = .ok (.goto 4, 3) := by decide +kernel
theorem dX8_readsPoint_98 : decode cX8_readsPoint 98 = .ok (.iconst 0, 1) := by decide +kernel
theorem dX8_readsPoint_99 : decode cX8_readsPoint 99 = .ok (.ireturn, 1) := by decide +kernel
set_option maxRecDepth 20000 in
theorem ggX8_fault_X8_readsPoint : GoodIn wsX8_fault wsX8_readsPoint := goodIn_r _ [10, 11, 12, 13, 14, 9, 15, 16, 1, 17, 18, 19, 20, 21, 22, 23, 24, 2, 4, 25, 26, 27, 28, 29, 30, 31, 32, 33, 34, 35, 36, 37, 38, 39, 40, 41, 42, 43, 44, 45, 46, 47, 48, 49, 50, 51, 52, 53, 54, 55, 56, 57, 58, 59, 60] (by decide +kernel) (by decide +kernel)
set_option maxRecDepth 20000 in
theorem gX8_fault_X8_readsPoint : GoodIn wsX8_fault (wsV RX8 206 RX8 yX8_readsPoint wsX8_readsPoint) := goodIn_app (goodIn_of _ (by decide +kernel)) ggX8_fault_X8_readsPoint
theorem dX8_fault_0 : decode cX8_fault 0 = .ok (.aload_n 0, 1) := by decide +kernel
theorem dX8_fault_1 : decode cX8_fault 1 = .ok (.iconst 0, 1) := by decide +kernel
theorem dX8_fault_2 : decode cX8_fault 2 = .ok (.putfield 182, 3) := by decide +kernel
theorem dX8_fault_5 : decode cX8_fault 5 = .ok (.aload_n 0, 1) := by decide +kernel
theorem dX8_fault_6 : decode cX8_fault 6 = .ok (.iconst 0, 1) := by decide +kernel
theorem dX8_fault_7 : decode cX8_fault 7 = .ok (.putfield 179, 3) := by decide +kernel
theorem dX8_fault_10 : decode cX8_fault 10 = .ok (.aload_n 0, 1) := by decide +kernel
theorem dX8_fault_11 : decode cX8_fault 11 = .ok (.iconst 0, 1) := by decide +kernel
theorem dX8_fault_12 : decode cX8_fault 12 = .ok (.putfield 203, 3) := by decide +kernel
theorem dX8_fault_15 : decode cX8_fault 15 = .ok (.aload_n 0, 1) := by decide +kernel
theorem dX8_fault_16 : decode cX8_fault 16 = .ok (.getfield 179, 3) := by decide +kernel
theorem dX8_fault_19 : decode cX8_fault 19 = .ok (.aload_n 0, 1) := by decide +kernel
theorem dX8_fault_20 : decode cX8_fault 20 = .ok (.getfield 176, 3) := by decide +kernel
theorem dX8_fault_23 : decode cX8_fault 23 = .ok (.if_icmp .ge 34, 3) := by decide +kernel
theorem dX8_fault_26 : decode cX8_fault 26 = .ok (.aload_n 0, 1) := by decide +kernel
theorem dX8_fault_27 : decode cX8_fault 27 = .ok (.getfield 179, 3) := by decide +kernel
theorem dX8_fault_30 : decode cX8_fault 30 = .ok (.istore_n 1, 1) := by decide +kernel
theorem dX8_fault_31 : decode cX8_fault 31 = .ok (.aload_n 0, 1) := by decide +kernel
theorem dX8_fault_32 : decode cX8_fault 32 = .ok (.aload_n 0, 1) := by decide +kernel
theorem dX8_fault_33 : decode cX8_fault 33 = .ok (.getfield 203, 3) := by decide +kernel
theorem dX8_fault_36 : decode cX8_fault 36 = .ok (.invokevirtual 206, 3) := by decide +kernel
theorem dX8_fault_39 : decode cX8_fault 39 = .ok (.ifCond .ne 5, 3) := by decide +kernel
theorem dX8_fault_42 : decode cX8_fault 42 = .ok (.iload_n 1, 1) := by decide +kernel
theorem dX8_fault_43 : decode cX8_fault 43 = .ok (.ireturn, 1) := by decide +kernel
theorem dX8_fault_44 : decode cX8_fault 44 = .ok (.aload_n 0, 1) := by decide +kernel
theorem dX8_fault_45 : decode cX8_fault 45 = .ok (.dup, 1) := by decide +kernel
theorem dX8_fault_46 : decode cX8_fault 46 = .ok (.getfield 203, 3) := by decide +kernel
theorem dX8_fault_49 : decode cX8_fault 49 = .ok (.iconst 1, 1) := by decide +kernel
theorem dX8_fault_50 : decode cX8_fault 50 = .ok (.iadd, 1) := by decide +kernel
theorem dX8_fault_51 : decode cX8_fault 51 = .ok (.putfield 203, 3) := by decide +kernel
theorem dX8_fault_54 : decode cX8_fault 54 = .ok (.goto (-39), 3) := by decide +kernel
theorem dX8_fault_57 : decode cX8_fault 57 = .ok (.ldc 159, 2) := by decide +kernel
theorem dX8_fault_59 : decode cX8_fault 59 = .ok (.ireturn, 1) := by decide +kernel
set_option maxRecDepth 20000 in
theorem ggX8_lay_X8_fault : GoodIn wsX8_lay wsX8_fault := goodIn_r _ [10, 11, 12, 4, 13, 1, 14, 15, 16, 9, 17, 5, 18, 19, 20, 21, 22, 23, 24, 25, 26, 27, 28, 29, 30, 31, 32, 33, 34, 35, 36, 37, 38, 39, 40, 41, 42, 49, 50, 51, 52, 53, 54, 55, 56, 57, 58, 59, 60, 61, 62, 63, 64, 65, 66, 67, 68, 69, 70, 71, 72] (by decide +kernel) (by decide +kernel)
set_option maxRecDepth 20000 in
theorem gX8_lay_X8_fault : GoodIn wsX8_lay (wsV RX8 209 RX8 yX8_fault wsX8_fault) := goodIn_app (goodIn_of _ (by decide +kernel)) ggX8_lay_X8_fault
set_option maxRecDepth 20000 in
theorem ggX8_lay_X8_records : GoodIn wsX8_lay wsX8_records := goodIn_r _ [46, 47, 48, 3, 49, 50, 51, 52, 53, 54, 55, 56, 57, 58, 59, 60, 61, 62, 63, 64, 65, 66, 67, 68, 69, 70, 71, 72] (by decide +kernel) (by decide +kernel)
set_option maxRecDepth 20000 in
theorem gX8_lay_X8_records : GoodIn wsX8_lay (wsV RX8 64 RX8 yX8_records wsX8_records) := goodIn_app (goodIn_of _ (by decide +kernel)) ggX8_lay_X8_records
theorem dX8_lay_0 : decode cX8_lay 0 = .ok (.aload_n 0, 1) := by decide +kernel
theorem dX8_lay_1 : decode cX8_lay 1 = .ok (.invokevirtual 209, 3) := by decide +kernel
theorem dX8_lay_4 : decode cX8_lay 4 = .ok (.ldc 159, 2) := by decide +kernel
theorem dX8_lay_6 : decode cX8_lay 6 = .ok (.if_icmp .eq 6, 3) := by decide +kernel
theorem dX8_lay_9 : decode cX8_lay 9 = .ok (.ldc 71, 2) := by decide +kernel
theorem dX8_lay_11 : decode cX8_lay 11 = .ok (.ireturn, 1) := by decide +kernel
theorem dX8_lay_12 : decode cX8_lay 12 = .ok (.aload_n 0, 1) := by decide +kernel
theorem dX8_lay_13 : decode cX8_lay 13 = .ok (.invokevirtual 64, 3) := by decide +kernel
theorem dX8_lay_16 : decode cX8_lay 16 = .ok (.aload_n 0, 1) := by decide +kernel
theorem dX8_lay_17 : decode cX8_lay 17 = .ok (.getfield 7, 3) := by decide +kernel
theorem dX8_lay_20 : decode cX8_lay 20 = .ok (.iconst 0, 1) := by decide +kernel
theorem dX8_lay_21 : decode cX8_lay 21 = .ok (.aload_n 0, 1) := by decide +kernel
theorem dX8_lay_22 : decode cX8_lay 22 = .ok (.getfield 203, 3) := by decide +kernel
theorem dX8_lay_25 : decode cX8_lay 25 = .ok (.iastore, 1) := by decide +kernel
theorem dX8_lay_26 : decode cX8_lay 26 = .ok (.iconst 0, 1) := by decide +kernel
theorem dX8_lay_27 : decode cX8_lay 27 = .ok (.istore_n 1, 1) := by decide +kernel
theorem dX8_lay_28 : decode cX8_lay 28 = .ok (.iload_n 1, 1) := by decide +kernel
theorem dX8_lay_29 : decode cX8_lay 29 = .ok (.bipush 36, 2) := by decide +kernel
theorem dX8_lay_31 : decode cX8_lay 31 = .ok (.if_icmp .ge 23, 3) := by decide +kernel
theorem dX8_lay_34 : decode cX8_lay 34 = .ok (.aload_n 0, 1) := by decide +kernel
theorem dX8_lay_35 : decode cX8_lay 35 = .ok (.getfield 7, 3) := by decide +kernel
theorem dX8_lay_38 : decode cX8_lay 38 = .ok (.iconst 1, 1) := by decide +kernel
theorem dX8_lay_39 : decode cX8_lay 39 = .ok (.iload_n 1, 1) := by decide +kernel
theorem dX8_lay_40 : decode cX8_lay 40 = .ok (.iadd, 1) := by decide +kernel
theorem dX8_lay_41 : decode cX8_lay 41 = .ok (.aload_n 0, 1) := by decide +kernel
theorem dX8_lay_42 : decode cX8_lay 42 = .ok (.getfield 23, 3) := by decide +kernel
theorem dX8_lay_45 : decode cX8_lay 45 = .ok (.iload_n 1, 1) := by decide +kernel
theorem dX8_lay_46 : decode cX8_lay 46 = .ok (.iaload, 1) := by decide +kernel
theorem dX8_lay_47 : decode cX8_lay 47 = .ok (.iastore, 1) := by decide +kernel
theorem dX8_lay_48 : decode cX8_lay 48 = .ok (.iinc 1 1, 3) := by decide +kernel
theorem dX8_lay_51 : decode cX8_lay 51 = .ok (.goto (-23), 3) := by decide +kernel
theorem dX8_lay_54 : decode cX8_lay 54 = .ok (.aload_n 0, 1) := by decide +kernel
theorem dX8_lay_55 : decode cX8_lay 55 = .ok (.getfield 7, 3) := by decide +kernel
theorem dX8_lay_58 : decode cX8_lay 58 = .ok (.iconst 0, 1) := by decide +kernel
theorem dX8_lay_59 : decode cX8_lay 59 = .ok (.iaload, 1) := by decide +kernel
theorem dX8_lay_60 : decode cX8_lay 60 = .ok (.ireturn, 1) := by decide +kernel
theorem dX8_reason_0 : decode cX8_reason 0 = .ok (.iload_n 1, 1) := by decide +kernel
theorem dX8_reason_1 : decode cX8_reason 1 = .ok (.ifCond .ge 8, 3) := by decide +kernel
theorem dX8_reason_4 : decode cX8_reason 4 = .ok (.ldc 62, 2) := by decide +kernel
theorem dX8_reason_6 : decode cX8_reason 6 = .ok (.goto 22, 3) := by decide +kernel
theorem dX8_reason_9 : decode cX8_reason 9 = .ok (.iload_n 1, 1) := by decide +kernel
theorem dX8_reason_10 : decode cX8_reason 10 = .ok (.aload_n 0, 1) := by decide +kernel
theorem dX8_reason_11 : decode cX8_reason 11 = .ok (.getfield 182, 3) := by decide +kernel
theorem dX8_reason_14 : decode cX8_reason 14 = .ok (.if_icmp .ge 12, 3) := by decide +kernel
theorem dX8_reason_17 : decode cX8_reason 17 = .ok (.aload_n 0, 1) := by decide +kernel
theorem dX8_reason_18 : decode cX8_reason 18 = .ok (.getfield 20, 3) := by decide +kernel
theorem dX8_reason_21 : decode cX8_reason 21 = .ok (.iload_n 1, 1) := by decide +kernel
theorem dX8_reason_22 : decode cX8_reason 22 = .ok (.iaload, 1) := by decide +kernel
theorem dX8_reason_23 : decode cX8_reason 23 = .ok (.goto 5, 3) := by decide +kernel
theorem dX8_reason_26 : decode cX8_reason 26 = .ok (.ldc 159, 2) := by decide +kernel
theorem dX8_reason_28 : decode cX8_reason 28 = .ok (.ireturn, 1) := by decide +kernel
