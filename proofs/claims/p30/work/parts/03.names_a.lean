theorem dX0_init_0 : decode cX0_init 0 = .ok (.aload_n 0, 1) := by decide +kernel
theorem dX0_init_1 : decode cX0_init 1 = .ok (.invokespecial 3, 3) := by decide +kernel
theorem dX0_init_4 : decode cX0_init 4 = .ok (.aload_n 0, 1) := by decide +kernel
theorem dX0_init_5 : decode cX0_init 5 = .ok (.bipush 12, 2) := by decide +kernel
theorem dX0_init_7 : decode cX0_init 7 = .ok (.newarray .int, 2) := by decide +kernel
theorem dX0_init_9 : decode cX0_init 9 = .ok (.putfield 9, 3) := by decide +kernel
theorem dX0_init_12 : decode cX0_init 12 = .ok (.aload_n 0, 1) := by decide +kernel
theorem dX0_init_13 : decode cX0_init 13 = .ok (.aload_n 1, 1) := by decide +kernel
theorem dX0_init_14 : decode cX0_init 14 = .ok (.putfield 15, 3) := by decide +kernel
theorem dX0_init_17 : decode cX0_init 17 = .ok (.return_, 1) := by decide +kernel
theorem dX0_size_0 : decode cX0_size 0 = .ok (.aload_n 0, 1) := by decide +kernel
theorem dX0_size_1 : decode cX0_size 1 = .ok (.getfield 19, 3) := by decide +kernel
theorem dX0_size_4 : decode cX0_size 4 = .ok (.ireturn, 1) := by decide +kernel
theorem dX0_firstOf_0 : decode cX0_firstOf 0 = .ok (.iload_n 1, 1) := by decide +kernel
theorem dX0_firstOf_1 : decode cX0_firstOf 1 = .ok (.ifCond .lt 20, 3) := by decide +kernel
theorem dX0_firstOf_4 : decode cX0_firstOf 4 = .ok (.iload_n 1, 1) := by decide +kernel
theorem dX0_firstOf_5 : decode cX0_firstOf 5 = .ok (.aload_n 0, 1) := by decide +kernel
theorem dX0_firstOf_6 : decode cX0_firstOf 6 = .ok (.getfield 19, 3) := by decide +kernel
theorem dX0_firstOf_9 : decode cX0_firstOf 9 = .ok (.if_icmp .ge 12, 3) := by decide +kernel
theorem dX0_firstOf_12 : decode cX0_firstOf 12 = .ok (.aload_n 0, 1) := by decide +kernel
theorem dX0_firstOf_13 : decode cX0_firstOf 13 = .ok (.getfield 9, 3) := by decide +kernel
theorem dX0_firstOf_16 : decode cX0_firstOf 16 = .ok (.iload_n 1, 1) := by decide +kernel
theorem dX0_firstOf_17 : decode cX0_firstOf 17 = .ok (.iaload, 1) := by decide +kernel
theorem dX0_firstOf_18 : decode cX0_firstOf 18 = .ok (.goto 4, 3) := by decide +kernel
theorem dX0_firstOf_21 : decode cX0_firstOf 21 = .ok (.iconst (-1), 1) := by decide +kernel
theorem dX0_firstOf_22 : decode cX0_firstOf 22 = .ok (.ireturn, 1) := by decide +kernel
set_option maxRecDepth 20000 in
theorem ggX0_lastOf_X1_size : GoodIn wsX0_lastOf wsX1_size := goodIn_r _ [8, 9, 15, 16, 17, 18, 19, 20] (by decide +kernel) (by decide +kernel)
set_option maxRecDepth 20000 in
theorem gX0_lastOf_X1_size : GoodIn wsX0_lastOf (wsV RX0 23 RX1 yX1_size wsX1_size) := goodIn_app (goodIn_of _ (by decide +kernel)) ggX0_lastOf_X1_size
theorem dX0_lastOf_0 : decode cX0_lastOf 0 = .ok (.iload_n 1, 1) := by decide +kernel
theorem dX0_lastOf_1 : decode cX0_lastOf 1 = .ok (.ifCond .lt 26, 3) := by decide +kernel
theorem dX0_lastOf_4 : decode cX0_lastOf 4 = .ok (.iload_n 1, 1) := by decide +kernel
theorem dX0_lastOf_5 : decode cX0_lastOf 5 = .ok (.aload_n 0, 1) := by decide +kernel
theorem dX0_lastOf_6 : decode cX0_lastOf 6 = .ok (.getfield 19, 3) := by decide +kernel
theorem dX0_lastOf_9 : decode cX0_lastOf 9 = .ok (.iconst 1, 1) := by decide +kernel
theorem dX0_lastOf_10 : decode cX0_lastOf 10 = .ok (.isub, 1) := by decide +kernel
theorem dX0_lastOf_11 : decode cX0_lastOf 11 = .ok (.if_icmp .ge 16, 3) := by decide +kernel
theorem dX0_lastOf_14 : decode cX0_lastOf 14 = .ok (.aload_n 0, 1) := by decide +kernel
theorem dX0_lastOf_15 : decode cX0_lastOf 15 = .ok (.getfield 9, 3) := by decide +kernel
theorem dX0_lastOf_18 : decode cX0_lastOf 18 = .ok (.iload_n 1, 1) := by decide +kernel
theorem dX0_lastOf_19 : decode cX0_lastOf 19 = .ok (.iconst 1, 1) := by decide +kernel
theorem dX0_lastOf_20 : decode cX0_lastOf 20 = .ok (.iadd, 1) := by decide +kernel
theorem dX0_lastOf_21 : decode cX0_lastOf 21 = .ok (.iaload, 1) := by decide +kernel
theorem dX0_lastOf_22 : decode cX0_lastOf 22 = .ok (.iconst 1, 1) := by decide +kernel
theorem dX0_lastOf_23 : decode cX0_lastOf 23 = .ok (.isub, 1) := by decide +kernel
theorem dX0_lastOf_24 : decode cX0_lastOf 24 = .ok (.goto 12, 3) := by decide +kernel
theorem dX0_lastOf_27 : decode cX0_lastOf 27 = .ok (.aload_n 0, 1) := by decide +kernel
theorem dX0_lastOf_28 : decode cX0_lastOf 28 = .ok (.getfield 15, 3) := by decide +kernel
theorem dX0_lastOf_31 : decode cX0_lastOf 31 = .ok (.invokevirtual 23, 3) := by decide +kernel
theorem dX0_lastOf_34 : decode cX0_lastOf 34 = .ok (.iconst 1, 1) := by decide +kernel
theorem dX0_lastOf_35 : decode cX0_lastOf 35 = .ok (.isub, 1) := by decide +kernel
theorem dX0_lastOf_36 : decode cX0_lastOf 36 = .ok (.ireturn, 1) := by decide +kernel
theorem dX0_blockWith_0 : decode cX0_blockWith 0 = .ok (.iconst 0, 1) := by decide +kernel
theorem dX0_blockWith_1 : decode cX0_blockWith 1 = .ok (.istore_n 2, 1) := by decide +kernel
theorem dX0_blockWith_2 : decode cX0_blockWith 2 = .ok (.iconst 1, 1) := by decide +kernel
theorem dX0_blockWith_3 : decode cX0_blockWith 3 = .ok (.istore_n 3, 1) := by decide +kernel
theorem dX0_blockWith_4 : decode cX0_blockWith 4 = .ok (.iload_n 3, 1) := by decide +kernel
theorem dX0_blockWith_5 : decode cX0_blockWith 5 = .ok (.aload_n 0, 1) := by decide +kernel
theorem dX0_blockWith_6 : decode cX0_blockWith 6 = .ok (.getfield 19, 3) := by decide +kernel
theorem dX0_blockWith_9 : decode cX0_blockWith 9 = .ok (.if_icmp .ge 21, 3) := by decide +kernel
theorem dX0_blockWith_12 : decode cX0_blockWith 12 = .ok (.aload_n 0, 1) := by decide +kernel
theorem dX0_blockWith_13 : decode cX0_blockWith 13 = .ok (.getfield 9, 3) := by decide +kernel
theorem dX0_blockWith_16 : decode cX0_blockWith 16 = .ok (.iload_n 3, 1) := by decide +kernel
theorem dX0_blockWith_17 : decode cX0_blockWith 17 = .ok (.iaload, 1) := by decide +kernel
theorem dX0_blockWith_18 : decode cX0_blockWith 18 = .ok (.iload_n 1, 1) := by decide +kernel
theorem dX0_blockWith_19 : decode cX0_blockWith 19 = .ok (.if_icmp .gt 5, 3) := by decide +kernel
theorem dX0_blockWith_22 : decode cX0_blockWith 22 = .ok (.iload_n 3, 1) := by decide +kernel
theorem dX0_blockWith_23 : decode cX0_blockWith 23 = .ok (.istore_n 2, 1) := by decide +kernel
theorem dX0_blockWith_24 : decode cX0_blockWith 24 = .ok (.iinc 3 1, 3) := by decide +kernel
theorem dX0_blockWith_27 : decode cX0_blockWith 27 = .ok (.goto (-23), 3) := by decide +kernel
theorem dX0_blockWith_30 : decode cX0_blockWith 30 = .ok (.iload_n 2, 1) := by decide +kernel
theorem dX0_blockWith_31 : decode cX0_blockWith 31 = .ok (.ireturn, 1) := by decide +kernel
set_option maxRecDepth 20000 in
theorem ggX0_commonError_X1_errorOfZero : GoodIn wsX0_commonError wsX1_errorOfZero := goodIn_r _ [7, 8, 9, 44, 45, 46, 47, 48, 49] (by decide +kernel) (by decide +kernel)
set_option maxRecDepth 20000 in
theorem gX0_commonError_X1_errorOfZero : GoodIn wsX0_commonError (wsV RX0 29 RX1 yX1_errorOfZero wsX1_errorOfZero) := goodIn_app (goodIn_of _ (by decide +kernel)) ggX0_commonError_X1_errorOfZero
set_option maxRecDepth 20000 in
theorem ggX0_commonError_X0_firstOf : GoodIn wsX0_commonError wsX0_firstOf := goodIn_r _ [14, 2, 15, 39, 40, 41, 42, 43] (by decide +kernel) (by decide +kernel)
set_option maxRecDepth 20000 in
theorem gX0_commonError_X0_firstOf : GoodIn wsX0_commonError (wsV RX0 33 RX0 yX0_firstOf wsX0_firstOf) := goodIn_app (goodIn_of _ (by decide +kernel)) ggX0_commonError_X0_firstOf
set_option maxRecDepth 20000 in
theorem ggX0_commonError_X0_lastOf : GoodIn wsX0_commonError wsX0_lastOf := goodIn_r _ [19, 2, 15, 1, 20, 21, 22, 6, 23, 24, 39, 40, 41, 42, 43, 44, 45, 46, 47, 48, 49] (by decide +kernel) (by decide +kernel)
set_option maxRecDepth 20000 in
theorem gX0_commonError_X0_lastOf : GoodIn wsX0_commonError (wsV RX0 37 RX0 yX0_lastOf wsX0_lastOf) := goodIn_app (goodIn_of _ (by decide +kernel)) ggX0_commonError_X0_lastOf
set_option maxRecDepth 20000 in
theorem ggX0_commonError_X1_gainOf : GoodIn wsX0_commonError wsX1_gainOf := goodIn_r _ [28, 8, 29, 30, 31, 6, 32, 24, 33, 34, 35, 36, 37, 38, 44, 45, 46, 47, 48, 49] (by decide +kernel) (by decide +kernel)
set_option maxRecDepth 20000 in
theorem gX0_commonError_X1_gainOf : GoodIn wsX0_commonError (wsV RX0 40 RX1 yX1_gainOf wsX1_gainOf) := goodIn_app (goodIn_of _ (by decide +kernel)) ggX0_commonError_X1_gainOf
theorem dX0_commonError_0 : decode cX0_commonError 0 = .ok (.aload_n 0, 1) := by decide +kernel
theorem dX0_commonError_1 : decode cX0_commonError 1 = .ok (.getfield 15, 3) := by decide +kernel
theorem dX0_commonError_4 : decode cX0_commonError 4 = .ok (.invokevirtual 29, 3) := by decide +kernel
theorem dX0_commonError_7 : decode cX0_commonError 7 = .ok (.lstore_n 1, 1) := by decide +kernel
theorem dX0_commonError_8 : decode cX0_commonError 8 = .ok (.iconst 0, 1) := by decide +kernel
theorem dX0_commonError_9 : decode cX0_commonError 9 = .ok (.istore_n 3, 1) := by decide +kernel
theorem dX0_commonError_10 : decode cX0_commonError 10 = .ok (.iload_n 3, 1) := by decide +kernel
theorem dX0_commonError_11 : decode cX0_commonError 11 = .ok (.aload_n 0, 1) := by decide +kernel
theorem dX0_commonError_12 : decode cX0_commonError 12 = .ok (.getfield 19, 3) := by decide +kernel
theorem dX0_commonError_15 : decode cX0_commonError 15 = .ok (.if_icmp .ge 29, 3) := by decide +kernel
theorem dX0_commonError_18 : decode cX0_commonError 18 = .ok (.lload_n 1, 1) := by decide +kernel
theorem dX0_commonError_19 : decode cX0_commonError 19 = .ok (.aload_n 0, 1) := by decide +kernel
theorem dX0_commonError_20 : decode cX0_commonError 20 = .ok (.getfield 15, 3) := by decide +kernel
theorem dX0_commonError_23 : decode cX0_commonError 23 = .ok (.aload_n 0, 1) := by decide +kernel
theorem dX0_commonError_24 : decode cX0_commonError 24 = .ok (.iload_n 3, 1) := by decide +kernel
theorem dX0_commonError_25 : decode cX0_commonError 25 = .ok (.invokevirtual 33, 3) := by decide +kernel
theorem dX0_commonError_28 : decode cX0_commonError 28 = .ok (.aload_n 0, 1) := by decide +kernel
theorem dX0_commonError_29 : decode cX0_commonError 29 = .ok (.iload_n 3, 1) := by decide +kernel
theorem dX0_commonError_30 : decode cX0_commonError 30 = .ok (.invokevirtual 37, 3) := by decide +kernel
theorem dX0_commonError_33 : decode cX0_commonError 33 = .ok (.invokevirtual 40, 3) := by decide +kernel
theorem dX0_commonError_36 : decode cX0_commonError 36 = .ok (.lsub, 1) := by decide +kernel
theorem dX0_commonError_37 : decode cX0_commonError 37 = .ok (.lstore_n 1, 1) := by decide +kernel
theorem dX0_commonError_38 : decode cX0_commonError 38 = .ok (.iinc 3 1, 3) := by decide +kernel
theorem dX0_commonError_41 : decode cX0_commonError 41 = .ok (.goto (-31), 3) := by decide +kernel
theorem dX0_commonError_44 : decode cX0_commonError 44 = .ok (.lload_n 1, 1) := by decide +kernel
theorem dX0_commonError_45 : decode cX0_commonError 45 = .ok (.lreturn, 1) := by decide +kernel
set_option maxRecDepth 20000 in
theorem ggX0_shape_X1_size : GoodIn wsX0_shape wsX1_size := goodIn_r _ [7, 8, 74, 75, 76, 77, 78, 79] (by decide +kernel) (by decide +kernel)
set_option maxRecDepth 20000 in
theorem gX0_shape_X1_size : GoodIn wsX0_shape (wsV RX0 23 RX1 yX1_size wsX1_size) := goodIn_app (goodIn_of _ (by decide +kernel)) ggX0_shape_X1_size
set_option maxRecDepth 20000 in
theorem ggX0_shape_X0_bestTurn : GoodIn wsX0_shape wsX0_bestTurn := goodIn_r _ [13, 1, 3, 4, 5, 6, 7, 8, 14, 15, 16, 12, 17, 2, 18, 19, 20, 21, 22, 23, 24, 25, 26, 27, 28, 29, 30, 31, 32, 33, 34, 35, 36, 37, 38, 39, 40, 41, 42, 43, 44, 45, 46, 47, 48, 49, 50, 51, 52, 53, 54, 55, 56, 57, 58, 59, 60, 61, 62, 63, 64, 65, 66, 67, 68, 69, 70, 71, 72, 73, 74, 75, 76, 77, 78, 79] (by decide +kernel) (by decide +kernel)
set_option maxRecDepth 20000 in
theorem gX0_shape_X0_bestTurn : GoodIn wsX0_shape (wsV RX0 44 RX0 yX0_bestTurn wsX0_bestTurn) := goodIn_app (goodIn_of _ (by decide +kernel)) ggX0_shape_X0_bestTurn
set_option maxRecDepth 20000 in
theorem ggX0_shape_X0_shapeWithTurn : GoodIn wsX0_shape wsX0_shapeWithTurn := goodIn_r _ [17, 2, 18, 19, 1, 20, 21, 22, 12, 23, 3, 4, 5, 6, 7, 8, 24, 25, 26, 27, 28, 29, 30, 31, 32, 33, 34, 35, 36, 37, 38, 39, 40, 41, 42, 43, 44, 45, 46, 69, 70, 71, 72, 73, 74, 75, 76, 77, 78, 79] (by decide +kernel) (by decide +kernel)
set_option maxRecDepth 20000 in
theorem gX0_shape_X0_shapeWithTurn : GoodIn wsX0_shape (wsV RX0 47 RX0 yX0_shapeWithTurn wsX0_shapeWithTurn) := goodIn_app (goodIn_of _ (by decide +kernel)) ggX0_shape_X0_shapeWithTurn
set_option maxRecDepth 20000 in
theorem ggX0_shape_X0_pool : GoodIn wsX0_shape wsX0_pool := goodIn_r _ [41, 2, 1, 42, 24, 25, 26, 6, 27, 28, 29, 30, 31, 8, 32, 33, 34, 35, 36, 37, 43, 44, 45, 12, 46, 69, 70, 71, 72, 73, 74, 75, 76, 77, 78, 79] (by decide +kernel) (by decide +kernel)
set_option maxRecDepth 20000 in
theorem gX0_shape_X0_pool : GoodIn wsX0_shape (wsV RX0 51 RX0 yX0_pool wsX0_pool) := goodIn_app (goodIn_of _ (by decide +kernel)) ggX0_shape_X0_pool
theorem dX0_shape_0 : decode cX0_shape 0 = .ok (.iload_n 1, 1) := by decide +kernel
theorem dX0_shape_1 : decode cX0_shape 1 = .ok (.iconst 2, 1) := by decide +kernel
theorem dX0_shape_2 : decode cX0_shape 2 = .ok (.if_icmp .lt 24, 3) := by decide +kernel
theorem dX0_shape_5 : decode cX0_shape 5 = .ok (.aload_n 0, 1) := by decide +kernel
theorem dX0_shape_6 : decode cX0_shape 6 = .ok (.getfield 15, 3) := by decide +kernel
theorem dX0_shape_9 : decode cX0_shape 9 = .ok (.invokevirtual 23, 3) := by decide +kernel
theorem dX0_shape_12 : decode cX0_shape 12 = .ok (.ifCond .le 14, 3) := by decide +kernel
theorem dX0_shape_15 : decode cX0_shape 15 = .ok (.aload_n 0, 1) := by decide +kernel
theorem dX0_shape_16 : decode cX0_shape 16 = .ok (.iload_n 1, 1) := by decide +kernel
theorem dX0_shape_17 : decode cX0_shape 17 = .ok (.aload_n 0, 1) := by decide +kernel
theorem dX0_shape_18 : decode cX0_shape 18 = .ok (.iload_n 1, 1) := by decide +kernel
theorem dX0_shape_19 : decode cX0_shape 19 = .ok (.invokevirtual 44, 3) := by decide +kernel
theorem dX0_shape_22 : decode cX0_shape 22 = .ok (.invokevirtual 47, 3) := by decide +kernel
theorem dX0_shape_25 : decode cX0_shape 25 = .ok (.return_, 1) := by decide +kernel
theorem dX0_shape_26 : decode cX0_shape 26 = .ok (.aload_n 0, 1) := by decide +kernel
theorem dX0_shape_27 : decode cX0_shape 27 = .ok (.iconst 0, 1) := by decide +kernel
theorem dX0_shape_28 : decode cX0_shape 28 = .ok (.putfield 19, 3) := by decide +kernel
theorem dX0_shape_31 : decode cX0_shape 31 = .ok (.aload_n 0, 1) := by decide +kernel
theorem dX0_shape_32 : decode cX0_shape 32 = .ok (.iconst 0, 1) := by decide +kernel
theorem dX0_shape_33 : decode cX0_shape 33 = .ok (.aload_n 0, 1) := by decide +kernel
theorem dX0_shape_34 : decode cX0_shape 34 = .ok (.getfield 15, 3) := by decide +kernel
theorem dX0_shape_37 : decode cX0_shape 37 = .ok (.invokevirtual 23, 3) := by decide +kernel
theorem dX0_shape_40 : decode cX0_shape 40 = .ok (.iconst 1, 1) := by decide +kernel
theorem dX0_shape_41 : decode cX0_shape 41 = .ok (.isub, 1) := by decide +kernel
theorem dX0_shape_42 : decode cX0_shape 42 = .ok (.iload_n 1, 1) := by decide +kernel
theorem dX0_shape_43 : decode cX0_shape 43 = .ok (.ifCond .ne 7, 3) := by decide +kernel
theorem dX0_shape_46 : decode cX0_shape 46 = .ok (.iconst 1, 1) := by decide +kernel
theorem dX0_shape_47 : decode cX0_shape 47 = .ok (.goto 4, 3) := by decide +kernel
theorem dX0_shape_50 : decode cX0_shape 50 = .ok (.iconst (-1), 1) := by decide +kernel
theorem dX0_shape_51 : decode cX0_shape 51 = .ok (.invokevirtual 51, 3) := by decide +kernel
theorem dX0_shape_54 : decode cX0_shape 54 = .ok (.return_, 1) := by decide +kernel
set_option maxRecDepth 20000 in
theorem ggX0_bestTurn_X1_size : GoodIn wsX0_bestTurn wsX1_size := goodIn_r _ [6, 7, 70, 71, 72, 73, 74, 75] (by decide +kernel) (by decide +kernel)
set_option maxRecDepth 20000 in
theorem gX0_bestTurn_X1_size : GoodIn wsX0_bestTurn (wsV RX0 23 RX1 yX1_size wsX1_size) := goodIn_app (goodIn_of _ (by decide +kernel)) ggX0_bestTurn_X1_size
set_option maxRecDepth 20000 in
theorem ggX0_bestTurn_X0_shapeWithTurn : GoodIn wsX0_bestTurn wsX0_shapeWithTurn := goodIn_r _ [12, 13, 14, 15, 1, 16, 17, 18, 11, 19, 2, 3, 4, 5, 6, 7, 20, 21, 22, 23, 24, 25, 26, 27, 28, 29, 30, 31, 32, 33, 34, 35, 36, 37, 38, 39, 40, 41, 42, 65, 66, 67, 68, 69, 70, 71, 72, 73, 74, 75] (by decide +kernel) (by decide +kernel)
set_option maxRecDepth 20000 in
theorem gX0_bestTurn_X0_shapeWithTurn : GoodIn wsX0_bestTurn (wsV RX0 47 RX0 yX0_shapeWithTurn wsX0_shapeWithTurn) := goodIn_app (goodIn_of _ (by decide +kernel)) ggX0_bestTurn_X0_shapeWithTurn
set_option maxRecDepth 20000 in
theorem ggX0_bestTurn_X0_commonError : GoodIn wsX0_bestTurn wsX0_commonError := goodIn_r _ [46, 1, 13, 47, 48, 49, 5, 50, 51, 52, 53, 54, 55, 11, 56, 38, 57, 58, 59, 60, 2, 3, 4, 6, 7, 61, 62, 63, 64, 29, 30, 31, 32, 33, 24, 25, 26, 27, 28, 65, 66, 67, 68, 69, 70, 71, 72, 73, 74, 75] (by decide +kernel) (by decide +kernel)
set_option maxRecDepth 20000 in
theorem gX0_bestTurn_X0_commonError : GoodIn wsX0_bestTurn (wsV RX0 55 RX0 yX0_commonError wsX0_commonError) := goodIn_app (goodIn_of _ (by decide +kernel)) ggX0_bestTurn_X0_commonError
theorem dX0_bestTurn_0 : decode cX0_bestTurn 0 = .ok (.iconst 0, 1) := by decide +kernel
theorem dX0_bestTurn_1 : decode cX0_bestTurn 1 = .ok (.istore_n 2, 1) := by decide +kernel
theorem dX0_bestTurn_2 : decode cX0_bestTurn 2 = .ok (.lconst 0, 1) := by decide +kernel
theorem dX0_bestTurn_3 : decode cX0_bestTurn 3 = .ok (.lstore_n 3, 1) := by decide +kernel
theorem dX0_bestTurn_4 : decode cX0_bestTurn 4 = .ok (.iconst 0, 1) := by decide +kernel
theorem dX0_bestTurn_5 : decode cX0_bestTurn 5 = .ok (.istore 5, 2) := by decide +kernel
theorem dX0_bestTurn_7 : decode cX0_bestTurn 7 = .ok (.iload 5, 2) := by decide +kernel
theorem dX0_bestTurn_9 : decode cX0_bestTurn 9 = .ok (.aload_n 0, 1) := by decide +kernel
theorem dX0_bestTurn_10 : decode cX0_bestTurn 10 = .ok (.getfield 15, 3) := by decide +kernel
theorem dX0_bestTurn_13 : decode cX0_bestTurn 13 = .ok (.invokevirtual 23, 3) := by decide +kernel
theorem dX0_bestTurn_16 : decode cX0_bestTurn 16 = .ok (.if_icmp .ge 40, 3) := by decide +kernel
theorem dX0_bestTurn_19 : decode cX0_bestTurn 19 = .ok (.aload_n 0, 1) := by decide +kernel
theorem dX0_bestTurn_20 : decode cX0_bestTurn 20 = .ok (.iload_n 1, 1) := by decide +kernel
theorem dX0_bestTurn_21 : decode cX0_bestTurn 21 = .ok (.iload 5, 2) := by decide +kernel
theorem dX0_bestTurn_23 : decode cX0_bestTurn 23 = .ok (.invokevirtual 47, 3) := by decide +kernel
theorem dX0_bestTurn_26 : decode cX0_bestTurn 26 = .ok (.aload_n 0, 1) := by decide +kernel
theorem dX0_bestTurn_27 : decode cX0_bestTurn 27 = .ok (.invokevirtual 55, 3) := by decide +kernel
theorem dX0_bestTurn_30 : decode cX0_bestTurn 30 = .ok (.lstore 6, 2) := by decide +kernel
theorem dX0_bestTurn_32 : decode cX0_bestTurn 32 = .ok (.iload 5, 2) := by decide +kernel
theorem dX0_bestTurn_34 : decode cX0_bestTurn 34 = .ok (.ifCond .eq 10, 3) := by decide +kernel
theorem dX0_bestTurn_37 : decode cX0_bestTurn 37 = .ok (.lload 6, 2) := by decide +kernel
theorem dX0_bestTurn_39 : decode cX0_bestTurn 39 = .ok (.lload_n 3, 1) := by decide +kernel
theorem dX0_bestTurn_40 : decode cX0_bestTurn 40 = .ok (.lcmp, 1) := by decide +kernel
theorem dX0_bestTurn_41 : decode cX0_bestTurn 41 = .ok (.ifCond .ge 9, 3) := by decide +kernel
theorem dX0_bestTurn_44 : decode cX0_bestTurn 44 = .ok (.iload 5, 2) := by decide +kernel
theorem dX0_bestTurn_46 : decode cX0_bestTurn 46 = .ok (.istore_n 2, 1) := by decide +kernel
theorem dX0_bestTurn_47 : decode cX0_bestTurn 47 = .ok (.lload 6, 2) := by decide +kernel
theorem dX0_bestTurn_49 : decode cX0_bestTurn 49 = .ok (.lstore_n 3, 1) := by decide +kernel
theorem dX0_bestTurn_50 : decode cX0_bestTurn 50 = .ok (.iinc 5 1, 3) := by decide +kernel
theorem dX0_bestTurn_53 : decode cX0_bestTurn 53 = .ok (.goto (-46), 3) := by decide +kernel
theorem dX0_bestTurn_56 : decode cX0_bestTurn 56 = .ok (.iload_n 2, 1) := by decide +kernel
theorem dX0_bestTurn_57 : decode cX0_bestTurn 57 = .ok (.ireturn, 1) := by decide +kernel
set_option maxRecDepth 20000 in
theorem ggX0_shapeWithTurn_X0_findTop : GoodIn wsX0_shapeWithTurn wsX0_findTop := goodIn_r _ [9, 2, 3, 4, 10, 11, 12, 13, 14, 15, 16, 17, 18, 19, 20, 21, 22, 23, 24, 25, 26, 27, 28, 29, 39, 40, 41, 42, 43, 44, 45, 46, 47, 48, 49] (by decide +kernel) (by decide +kernel)
set_option maxRecDepth 20000 in
theorem gX0_shapeWithTurn_X0_findTop : GoodIn wsX0_shapeWithTurn (wsV RX0 58 RX0 yX0_findTop wsX0_findTop) := goodIn_app (goodIn_of _ (by decide +kernel)) ggX0_shapeWithTurn_X0_findTop
set_option maxRecDepth 20000 in
theorem ggX0_shapeWithTurn_X0_pool : GoodIn wsX0_shapeWithTurn wsX0_pool := goodIn_r _ [33, 1, 4, 34, 16, 17, 18, 13, 19, 20, 21, 22, 23, 15, 24, 25, 26, 27, 28, 29, 35, 36, 37, 8, 38, 39, 40, 41, 42, 43, 44, 45, 46, 47, 48, 49] (by decide +kernel) (by decide +kernel)
set_option maxRecDepth 20000 in
theorem gX0_shapeWithTurn_X0_pool : GoodIn wsX0_shapeWithTurn (wsV RX0 51 RX0 yX0_pool wsX0_pool) := goodIn_app (goodIn_of _ (by decide +kernel)) ggX0_shapeWithTurn_X0_pool
set_option maxRecDepth 20000 in
theorem ggX0_shapeWithTurn_X0_open : GoodIn wsX0_shapeWithTurn wsX0_open := goodIn_r _ [38, 1, 34, 39, 40, 41, 42, 43] (by decide +kernel) (by decide +kernel)
set_option maxRecDepth 20000 in
theorem gX0_shapeWithTurn_X0_open : GoodIn wsX0_shapeWithTurn (wsV RX0 64 RX0 yX0_open wsX0_open) := goodIn_app (goodIn_of _ (by decide +kernel)) ggX0_shapeWithTurn_X0_open
set_option maxRecDepth 20000 in
theorem ggX0_shapeWithTurn_X1_size : GoodIn wsX0_shapeWithTurn wsX1_size := goodIn_r _ [14, 15, 44, 45, 46, 47, 48, 49] (by decide +kernel) (by decide +kernel)
set_option maxRecDepth 20000 in
theorem gX0_shapeWithTurn_X1_size : GoodIn wsX0_shapeWithTurn (wsV RX0 23 RX1 yX1_size wsX1_size) := goodIn_app (goodIn_of _ (by decide +kernel)) ggX0_shapeWithTurn_X1_size
theorem dX0_shapeWithTurn_0 : decode cX0_shapeWithTurn 0 = .ok (.iload_n 1, 1) := by decide +kernel
theorem dX0_shapeWithTurn_1 : decode cX0_shapeWithTurn 1 = .ok (.iconst 2, 1) := by decide +kernel
theorem dX0_shapeWithTurn_2 : decode cX0_shapeWithTurn 2 = .ok (.if_icmp .ne 7, 3) := by decide +kernel
theorem dX0_shapeWithTurn_5 : decode cX0_shapeWithTurn 5 = .ok (.iconst 1, 1) := by decide +kernel
theorem dX0_shapeWithTurn_6 : decode cX0_shapeWithTurn 6 = .ok (.goto 4, 3) := by decide +kernel
theorem dX0_shapeWithTurn_9 : decode cX0_shapeWithTurn 9 = .ok (.iconst (-1), 1) := by decide +kernel
theorem dX0_shapeWithTurn_10 : decode cX0_shapeWithTurn 10 = .ok (.istore_n 3, 1) := by decide +kernel
theorem dX0_shapeWithTurn_11 : decode cX0_shapeWithTurn 11 = .ok (.aload_n 0, 1) := by decide +kernel
theorem dX0_shapeWithTurn_12 : decode cX0_shapeWithTurn 12 = .ok (.iload_n 2, 1) := by decide +kernel
theorem dX0_shapeWithTurn_13 : decode cX0_shapeWithTurn 13 = .ok (.iload_n 3, 1) := by decide +kernel
theorem dX0_shapeWithTurn_14 : decode cX0_shapeWithTurn 14 = .ok (.invokevirtual 58, 3) := by decide +kernel
theorem dX0_shapeWithTurn_17 : decode cX0_shapeWithTurn 17 = .ok (.aload_n 0, 1) := by decide +kernel
theorem dX0_shapeWithTurn_18 : decode cX0_shapeWithTurn 18 = .ok (.iconst 0, 1) := by decide +kernel
theorem dX0_shapeWithTurn_19 : decode cX0_shapeWithTurn 19 = .ok (.putfield 19, 3) := by decide +kernel
theorem dX0_shapeWithTurn_22 : decode cX0_shapeWithTurn 22 = .ok (.aload_n 0, 1) := by decide +kernel
theorem dX0_shapeWithTurn_23 : decode cX0_shapeWithTurn 23 = .ok (.iconst 0, 1) := by decide +kernel
theorem dX0_shapeWithTurn_24 : decode cX0_shapeWithTurn 24 = .ok (.aload_n 0, 1) := by decide +kernel
theorem dX0_shapeWithTurn_25 : decode cX0_shapeWithTurn 25 = .ok (.getfield 61, 3) := by decide +kernel
theorem dX0_shapeWithTurn_28 : decode cX0_shapeWithTurn 28 = .ok (.iconst 1, 1) := by decide +kernel
theorem dX0_shapeWithTurn_29 : decode cX0_shapeWithTurn 29 = .ok (.isub, 1) := by decide +kernel
theorem dX0_shapeWithTurn_30 : decode cX0_shapeWithTurn 30 = .ok (.iload_n 3, 1) := by decide +kernel
theorem dX0_shapeWithTurn_31 : decode cX0_shapeWithTurn 31 = .ok (.invokevirtual 51, 3) := by decide +kernel
theorem dX0_shapeWithTurn_34 : decode cX0_shapeWithTurn 34 = .ok (.aload_n 0, 1) := by decide +kernel
theorem dX0_shapeWithTurn_35 : decode cX0_shapeWithTurn 35 = .ok (.aload_n 0, 1) := by decide +kernel
theorem dX0_shapeWithTurn_36 : decode cX0_shapeWithTurn 36 = .ok (.getfield 61, 3) := by decide +kernel
theorem dX0_shapeWithTurn_39 : decode cX0_shapeWithTurn 39 = .ok (.invokevirtual 64, 3) := by decide +kernel
theorem dX0_shapeWithTurn_42 : decode cX0_shapeWithTurn 42 = .ok (.aload_n 0, 1) := by decide +kernel
theorem dX0_shapeWithTurn_43 : decode cX0_shapeWithTurn 43 = .ok (.aload_n 0, 1) := by decide +kernel
theorem dX0_shapeWithTurn_44 : decode cX0_shapeWithTurn 44 = .ok (.getfield 68, 3) := by decide +kernel
theorem dX0_shapeWithTurn_47 : decode cX0_shapeWithTurn 47 = .ok (.iconst 1, 1) := by decide +kernel
theorem dX0_shapeWithTurn_48 : decode cX0_shapeWithTurn 48 = .ok (.iadd, 1) := by decide +kernel
theorem dX0_shapeWithTurn_49 : decode cX0_shapeWithTurn 49 = .ok (.aload_n 0, 1) := by decide +kernel
theorem dX0_shapeWithTurn_50 : decode cX0_shapeWithTurn 50 = .ok (.getfield 15, 3) := by decide +kernel
theorem dX0_shapeWithTurn_53 : decode cX0_shapeWithTurn 53 = .ok (.invokevirtual 23, 3) := by decide +kernel
theorem dX0_shapeWithTurn_56 : decode cX0_shapeWithTurn 56 = .ok (.iconst 1, 1) := by decide +kernel
theorem dX0_shapeWithTurn_57 : decode cX0_shapeWithTurn 57 = .ok (.isub, 1) := by decide +kernel
theorem dX0_shapeWithTurn_58 : decode cX0_shapeWithTurn 58 = .ok (.iload_n 3, 1) := by decide +kernel
theorem dX0_shapeWithTurn_59 : decode cX0_shapeWithTurn 59 = .ok (.ineg, 1) := by decide +kernel
theorem dX0_shapeWithTurn_60 : decode cX0_shapeWithTurn 60 = .ok (.invokevirtual 51, 3) := by decide +kernel
theorem dX0_shapeWithTurn_63 : decode cX0_shapeWithTurn 63 = .ok (.return_, 1) := by decide +kernel
set_option maxRecDepth 20000 in
theorem ggX0_findTop_X1_size : GoodIn wsX0_findTop wsX1_size := goodIn_r _ [8, 9, 29, 30, 31, 32, 33, 34] (by decide +kernel) (by decide +kernel)
set_option maxRecDepth 20000 in
theorem gX0_findTop_X1_size : GoodIn wsX0_findTop (wsV RX0 23 RX1 yX1_size wsX1_size) := goodIn_app (goodIn_of _ (by decide +kernel)) ggX0_findTop_X1_size
set_option maxRecDepth 20000 in
theorem ggX0_findTop_X1_compareMeans : GoodIn wsX0_findTop wsX1_compareMeans := goodIn_r _ [13, 14, 15, 16, 7, 17, 9, 18, 19, 20, 21, 22, 23, 29, 30, 31, 32, 33, 34] (by decide +kernel) (by decide +kernel)
set_option maxRecDepth 20000 in
theorem gX0_findTop_X1_compareMeans : GoodIn wsX0_findTop (wsV RX0 71 RX1 yX1_compareMeans wsX1_compareMeans) := goodIn_app (goodIn_of _ (by decide +kernel)) ggX0_findTop_X1_compareMeans
theorem dX0_findTop_0 : decode cX0_findTop 0 = .ok (.aload_n 0, 1) := by decide +kernel
theorem dX0_findTop_1 : decode cX0_findTop 1 = .ok (.iload_n 1, 1) := by decide +kernel
theorem dX0_findTop_2 : decode cX0_findTop 2 = .ok (.putfield 61, 3) := by decide +kernel
theorem dX0_findTop_5 : decode cX0_findTop 5 = .ok (.aload_n 0, 1) := by decide +kernel
theorem dX0_findTop_6 : decode cX0_findTop 6 = .ok (.iload_n 1, 1) := by decide +kernel
theorem dX0_findTop_7 : decode cX0_findTop 7 = .ok (.putfield 68, 3) := by decide +kernel
theorem dX0_findTop_10 : decode cX0_findTop 10 = .ok (.iload_n 1, 1) := by decide +kernel
theorem dX0_findTop_11 : decode cX0_findTop 11 = .ok (.istore_n 3, 1) := by decide +kernel
theorem dX0_findTop_12 : decode cX0_findTop 12 = .ok (.iload_n 3, 1) := by decide +kernel
theorem dX0_findTop_13 : decode cX0_findTop 13 = .ok (.ifCond .lt 64, 3) := by decide +kernel
theorem dX0_findTop_16 : decode cX0_findTop 16 = .ok (.iload_n 1, 1) := by decide +kernel
theorem dX0_findTop_17 : decode cX0_findTop 17 = .ok (.istore 4, 2) := by decide +kernel
theorem dX0_findTop_19 : decode cX0_findTop 19 = .ok (.iload 4, 2) := by decide +kernel
theorem dX0_findTop_21 : decode cX0_findTop 21 = .ok (.aload_n 0, 1) := by decide +kernel
theorem dX0_findTop_22 : decode cX0_findTop 22 = .ok (.getfield 15, 3) := by decide +kernel
theorem dX0_findTop_25 : decode cX0_findTop 25 = .ok (.invokevirtual 23, 3) := by decide +kernel
theorem dX0_findTop_28 : decode cX0_findTop 28 = .ok (.if_icmp .ge 43, 3) := by decide +kernel
theorem dX0_findTop_31 : decode cX0_findTop 31 = .ok (.iload_n 2, 1) := by decide +kernel
theorem dX0_findTop_32 : decode cX0_findTop 32 = .ok (.aload_n 0, 1) := by decide +kernel
theorem dX0_findTop_33 : decode cX0_findTop 33 = .ok (.getfield 15, 3) := by decide +kernel
theorem dX0_findTop_36 : decode cX0_findTop 36 = .ok (.iload_n 3, 1) := by decide +kernel
theorem dX0_findTop_37 : decode cX0_findTop 37 = .ok (.iload 4, 2) := by decide +kernel
theorem dX0_findTop_39 : decode cX0_findTop 39 = .ok (.aload_n 0, 1) := by decide +kernel
theorem dX0_findTop_40 : decode cX0_findTop 40 = .ok (.getfield 61, 3) := by decide +kernel
theorem dX0_findTop_43 : decode cX0_findTop 43 = .ok (.aload_n 0, 1) := by decide +kernel
theorem dX0_findTop_44 : decode cX0_findTop 44 = .ok (.getfield 68, 3) := by decide +kernel
theorem dX0_findTop_47 : decode cX0_findTop 47 = .ok (.invokevirtual 71, 3) := by decide +kernel
theorem dX0_findTop_50 : decode cX0_findTop 50 = .ok (.imul, 1) := by decide +kernel
theorem dX0_findTop_51 : decode cX0_findTop 51 = .ok (.ifCond .lt 14, 3) := by decide +kernel
theorem dX0_findTop_54 : decode cX0_findTop 54 = .ok (.aload_n 0, 1) := by decide +kernel
theorem dX0_findTop_55 : decode cX0_findTop 55 = .ok (.iload_n 3, 1) := by decide +kernel
theorem dX0_findTop_56 : decode cX0_findTop 56 = .ok (.putfield 61, 3) := by decide +kernel
theorem dX0_findTop_59 : decode cX0_findTop 59 = .ok (.aload_n 0, 1) := by decide +kernel
theorem dX0_findTop_60 : decode cX0_findTop 60 = .ok (.iload 4, 2) := by decide +kernel
theorem dX0_findTop_62 : decode cX0_findTop 62 = .ok (.putfield 68, 3) := by decide +kernel
theorem dX0_findTop_65 : decode cX0_findTop 65 = .ok (.iinc 4 1, 3) := by decide +kernel
theorem dX0_findTop_68 : decode cX0_findTop 68 = .ok (.goto (-49), 3) := by decide +kernel
theorem dX0_findTop_71 : decode cX0_findTop 71 = .ok (.iinc 3 (-1), 3) := by decide +kernel
theorem dX0_findTop_74 : decode cX0_findTop 74 = .ok (.goto (-62), 3) := by decide +kernel
theorem dX0_findTop_77 : decode cX0_findTop 77 = .ok (.return_, 1) := by decide +kernel
set_option maxRecDepth 20000 in
theorem ggX0_pool_X1_compareMeans : GoodIn wsX0_pool wsX1_compareMeans := goodIn_r _ [8, 9, 10, 11, 7, 12, 13, 14, 15, 16, 17, 18, 19, 30, 31, 32, 33, 34, 35] (by decide +kernel) (by decide +kernel)
set_option maxRecDepth 20000 in
theorem gX0_pool_X1_compareMeans : GoodIn wsX0_pool (wsV RX0 71 RX1 yX1_compareMeans wsX1_compareMeans) := goodIn_app (goodIn_of _ (by decide +kernel)) ggX0_pool_X1_compareMeans
set_option maxRecDepth 20000 in
theorem ggX0_pool_X0_open : GoodIn wsX0_pool wsX0_open := goodIn_r _ [24, 1, 3, 25, 26, 27, 28, 29] (by decide +kernel) (by decide +kernel)
set_option maxRecDepth 20000 in
theorem gX0_pool_X0_open : GoodIn wsX0_pool (wsV RX0 64 RX0 yX0_open wsX0_open) := goodIn_app (goodIn_of _ (by decide +kernel)) ggX0_pool_X0_open
theorem dX0_pool_0 : decode cX0_pool 0 = .ok (.aload_n 0, 1) := by decide +kernel
theorem dX0_pool_1 : decode cX0_pool 1 = .ok (.getfield 19, 3) := by decide +kernel
theorem dX0_pool_4 : decode cX0_pool 4 = .ok (.istore 4, 2) := by decide +kernel
theorem dX0_pool_6 : decode cX0_pool 6 = .ok (.iload_n 1, 1) := by decide +kernel
theorem dX0_pool_7 : decode cX0_pool 7 = .ok (.istore 5, 2) := by decide +kernel
theorem dX0_pool_9 : decode cX0_pool 9 = .ok (.iload 5, 2) := by decide +kernel
theorem dX0_pool_11 : decode cX0_pool 11 = .ok (.iload_n 2, 1) := by decide +kernel
theorem dX0_pool_12 : decode cX0_pool 12 = .ok (.if_icmp .gt 85, 3) := by decide +kernel
theorem dX0_pool_15 : decode cX0_pool 15 = .ok (.iload 5, 2) := by decide +kernel
theorem dX0_pool_17 : decode cX0_pool 17 = .ok (.istore 6, 2) := by decide +kernel
theorem dX0_pool_19 : decode cX0_pool 19 = .ok (.aload_n 0, 1) := by decide +kernel
theorem dX0_pool_20 : decode cX0_pool 20 = .ok (.getfield 19, 3) := by decide +kernel
theorem dX0_pool_23 : decode cX0_pool 23 = .ok (.iconst 1, 1) := by decide +kernel
theorem dX0_pool_24 : decode cX0_pool 24 = .ok (.isub, 1) := by decide +kernel
theorem dX0_pool_25 : decode cX0_pool 25 = .ok (.istore 7, 2) := by decide +kernel
theorem dX0_pool_27 : decode cX0_pool 27 = .ok (.iload 7, 2) := by decide +kernel
theorem dX0_pool_29 : decode cX0_pool 29 = .ok (.iload 4, 2) := by decide +kernel
theorem dX0_pool_31 : decode cX0_pool 31 = .ok (.if_icmp .lt 54, 3) := by decide +kernel
theorem dX0_pool_34 : decode cX0_pool 34 = .ok (.iload_n 3, 1) := by decide +kernel
theorem dX0_pool_35 : decode cX0_pool 35 = .ok (.aload_n 0, 1) := by decide +kernel
theorem dX0_pool_36 : decode cX0_pool 36 = .ok (.getfield 15, 3) := by decide +kernel
theorem dX0_pool_39 : decode cX0_pool 39 = .ok (.aload_n 0, 1) := by decide +kernel
theorem dX0_pool_40 : decode cX0_pool 40 = .ok (.getfield 9, 3) := by decide +kernel
theorem dX0_pool_43 : decode cX0_pool 43 = .ok (.iload 7, 2) := by decide +kernel
theorem dX0_pool_45 : decode cX0_pool 45 = .ok (.iaload, 1) := by decide +kernel
theorem dX0_pool_46 : decode cX0_pool 46 = .ok (.iload 6, 2) := by decide +kernel
theorem dX0_pool_48 : decode cX0_pool 48 = .ok (.iconst 1, 1) := by decide +kernel
theorem dX0_pool_49 : decode cX0_pool 49 = .ok (.isub, 1) := by decide +kernel
theorem dX0_pool_50 : decode cX0_pool 50 = .ok (.iload 6, 2) := by decide +kernel
theorem dX0_pool_52 : decode cX0_pool 52 = .ok (.iload 5, 2) := by decide +kernel
theorem dX0_pool_54 : decode cX0_pool 54 = .ok (.invokevirtual 71, 3) := by decide +kernel
theorem dX0_pool_57 : decode cX0_pool 57 = .ok (.imul, 1) := by decide +kernel
theorem dX0_pool_58 : decode cX0_pool 58 = .ok (.ifCond .ge 6, 3) := by decide +kernel
theorem dX0_pool_61 : decode cX0_pool 61 = .ok (.goto 24, 3) := by decide +kernel
theorem dX0_pool_64 : decode cX0_pool 64 = .ok (.aload_n 0, 1) := by decide +kernel
theorem dX0_pool_65 : decode cX0_pool 65 = .ok (.getfield 9, 3) := by decide +kernel
theorem dX0_pool_68 : decode cX0_pool 68 = .ok (.iload 7, 2) := by decide +kernel
theorem dX0_pool_70 : decode cX0_pool 70 = .ok (.iaload, 1) := by decide +kernel
theorem dX0_pool_71 : decode cX0_pool 71 = .ok (.istore 6, 2) := by decide +kernel
theorem dX0_pool_73 : decode cX0_pool 73 = .ok (.aload_n 0, 1) := by decide +kernel
theorem dX0_pool_74 : decode cX0_pool 74 = .ok (.iload 7, 2) := by decide +kernel
theorem dX0_pool_76 : decode cX0_pool 76 = .ok (.putfield 19, 3) := by decide +kernel
theorem dX0_pool_79 : decode cX0_pool 79 = .ok (.iinc 7 (-1), 3) := by decide +kernel
theorem dX0_pool_82 : decode cX0_pool 82 = .ok (.goto (-55), 3) := by decide +kernel
theorem dX0_pool_85 : decode cX0_pool 85 = .ok (.aload_n 0, 1) := by decide +kernel
theorem dX0_pool_86 : decode cX0_pool 86 = .ok (.iload 6, 2) := by decide +kernel
theorem dX0_pool_88 : decode cX0_pool 88 = .ok (.invokevirtual 64, 3) := by decide +kernel
theorem dX0_pool_91 : decode cX0_pool 91 = .ok (.iinc 5 1, 3) := by decide +kernel
theorem dX0_pool_94 : decode cX0_pool 94 = .ok (.goto (-85), 3) := by decide +kernel
theorem dX0_pool_97 : decode cX0_pool 97 = .ok (.return_, 1) := by decide +kernel
theorem dX0_open_0 : decode cX0_open 0 = .ok (.aload_n 0, 1) := by decide +kernel
theorem dX0_open_1 : decode cX0_open 1 = .ok (.getfield 19, 3) := by decide +kernel
theorem dX0_open_4 : decode cX0_open 4 = .ok (.bipush 12, 2) := by decide +kernel
theorem dX0_open_6 : decode cX0_open 6 = .ok (.if_icmp .ge 23, 3) := by decide +kernel
theorem dX0_open_9 : decode cX0_open 9 = .ok (.aload_n 0, 1) := by decide +kernel
theorem dX0_open_10 : decode cX0_open 10 = .ok (.getfield 9, 3) := by decide +kernel
theorem dX0_open_13 : decode cX0_open 13 = .ok (.aload_n 0, 1) := by decide +kernel
theorem dX0_open_14 : decode cX0_open 14 = .ok (.getfield 19, 3) := by decide +kernel
theorem dX0_open_17 : decode cX0_open 17 = .ok (.iload_n 1, 1) := by decide +kernel
theorem dX0_open_18 : decode cX0_open 18 = .ok (.iastore, 1) := by decide +kernel
theorem dX0_open_19 : decode cX0_open 19 = .ok (.aload_n 0, 1) := by decide +kernel
theorem dX0_open_20 : decode cX0_open 20 = .ok (.dup, 1) := by decide +kernel
theorem dX0_open_21 : decode cX0_open 21 = .ok (.getfield 19, 3) := by decide +kernel
theorem dX0_open_24 : decode cX0_open 24 = .ok (.iconst 1, 1) := by decide +kernel
theorem dX0_open_25 : decode cX0_open 25 = .ok (.iadd, 1) := by decide +kernel
theorem dX0_open_26 : decode cX0_open 26 = .ok (.putfield 19, 3) := by decide +kernel
theorem dX0_open_29 : decode cX0_open 29 = .ok (.return_, 1) := by decide +kernel
theorem dX1_init_0 : decode cX1_init 0 = .ok (.aload_n 0, 1) := by decide +kernel
theorem dX1_init_1 : decode cX1_init 1 = .ok (.invokespecial 3, 3) := by decide +kernel
theorem dX1_init_4 : decode cX1_init 4 = .ok (.aload_n 0, 1) := by decide +kernel
theorem dX1_init_5 : decode cX1_init 5 = .ok (.bipush 12, 2) := by decide +kernel
theorem dX1_init_7 : decode cX1_init 7 = .ok (.newarray .int, 2) := by decide +kernel
theorem dX1_init_9 : decode cX1_init 9 = .ok (.putfield 9, 3) := by decide +kernel
theorem dX1_init_12 : decode cX1_init 12 = .ok (.aload_n 0, 1) := by decide +kernel
theorem dX1_init_13 : decode cX1_init 13 = .ok (.bipush 12, 2) := by decide +kernel
theorem dX1_init_15 : decode cX1_init 15 = .ok (.newarray .int, 2) := by decide +kernel
theorem dX1_init_17 : decode cX1_init 17 = .ok (.putfield 15, 3) := by decide +kernel
theorem dX1_init_20 : decode cX1_init 20 = .ok (.aload_n 0, 1) := by decide +kernel
theorem dX1_init_21 : decode cX1_init 21 = .ok (.bipush 13, 2) := by decide +kernel
theorem dX1_init_23 : decode cX1_init 23 = .ok (.newarray .int, 2) := by decide +kernel
theorem dX1_init_25 : decode cX1_init 25 = .ok (.putfield 18, 3) := by decide +kernel
theorem dX1_init_28 : decode cX1_init 28 = .ok (.aload_n 0, 1) := by decide +kernel
theorem dX1_init_29 : decode cX1_init 29 = .ok (.bipush 13, 2) := by decide +kernel
theorem dX1_init_31 : decode cX1_init 31 = .ok (.newarray .int, 2) := by decide +kernel
theorem dX1_init_33 : decode cX1_init 33 = .ok (.putfield 21, 3) := by decide +kernel
theorem dX1_init_36 : decode cX1_init 36 = .ok (.return_, 1) := by decide +kernel
theorem dX1_size_0 : decode cX1_size 0 = .ok (.aload_n 0, 1) := by decide +kernel
theorem dX1_size_1 : decode cX1_size 1 = .ok (.getfield 24, 3) := by decide +kernel
theorem dX1_size_4 : decode cX1_size 4 = .ok (.ireturn, 1) := by decide +kernel
theorem dX1_has_0 : decode cX1_has 0 = .ok (.iload_n 1, 1) := by decide +kernel
theorem dX1_has_1 : decode cX1_has 1 = .ok (.ifCond .lt 15, 3) := by decide +kernel
theorem dX1_has_4 : decode cX1_has 4 = .ok (.iload_n 1, 1) := by decide +kernel
theorem dX1_has_5 : decode cX1_has 5 = .ok (.aload_n 0, 1) := by decide +kernel
theorem dX1_has_6 : decode cX1_has 6 = .ok (.getfield 24, 3) := by decide +kernel
theorem dX1_has_9 : decode cX1_has 9 = .ok (.if_icmp .ge 7, 3) := by decide +kernel
theorem dX1_has_12 : decode cX1_has 12 = .ok (.iconst 1, 1) := by decide +kernel
theorem dX1_has_13 : decode cX1_has 13 = .ok (.goto 4, 3) := by decide +kernel
theorem dX1_has_16 : decode cX1_has 16 = .ok (.iconst 0, 1) := by decide +kernel
theorem dX1_has_17 : decode cX1_has 17 = .ok (.ireturn, 1) := by decide +kernel
set_option maxRecDepth 20000 in
theorem ggX1_gather_X5_positionBehind : GoodIn wsX1_gather wsX5_positionBehind := goodIn_r _ [7, 8, 9, 47, 48, 49, 50] (by decide +kernel) (by decide +kernel)
set_option maxRecDepth 20000 in
theorem gX1_gather_X5_positionBehind : GoodIn wsX1_gather (wsV RX1 31 RX5 yX5_positionBehind wsX5_positionBehind) := goodIn_app (goodIn_of _ (by decide +kernel)) ggX1_gather_X5_positionBehind
set_option maxRecDepth 20000 in
theorem ggX1_gather_X1_gatherGroup : GoodIn wsX1_gather wsX1_gatherGroup := goodIn_r _ [14, 1, 15, 16, 2, 17, 18, 19, 20, 21, 6, 22, 8, 23, 24, 25, 26, 9, 27, 28, 29, 30, 31, 32, 33, 34, 35, 36, 37, 38, 39, 40, 41, 42, 43, 44, 45, 46, 47, 48, 49, 50] (by decide +kernel) (by decide +kernel)
set_option maxRecDepth 20000 in
theorem gX1_gather_X1_gatherGroup : GoodIn wsX1_gather (wsV RX1 37 RX1 yX1_gatherGroup wsX1_gatherGroup) := goodIn_app (goodIn_of _ (by decide +kernel)) ggX1_gather_X1_gatherGroup
theorem dX1_gather_0 : decode cX1_gather 0 = .ok (.aload_n 0, 1) := by decide +kernel
theorem dX1_gather_1 : decode cX1_gather 1 = .ok (.iconst 0, 1) := by decide +kernel
theorem dX1_gather_2 : decode cX1_gather 2 = .ok (.putfield 24, 3) := by decide +kernel
theorem dX1_gather_5 : decode cX1_gather 5 = .ok (.aload_n 0, 1) := by decide +kernel
theorem dX1_gather_6 : decode cX1_gather 6 = .ok (.iconst 0, 1) := by decide +kernel
theorem dX1_gather_7 : decode cX1_gather 7 = .ok (.putfield 28, 3) := by decide +kernel
theorem dX1_gather_10 : decode cX1_gather 10 = .ok (.aload_n 1, 1) := by decide +kernel
theorem dX1_gather_11 : decode cX1_gather 11 = .ok (.iconst (-1), 1) := by decide +kernel
theorem dX1_gather_12 : decode cX1_gather 12 = .ok (.invokevirtual 31, 3) := by decide +kernel
theorem dX1_gather_15 : decode cX1_gather 15 = .ok (.istore_n 2, 1) := by decide +kernel
theorem dX1_gather_16 : decode cX1_gather 16 = .ok (.iconst 0, 1) := by decide +kernel
theorem dX1_gather_17 : decode cX1_gather 17 = .ok (.istore_n 3, 1) := by decide +kernel
theorem dX1_gather_18 : decode cX1_gather 18 = .ok (.iload_n 3, 1) := by decide +kernel
theorem dX1_gather_19 : decode cX1_gather 19 = .ok (.bipush 12, 2) := by decide +kernel
theorem dX1_gather_21 : decode cX1_gather 21 = .ok (.if_icmp .ge 26, 3) := by decide +kernel
theorem dX1_gather_24 : decode cX1_gather 24 = .ok (.iload_n 2, 1) := by decide +kernel
theorem dX1_gather_25 : decode cX1_gather 25 = .ok (.iconst (-1), 1) := by decide +kernel
theorem dX1_gather_26 : decode cX1_gather 26 = .ok (.if_icmp .eq 21, 3) := by decide +kernel
theorem dX1_gather_29 : decode cX1_gather 29 = .ok (.aload_n 0, 1) := by decide +kernel
theorem dX1_gather_30 : decode cX1_gather 30 = .ok (.aload_n 1, 1) := by decide +kernel
theorem dX1_gather_31 : decode cX1_gather 31 = .ok (.iload_n 2, 1) := by decide +kernel
theorem dX1_gather_32 : decode cX1_gather 32 = .ok (.invokevirtual 37, 3) := by decide +kernel
theorem dX1_gather_35 : decode cX1_gather 35 = .ok (.aload_n 1, 1) := by decide +kernel
theorem dX1_gather_36 : decode cX1_gather 36 = .ok (.iload_n 2, 1) := by decide +kernel
theorem dX1_gather_37 : decode cX1_gather 37 = .ok (.invokevirtual 31, 3) := by decide +kernel
theorem dX1_gather_40 : decode cX1_gather 40 = .ok (.istore_n 2, 1) := by decide +kernel
theorem dX1_gather_41 : decode cX1_gather 41 = .ok (.iinc 3 1, 3) := by decide +kernel
theorem dX1_gather_44 : decode cX1_gather 44 = .ok (.goto (-26), 3) := by decide +kernel
theorem dX1_gather_47 : decode cX1_gather 47 = .ok (.return_, 1) := by decide +kernel
set_option maxRecDepth 20000 in
theorem ggX1_gatherGroup_X5_size : GoodIn wsX1_gatherGroup wsX5_size := goodIn_r _ [11, 12, 38, 39, 40, 41] (by decide +kernel) (by decide +kernel)
set_option maxRecDepth 20000 in
theorem gX1_gatherGroup_X5_size : GoodIn wsX1_gatherGroup (wsV RX1 41 RX5 yX5_size wsX5_size) := goodIn_app (goodIn_of _ (by decide +kernel)) ggX1_gatherGroup_X5_size
set_option maxRecDepth 20000 in
theorem ggX1_gatherGroup_X5_positionOf : GoodIn wsX1_gatherGroup wsX5_positionOf := goodIn_r _ [16, 17, 18, 19, 20, 10, 21, 12, 38, 39, 40, 41] (by decide +kernel) (by decide +kernel)
set_option maxRecDepth 20000 in
theorem gX1_gatherGroup_X5_positionOf : GoodIn wsX1_gatherGroup (wsV RX1 45 RX5 yX5_positionOf wsX5_positionOf) := goodIn_app (goodIn_of _ (by decide +kernel)) ggX1_gatherGroup_X5_positionOf
set_option maxRecDepth 20000 in
theorem ggX1_gatherGroup_X5_valueOf : GoodIn wsX1_gatherGroup wsX5_valueOf := goodIn_r _ [25, 26, 18, 19, 20, 10, 21, 12, 38, 39, 40, 41] (by decide +kernel) (by decide +kernel)
set_option maxRecDepth 20000 in
theorem gX1_gatherGroup_X5_valueOf : GoodIn wsX1_gatherGroup (wsV RX1 48 RX5 yX5_valueOf wsX5_valueOf) := goodIn_app (goodIn_of _ (by decide +kernel)) ggX1_gatherGroup_X5_valueOf
set_option maxRecDepth 20000 in
theorem ggX1_gatherGroup_X5_weightOf : GoodIn wsX1_gatherGroup wsX5_weightOf := goodIn_r _ [30, 31, 18, 19, 20, 10, 21, 12, 38, 39, 40, 41] (by decide +kernel) (by decide +kernel)
set_option maxRecDepth 20000 in
theorem gX1_gatherGroup_X5_weightOf : GoodIn wsX1_gatherGroup (wsV RX1 51 RX5 yX5_weightOf wsX5_weightOf) := goodIn_app (goodIn_of _ (by decide +kernel)) ggX1_gatherGroup_X5_weightOf
theorem dX1_gatherGroup_0 : decode cX1_gatherGroup 0 = .ok (.aload_n 0, 1) := by decide +kernel
theorem dX1_gatherGroup_1 : decode cX1_gatherGroup 1 = .ok (.getfield 24, 3) := by decide +kernel
theorem dX1_gatherGroup_4 : decode cX1_gatherGroup 4 = .ok (.bipush 12, 2) := by decide +kernel
theorem dX1_gatherGroup_6 : decode cX1_gatherGroup 6 = .ok (.if_icmp .lt 4, 3) := by decide +kernel
theorem dX1_gatherGroup_9 : decode cX1_gatherGroup 9 = .ok (.return_, 1) := by decide +kernel
theorem dX1_gatherGroup_10 : decode cX1_gatherGroup 10 = .ok (.aload_n 0, 1) := by decide +kernel
theorem dX1_gatherGroup_11 : decode cX1_gatherGroup 11 = .ok (.getfield 18, 3) := by decide +kernel
theorem dX1_gatherGroup_14 : decode cX1_gatherGroup 14 = .ok (.aload_n 0, 1) := by decide +kernel
theorem dX1_gatherGroup_15 : decode cX1_gatherGroup 15 = .ok (.getfield 24, 3) := by decide +kernel
theorem dX1_gatherGroup_18 : decode cX1_gatherGroup 18 = .ok (.iaload, 1) := by decide +kernel
theorem dX1_gatherGroup_19 : decode cX1_gatherGroup 19 = .ok (.istore_n 3, 1) := by decide +kernel
theorem dX1_gatherGroup_20 : decode cX1_gatherGroup 20 = .ok (.aload_n 0, 1) := by decide +kernel
theorem dX1_gatherGroup_21 : decode cX1_gatherGroup 21 = .ok (.getfield 21, 3) := by decide +kernel
theorem dX1_gatherGroup_24 : decode cX1_gatherGroup 24 = .ok (.aload_n 0, 1) := by decide +kernel
theorem dX1_gatherGroup_25 : decode cX1_gatherGroup 25 = .ok (.getfield 24, 3) := by decide +kernel
theorem dX1_gatherGroup_28 : decode cX1_gatherGroup 28 = .ok (.iaload, 1) := by decide +kernel
theorem dX1_gatherGroup_29 : decode cX1_gatherGroup 29 = .ok (.istore 4, 2) := by decide +kernel
theorem dX1_gatherGroup_31 : decode cX1_gatherGroup 31 = .ok (.iconst 0, 1) := by decide +kernel
theorem dX1_gatherGroup_32 : decode cX1_gatherGroup 32 = .ok (.istore 5, 2) := by decide +kernel
theorem dX1_gatherGroup_34 : decode cX1_gatherGroup 34 = .ok (.iconst 0, 1) := by decide +kernel
theorem dX1_gatherGroup_35 : decode cX1_gatherGroup 35 = .ok (.istore 6, 2) := by decide +kernel
theorem dX1_gatherGroup_37 : decode cX1_gatherGroup 37 = .ok (.iload 6, 2) := by decide +kernel
theorem dX1_gatherGroup_39 : decode cX1_gatherGroup 39 = .ok (.aload_n 1, 1) := by decide +kernel
theorem dX1_gatherGroup_40 : decode cX1_gatherGroup 40 = .ok (.invokevirtual 41, 3) := by decide +kernel
theorem dX1_gatherGroup_43 : decode cX1_gatherGroup 43 = .ok (.if_icmp .ge 74, 3) := by decide +kernel
theorem dX1_gatherGroup_46 : decode cX1_gatherGroup 46 = .ok (.aload_n 1, 1) := by decide +kernel
theorem dX1_gatherGroup_47 : decode cX1_gatherGroup 47 = .ok (.iload 6, 2) := by decide +kernel
theorem dX1_gatherGroup_49 : decode cX1_gatherGroup 49 = .ok (.invokevirtual 45, 3) := by decide +kernel
theorem dX1_gatherGroup_52 : decode cX1_gatherGroup 52 = .ok (.iload_n 2, 1) := by decide +kernel
theorem dX1_gatherGroup_53 : decode cX1_gatherGroup 53 = .ok (.if_icmp .ne 58, 3) := by decide +kernel
theorem dX1_gatherGroup_56 : decode cX1_gatherGroup 56 = .ok (.aload_n 1, 1) := by decide +kernel
theorem dX1_gatherGroup_57 : decode cX1_gatherGroup 57 = .ok (.iload 6, 2) := by decide +kernel
theorem dX1_gatherGroup_59 : decode cX1_gatherGroup 59 = .ok (.invokevirtual 48, 3) := by decide +kernel
theorem dX1_gatherGroup_62 : decode cX1_gatherGroup 62 = .ok (.istore 7, 2) := by decide +kernel
theorem dX1_gatherGroup_64 : decode cX1_gatherGroup 64 = .ok (.iload_n 3, 1) := by decide +kernel
theorem dX1_gatherGroup_65 : decode cX1_gatherGroup 65 = .ok (.aload_n 1, 1) := by decide +kernel
theorem dX1_gatherGroup_66 : decode cX1_gatherGroup 66 = .ok (.iload 6, 2) := by decide +kernel
theorem dX1_gatherGroup_68 : decode cX1_gatherGroup 68 = .ok (.invokevirtual 51, 3) := by decide +kernel
theorem dX1_gatherGroup_71 : decode cX1_gatherGroup 71 = .ok (.iadd, 1) := by decide +kernel
theorem dX1_gatherGroup_72 : decode cX1_gatherGroup 72 = .ok (.istore_n 3, 1) := by decide +kernel
theorem dX1_gatherGroup_73 : decode cX1_gatherGroup 73 = .ok (.iload 4, 2) := by decide +kernel
theorem dX1_gatherGroup_75 : decode cX1_gatherGroup 75 = .ok (.aload_n 1, 1) := by decide +kernel
theorem dX1_gatherGroup_76 : decode cX1_gatherGroup 76 = .ok (.iload 6, 2) := by decide +kernel
theorem dX1_gatherGroup_78 : decode cX1_gatherGroup 78 = .ok (.invokevirtual 51, 3) := by decide +kernel
theorem dX1_gatherGroup_81 : decode cX1_gatherGroup 81 = .ok (.iload 7, 2) := by decide +kernel
theorem dX1_gatherGroup_83 : decode cX1_gatherGroup 83 = .ok (.imul, 1) := by decide +kernel
theorem dX1_gatherGroup_84 : decode cX1_gatherGroup 84 = .ok (.iadd, 1) := by decide +kernel
theorem dX1_gatherGroup_85 : decode cX1_gatherGroup 85 = .ok (.istore 4, 2) := by decide +kernel
theorem dX1_gatherGroup_87 : decode cX1_gatherGroup 87 = .ok (.aload_n 0, 1) := by decide +kernel
theorem dX1_gatherGroup_88 : decode cX1_gatherGroup 88 = .ok (.dup, 1) := by decide +kernel
theorem dX1_gatherGroup_89 : decode cX1_gatherGroup 89 = .ok (.getfield 28, 3) := by decide +kernel
theorem dX1_gatherGroup_92 : decode cX1_gatherGroup 92 = .ok (.aload_n 1, 1) := by decide +kernel
theorem dX1_gatherGroup_93 : decode cX1_gatherGroup 93 = .ok (.iload 6, 2) := by decide +kernel
theorem dX1_gatherGroup_95 : decode cX1_gatherGroup 95 = .ok (.invokevirtual 51, 3) := by decide +kernel
theorem dX1_gatherGroup_98 : decode cX1_gatherGroup 98 = .ok (.iload 7, 2) := by decide +kernel
theorem dX1_gatherGroup_100 : decode cX1_gatherGroup 100 = .ok (.imul, 1) := by decide +kernel
theorem dX1_gatherGroup_101 : decode cX1_gatherGroup 101 = .ok (.iload 7, 2) := by decide +kernel
theorem dX1_gatherGroup_103 : decode cX1_gatherGroup 103 = .ok (.imul, 1) := by decide +kernel
theorem dX1_gatherGroup_104 : decode cX1_gatherGroup 104 = .ok (.iadd, 1) := by decide +kernel
theorem dX1_gatherGroup_105 : decode cX1_gatherGroup 105 = .ok (.putfield 28, 3) := by decide +kernel
theorem dX1_gatherGroup_108 : decode cX1_gatherGroup 108 = .ok (.iinc 5 1, 3) := by decide +kernel
theorem dX1_gatherGroup_111 : decode cX1_gatherGroup 111 = .ok (.iinc 6 1, 3) := by decide +kernel
theorem dX1_gatherGroup_114 : decode cX1_gatherGroup 114 = .ok (.goto (-77), 3) := by decide +kernel
theorem dX1_gatherGroup_117 : decode cX1_gatherGroup 117 = .ok (.aload_n 0, 1) := by decide +kernel
theorem dX1_gatherGroup_118 : decode cX1_gatherGroup 118 = .ok (.getfield 9, 3) := by decide +kernel
theorem dX1_gatherGroup_121 : decode cX1_gatherGroup 121 = .ok (.aload_n 0, 1) := by decide +kernel
theorem dX1_gatherGroup_122 : decode cX1_gatherGroup 122 = .ok (.getfield 24, 3) := by decide +kernel
theorem dX1_gatherGroup_125 : decode cX1_gatherGroup 125 = .ok (.iload_n 2, 1) := by decide +kernel
theorem dX1_gatherGroup_126 : decode cX1_gatherGroup 126 = .ok (.iastore, 1) := by decide +kernel
theorem dX1_gatherGroup_127 : decode cX1_gatherGroup 127 = .ok (.aload_n 0, 1) := by decide +kernel
theorem dX1_gatherGroup_128 : decode cX1_gatherGroup 128 = .ok (.getfield 15, 3) := by decide +kernel
theorem dX1_gatherGroup_131 : decode cX1_gatherGroup 131 = .ok (.aload_n 0, 1) := by decide +kernel
theorem dX1_gatherGroup_132 : decode cX1_gatherGroup 132 = .ok (.getfield 24, 3) := by decide +kernel
theorem dX1_gatherGroup_135 : decode cX1_gatherGroup 135 = .ok (.iload 5, 2) := by decide +kernel
theorem dX1_gatherGroup_137 : decode cX1_gatherGroup 137 = .ok (.iastore, 1) := by decide +kernel
theorem dX1_gatherGroup_138 : decode cX1_gatherGroup 138 = .ok (.aload_n 0, 1) := by decide +kernel
theorem dX1_gatherGroup_139 : decode cX1_gatherGroup 139 = .ok (.getfield 18, 3) := by decide +kernel
theorem dX1_gatherGroup_142 : decode cX1_gatherGroup 142 = .ok (.aload_n 0, 1) := by decide +kernel
theorem dX1_gatherGroup_143 : decode cX1_gatherGroup 143 = .ok (.getfield 24, 3) := by decide +kernel
theorem dX1_gatherGroup_146 : decode cX1_gatherGroup 146 = .ok (.iconst 1, 1) := by decide +kernel
theorem dX1_gatherGroup_147 : decode cX1_gatherGroup 147 = .ok (.iadd, 1) := by decide +kernel
theorem dX1_gatherGroup_148 : decode cX1_gatherGroup 148 = .ok (.iload_n 3, 1) := by decide +kernel
theorem dX1_gatherGroup_149 : decode cX1_gatherGroup 149 = .ok (.iastore, 1) := by decide +kernel
theorem dX1_gatherGroup_150 : decode cX1_gatherGroup 150 = .ok (.aload_n 0, 1) := by decide +kernel
theorem dX1_gatherGroup_151 : decode cX1_gatherGroup 151 = .ok (.getfield 21, 3) := by decide +kernel
theorem dX1_gatherGroup_154 : decode cX1_gatherGroup 154 = .ok (.aload_n 0, 1) := by decide +kernel
theorem dX1_gatherGroup_155 : decode cX1_gatherGroup 155 = .ok (.getfield 24, 3) := by decide +kernel
theorem dX1_gatherGroup_158 : decode cX1_gatherGroup 158 = .ok (.iconst 1, 1) := by decide +kernel
theorem dX1_gatherGroup_159 : decode cX1_gatherGroup 159 = .ok (.iadd, 1) := by decide +kernel
theorem dX1_gatherGroup_160 : decode cX1_gatherGroup 160 = .ok (.iload 4, 2) := by decide +kernel
theorem dX1_gatherGroup_162 : decode cX1_gatherGroup 162 = .ok (.iastore, 1) := by decide +kernel
theorem dX1_gatherGroup_163 : decode cX1_gatherGroup 163 = .ok (.aload_n 0, 1) := by decide +kernel
theorem dX1_gatherGroup_164 : decode cX1_gatherGroup 164 = .ok (.dup, 1) := by decide +kernel
theorem dX1_gatherGroup_165 : decode cX1_gatherGroup 165 = .ok (.getfield 24, 3) := by decide +kernel
theorem dX1_gatherGroup_168 : decode cX1_gatherGroup 168 = .ok (.iconst 1, 1) := by decide +kernel
theorem dX1_gatherGroup_169 : decode cX1_gatherGroup 169 = .ok (.iadd, 1) := by decide +kernel
theorem dX1_gatherGroup_170 : decode cX1_gatherGroup 170 = .ok (.putfield 24, 3) := by decide +kernel
theorem dX1_gatherGroup_173 : decode cX1_gatherGroup 173 = .ok (.return_, 1) := by decide +kernel
set_option maxRecDepth 20000 in
theorem ggX1_positionOf_X1_has : GoodIn wsX1_positionOf wsX1_has := goodIn_r _ [6, 7, 8, 9, 10, 11, 12, 13] (by decide +kernel) (by decide +kernel)
set_option maxRecDepth 20000 in
theorem gX1_positionOf_X1_has : GoodIn wsX1_positionOf (wsV RX1 54 RX1 yX1_has wsX1_has) := goodIn_app (goodIn_of _ (by decide +kernel)) ggX1_positionOf_X1_has
theorem dX1_positionOf_0 : decode cX1_positionOf 0 = .ok (.aload_n 0, 1) := by decide +kernel
theorem dX1_positionOf_1 : decode cX1_positionOf 1 = .ok (.iload_n 1, 1) := by decide +kernel
theorem dX1_positionOf_2 : decode cX1_positionOf 2 = .ok (.invokevirtual 54, 3) := by decide +kernel
theorem dX1_positionOf_5 : decode cX1_positionOf 5 = .ok (.ifCond .eq 12, 3) := by decide +kernel
theorem dX1_positionOf_8 : decode cX1_positionOf 8 = .ok (.aload_n 0, 1) := by decide +kernel
theorem dX1_positionOf_9 : decode cX1_positionOf 9 = .ok (.getfield 9, 3) := by decide +kernel
theorem dX1_positionOf_12 : decode cX1_positionOf 12 = .ok (.iload_n 1, 1) := by decide +kernel
theorem dX1_positionOf_13 : decode cX1_positionOf 13 = .ok (.iaload, 1) := by decide +kernel
theorem dX1_positionOf_14 : decode cX1_positionOf 14 = .ok (.goto 4, 3) := by decide +kernel
theorem dX1_positionOf_17 : decode cX1_positionOf 17 = .ok (.iconst 0, 1) := by decide +kernel
theorem dX1_positionOf_18 : decode cX1_positionOf 18 = .ok (.ireturn, 1) := by decide +kernel
set_option maxRecDepth 20000 in
theorem ggX1_membersOf_X1_has : GoodIn wsX1_membersOf wsX1_has := goodIn_r _ [6, 7, 8, 9, 10, 11, 12, 13] (by decide +kernel) (by decide +kernel)
set_option maxRecDepth 20000 in
theorem gX1_membersOf_X1_has : GoodIn wsX1_membersOf (wsV RX1 54 RX1 yX1_has wsX1_has) := goodIn_app (goodIn_of _ (by decide +kernel)) ggX1_membersOf_X1_has
theorem dX1_membersOf_0 : decode cX1_membersOf 0 = .ok (.aload_n 0, 1) := by decide +kernel
theorem dX1_membersOf_1 : decode cX1_membersOf 1 = .ok (.iload_n 1, 1) := by decide +kernel
theorem dX1_membersOf_2 : decode cX1_membersOf 2 = .ok (.invokevirtual 54, 3) := by decide +kernel
theorem dX1_membersOf_5 : decode cX1_membersOf 5 = .ok (.ifCond .eq 12, 3) := by decide +kernel
theorem dX1_membersOf_8 : decode cX1_membersOf 8 = .ok (.aload_n 0, 1) := by decide +kernel
theorem dX1_membersOf_9 : decode cX1_membersOf 9 = .ok (.getfield 15, 3) := by decide +kernel
theorem dX1_membersOf_12 : decode cX1_membersOf 12 = .ok (.iload_n 1, 1) := by decide +kernel
theorem dX1_membersOf_13 : decode cX1_membersOf 13 = .ok (.iaload, 1) := by decide +kernel
theorem dX1_membersOf_14 : decode cX1_membersOf 14 = .ok (.goto 4, 3) := by decide +kernel
theorem dX1_membersOf_17 : decode cX1_membersOf 17 = .ok (.iconst 0, 1) := by decide +kernel
theorem dX1_membersOf_18 : decode cX1_membersOf 18 = .ok (.ireturn, 1) := by decide +kernel
theorem dX1_weightOf_0 : decode cX1_weightOf 0 = .ok (.iload_n 1, 1) := by decide +kernel
theorem dX1_weightOf_1 : decode cX1_weightOf 1 = .ok (.ifCond .lt 16, 3) := by decide +kernel
theorem dX1_weightOf_4 : decode cX1_weightOf 4 = .ok (.iload_n 2, 1) := by decide +kernel
theorem dX1_weightOf_5 : decode cX1_weightOf 5 = .ok (.iload_n 1, 1) := by decide +kernel
theorem dX1_weightOf_6 : decode cX1_weightOf 6 = .ok (.if_icmp .lt 11, 3) := by decide +kernel
theorem dX1_weightOf_9 : decode cX1_weightOf 9 = .ok (.iload_n 2, 1) := by decide +kernel
theorem dX1_weightOf_10 : decode cX1_weightOf 10 = .ok (.aload_n 0, 1) := by decide +kernel
theorem dX1_weightOf_11 : decode cX1_weightOf 11 = .ok (.getfield 24, 3) := by decide +kernel
theorem dX1_weightOf_14 : decode cX1_weightOf 14 = .ok (.if_icmp .lt 5, 3) := by decide +kernel
theorem dX1_weightOf_17 : decode cX1_weightOf 17 = .ok (.iconst 0, 1) := by decide +kernel
theorem dX1_weightOf_18 : decode cX1_weightOf 18 = .ok (.ireturn, 1) := by decide +kernel
theorem dX1_weightOf_19 : decode cX1_weightOf 19 = .ok (.aload_n 0, 1) := by decide +kernel
theorem dX1_weightOf_20 : decode cX1_weightOf 20 = .ok (.getfield 18, 3) := by decide +kernel
theorem dX1_weightOf_23 : decode cX1_weightOf 23 = .ok (.iload_n 2, 1) := by decide +kernel
theorem dX1_weightOf_24 : decode cX1_weightOf 24 = .ok (.iconst 1, 1) := by decide +kernel
theorem dX1_weightOf_25 : decode cX1_weightOf 25 = .ok (.iadd, 1) := by decide +kernel
theorem dX1_weightOf_26 : decode cX1_weightOf 26 = .ok (.iaload, 1) := by decide +kernel
theorem dX1_weightOf_27 : decode cX1_weightOf 27 = .ok (.aload_n 0, 1) := by decide +kernel
theorem dX1_weightOf_28 : decode cX1_weightOf 28 = .ok (.getfield 18, 3) := by decide +kernel
theorem dX1_weightOf_31 : decode cX1_weightOf 31 = .ok (.iload_n 1, 1) := by decide +kernel
theorem dX1_weightOf_32 : decode cX1_weightOf 32 = .ok (.iaload, 1) := by decide +kernel
theorem dX1_weightOf_33 : decode cX1_weightOf 33 = .ok (.isub, 1) := by decide +kernel
theorem dX1_weightOf_34 : decode cX1_weightOf 34 = .ok (.ireturn, 1) := by decide +kernel
theorem dX1_momentOf_0 : decode cX1_momentOf 0 = .ok (.iload_n 1, 1) := by decide +kernel
theorem dX1_momentOf_1 : decode cX1_momentOf 1 = .ok (.ifCond .lt 16, 3) := by decide +kernel
theorem dX1_momentOf_4 : decode cX1_momentOf 4 = .ok (.iload_n 2, 1) := by decide +kernel
theorem dX1_momentOf_5 : decode cX1_momentOf 5 = .ok (.iload_n 1, 1) := by decide +kernel
theorem dX1_momentOf_6 : decode cX1_momentOf 6 = .ok (.if_icmp .lt 11, 3) := by decide +kernel
theorem dX1_momentOf_9 : decode cX1_momentOf 9 = .ok (.iload_n 2, 1) := by decide +kernel
theorem dX1_momentOf_10 : decode cX1_momentOf 10 = .ok (.aload_n 0, 1) := by decide +kernel
theorem dX1_momentOf_11 : decode cX1_momentOf 11 = .ok (.getfield 24, 3) := by decide +kernel
theorem dX1_momentOf_14 : decode cX1_momentOf 14 = .ok (.if_icmp .lt 5, 3) := by decide +kernel
theorem dX1_momentOf_17 : decode cX1_momentOf 17 = .ok (.iconst 0, 1) := by decide +kernel
theorem dX1_momentOf_18 : decode cX1_momentOf 18 = .ok (.ireturn, 1) := by decide +kernel
theorem dX1_momentOf_19 : decode cX1_momentOf 19 = .ok (.aload_n 0, 1) := by decide +kernel
theorem dX1_momentOf_20 : decode cX1_momentOf 20 = .ok (.getfield 21, 3) := by decide +kernel
theorem dX1_momentOf_23 : decode cX1_momentOf 23 = .ok (.iload_n 2, 1) := by decide +kernel
theorem dX1_momentOf_24 : decode cX1_momentOf 24 = .ok (.iconst 1, 1) := by decide +kernel
theorem dX1_momentOf_25 : decode cX1_momentOf 25 = .ok (.iadd, 1) := by decide +kernel
theorem dX1_momentOf_26 : decode cX1_momentOf 26 = .ok (.iaload, 1) := by decide +kernel
theorem dX1_momentOf_27 : decode cX1_momentOf 27 = .ok (.aload_n 0, 1) := by decide +kernel
theorem dX1_momentOf_28 : decode cX1_momentOf 28 = .ok (.getfield 21, 3) := by decide +kernel
theorem dX1_momentOf_31 : decode cX1_momentOf 31 = .ok (.iload_n 1, 1) := by decide +kernel
theorem dX1_momentOf_32 : decode cX1_momentOf 32 = .ok (.iaload, 1) := by decide +kernel
theorem dX1_momentOf_33 : decode cX1_momentOf 33 = .ok (.isub, 1) := by decide +kernel
theorem dX1_momentOf_34 : decode cX1_momentOf 34 = .ok (.ireturn, 1) := by decide +kernel
set_option maxRecDepth 20000 in
theorem ggX1_compareMeans_X1_momentOf : GoodIn wsX1_compareMeans wsX1_momentOf := goodIn_r _ [5, 6, 7, 13, 14, 15, 16, 17, 18] (by decide +kernel) (by decide +kernel)
set_option maxRecDepth 20000 in
theorem gX1_compareMeans_X1_momentOf : GoodIn wsX1_compareMeans (wsV RX1 58 RX1 yX1_momentOf wsX1_momentOf) := goodIn_app (goodIn_of _ (by decide +kernel)) ggX1_compareMeans_X1_momentOf
set_option maxRecDepth 20000 in
theorem ggX1_compareMeans_X1_weightOf : GoodIn wsX1_compareMeans wsX1_weightOf := goodIn_r _ [11, 6, 12, 13, 14, 15, 16, 17, 18] (by decide +kernel) (by decide +kernel)
set_option maxRecDepth 20000 in
theorem gX1_compareMeans_X1_weightOf : GoodIn wsX1_compareMeans (wsV RX1 62 RX1 yX1_weightOf wsX1_weightOf) := goodIn_app (goodIn_of _ (by decide +kernel)) ggX1_compareMeans_X1_weightOf
theorem dX1_compareMeans_0 : decode cX1_compareMeans 0 = .ok (.aload_n 0, 1) := by decide +kernel
theorem dX1_compareMeans_1 : decode cX1_compareMeans 1 = .ok (.iload_n 1, 1) := by decide +kernel
theorem dX1_compareMeans_2 : decode cX1_compareMeans 2 = .ok (.iload_n 2, 1) := by decide +kernel
theorem dX1_compareMeans_3 : decode cX1_compareMeans 3 = .ok (.invokevirtual 58, 3) := by decide +kernel
theorem dX1_compareMeans_6 : decode cX1_compareMeans 6 = .ok (.aload_n 0, 1) := by decide +kernel
theorem dX1_compareMeans_7 : decode cX1_compareMeans 7 = .ok (.iload_n 3, 1) := by decide +kernel
theorem dX1_compareMeans_8 : decode cX1_compareMeans 8 = .ok (.iload 4, 2) := by decide +kernel
theorem dX1_compareMeans_10 : decode cX1_compareMeans 10 = .ok (.invokevirtual 62, 3) := by decide +kernel
theorem dX1_compareMeans_13 : decode cX1_compareMeans 13 = .ok (.imul, 1) := by decide +kernel
theorem dX1_compareMeans_14 : decode cX1_compareMeans 14 = .ok (.aload_n 0, 1) := by decide +kernel
theorem dX1_compareMeans_15 : decode cX1_compareMeans 15 = .ok (.iload_n 3, 1) := by decide +kernel
theorem dX1_compareMeans_16 : decode cX1_compareMeans 16 = .ok (.iload 4, 2) := by decide +kernel
theorem dX1_compareMeans_18 : decode cX1_compareMeans 18 = .ok (.invokevirtual 58, 3) := by decide +kernel
theorem dX1_compareMeans_21 : decode cX1_compareMeans 21 = .ok (.aload_n 0, 1) := by decide +kernel
theorem dX1_compareMeans_22 : decode cX1_compareMeans 22 = .ok (.iload_n 1, 1) := by decide +kernel
theorem dX1_compareMeans_23 : decode cX1_compareMeans 23 = .ok (.iload_n 2, 1) := by decide +kernel
theorem dX1_compareMeans_24 : decode cX1_compareMeans 24 = .ok (.invokevirtual 62, 3) := by decide +kernel
theorem dX1_compareMeans_27 : decode cX1_compareMeans 27 = .ok (.imul, 1) := by decide +kernel
theorem dX1_compareMeans_28 : decode cX1_compareMeans 28 = .ok (.isub, 1) := by decide +kernel
theorem dX1_compareMeans_29 : decode cX1_compareMeans 29 = .ok (.ireturn, 1) := by decide +kernel
set_option maxRecDepth 20000 in
theorem ggX1_gainOf_X1_weightOf : GoodIn wsX1_gainOf wsX1_weightOf := goodIn_r _ [6, 7, 8, 14, 15, 16, 17, 18, 19] (by decide +kernel) (by decide +kernel)
set_option maxRecDepth 20000 in
theorem gX1_gainOf_X1_weightOf : GoodIn wsX1_gainOf (wsV RX1 62 RX1 yX1_weightOf wsX1_weightOf) := goodIn_app (goodIn_of _ (by decide +kernel)) ggX1_gainOf_X1_weightOf
set_option maxRecDepth 20000 in
theorem ggX1_gainOf_X1_momentOf : GoodIn wsX1_gainOf wsX1_momentOf := goodIn_r _ [12, 7, 13, 14, 15, 16, 17, 18, 19] (by decide +kernel) (by decide +kernel)
set_option maxRecDepth 20000 in
theorem gX1_gainOf_X1_momentOf : GoodIn wsX1_gainOf (wsV RX1 58 RX1 yX1_momentOf wsX1_momentOf) := goodIn_app (goodIn_of _ (by decide +kernel)) ggX1_gainOf_X1_momentOf
theorem dX1_gainOf_0 : decode cX1_gainOf 0 = .ok (.aload_n 0, 1) := by decide +kernel
theorem dX1_gainOf_1 : decode cX1_gainOf 1 = .ok (.iload_n 1, 1) := by decide +kernel
theorem dX1_gainOf_2 : decode cX1_gainOf 2 = .ok (.iload_n 2, 1) := by decide +kernel
theorem dX1_gainOf_3 : decode cX1_gainOf 3 = .ok (.invokevirtual 62, 3) := by decide +kernel
theorem dX1_gainOf_6 : decode cX1_gainOf 6 = .ok (.i2l, 1) := by decide +kernel
theorem dX1_gainOf_7 : decode cX1_gainOf 7 = .ok (.lstore_n 3, 1) := by decide +kernel
theorem dX1_gainOf_8 : decode cX1_gainOf 8 = .ok (.aload_n 0, 1) := by decide +kernel
theorem dX1_gainOf_9 : decode cX1_gainOf 9 = .ok (.iload_n 1, 1) := by decide +kernel
theorem dX1_gainOf_10 : decode cX1_gainOf 10 = .ok (.iload_n 2, 1) := by decide +kernel
theorem dX1_gainOf_11 : decode cX1_gainOf 11 = .ok (.invokevirtual 58, 3) := by decide +kernel
theorem dX1_gainOf_14 : decode cX1_gainOf 14 = .ok (.i2l, 1) := by decide +kernel
theorem dX1_gainOf_15 : decode cX1_gainOf 15 = .ok (.lstore 5, 2) := by decide +kernel
theorem dX1_gainOf_17 : decode cX1_gainOf 17 = .ok (.lload_n 3, 1) := by decide +kernel
theorem dX1_gainOf_18 : decode cX1_gainOf 18 = .ok (.lconst 0, 1) := by decide +kernel
theorem dX1_gainOf_19 : decode cX1_gainOf 19 = .ok (.lcmp, 1) := by decide +kernel
theorem dX1_gainOf_20 : decode cX1_gainOf 20 = .ok (.ifCond .gt 7, 3) := by decide +kernel
theorem dX1_gainOf_23 : decode cX1_gainOf 23 = .ok (.lconst 0, 1) := by decide +kernel
theorem dX1_gainOf_24 : decode cX1_gainOf 24 = .ok (.goto 14, 3) := by decide +kernel
theorem dX1_gainOf_27 : decode cX1_gainOf 27 = .ok (.lload 5, 2) := by decide +kernel
theorem dX1_gainOf_29 : decode cX1_gainOf 29 = .ok (.lload 5, 2) := by decide +kernel
theorem dX1_gainOf_31 : decode cX1_gainOf 31 = .ok (.lmul, 1) := by decide +kernel
theorem dX1_gainOf_32 : decode cX1_gainOf 32 = .ok (.ldc2_w 64, 3) := by decide +kernel
theorem dX1_gainOf_35 : decode cX1_gainOf 35 = .ok (.lload_n 3, 1) := by decide +kernel
theorem dX1_gainOf_36 : decode cX1_gainOf 36 = .ok (.ldiv, 1) := by decide +kernel
theorem dX1_gainOf_37 : decode cX1_gainOf 37 = .ok (.lmul, 1) := by decide +kernel
theorem dX1_gainOf_38 : decode cX1_gainOf 38 = .ok (.lreturn, 1) := by decide +kernel
theorem dX1_errorOfZero_0 : decode cX1_errorOfZero 0 = .ok (.ldc2_w 64, 3) := by decide +kernel
theorem dX1_errorOfZero_3 : decode cX1_errorOfZero 3 = .ok (.aload_n 0, 1) := by decide +kernel
theorem dX1_errorOfZero_4 : decode cX1_errorOfZero 4 = .ok (.getfield 28, 3) := by decide +kernel
theorem dX1_errorOfZero_7 : decode cX1_errorOfZero 7 = .ok (.i2l, 1) := by decide +kernel
theorem dX1_errorOfZero_8 : decode cX1_errorOfZero 8 = .ok (.lmul, 1) := by decide +kernel
theorem dX1_errorOfZero_9 : decode cX1_errorOfZero 9 = .ok (.lreturn, 1) := by decide +kernel
set_option maxRecDepth 20000 in
theorem ggX2_init_X5_init : GoodIn wsX2_init wsX5_init := goodIn_r _ [9, 10, 2, 3, 11, 12, 13, 14, 17, 18, 19, 20] (by decide +kernel) (by decide +kernel)
set_option maxRecDepth 20000 in
theorem gX2_init_X5_init_n17 : GoodIn wsX2_init (wsX5_init) := ggX2_init_X5_init
theorem dX2_init_0 : decode cX2_init 0 = .ok (.aload_n 0, 1) := by decide +kernel
theorem dX2_init_1 : decode cX2_init 1 = .ok (.invokespecial 3, 3) := by decide +kernel
theorem dX2_init_4 : decode cX2_init 4 = .ok (.aload_n 0, 1) := by decide +kernel
theorem dX2_init_5 : decode cX2_init 5 = .ok (.bipush 6, 2) := by decide +kernel
theorem dX2_init_7 : decode cX2_init 7 = .ok (.anewarray 9, 3) := by decide +kernel
theorem dX2_init_10 : decode cX2_init 10 = .ok (.putfield 11, 3) := by decide +kernel
theorem dX2_init_13 : decode cX2_init 13 = .ok (.iconst 0, 1) := by decide +kernel
theorem dX2_init_14 : decode cX2_init 14 = .ok (.istore_n 1, 1) := by decide +kernel
theorem dX2_init_15 : decode cX2_init 15 = .ok (.iload_n 1, 1) := by decide +kernel
theorem dX2_init_16 : decode cX2_init 16 = .ok (.bipush 6, 2) := by decide +kernel
theorem dX2_init_18 : decode cX2_init 18 = .ok (.if_icmp .ge 22, 3) := by decide +kernel
theorem dX2_init_21 : decode cX2_init 21 = .ok (.aload_n 0, 1) := by decide +kernel
theorem dX2_init_22 : decode cX2_init 22 = .ok (.getfield 11, 3) := by decide +kernel
theorem dX2_init_25 : decode cX2_init 25 = .ok (.iload_n 1, 1) := by decide +kernel
theorem dX2_init_26 : decode cX2_init 26 = .ok (.new 9, 3) := by decide +kernel
theorem dX2_init_29 : decode cX2_init 29 = .ok (.dup, 1) := by decide +kernel
theorem dX2_init_30 : decode cX2_init 30 = .ok (.invokespecial 17, 3) := by decide +kernel
theorem dX2_init_33 : decode cX2_init 33 = .ok (.aastore, 1) := by decide +kernel
theorem dX2_init_34 : decode cX2_init 34 = .ok (.iinc 1 1, 3) := by decide +kernel
theorem dX2_init_37 : decode cX2_init 37 = .ok (.goto (-22), 3) := by decide +kernel
theorem dX2_init_40 : decode cX2_init 40 = .ok (.return_, 1) := by decide +kernel
theorem dX2_size_0 : decode cX2_size 0 = .ok (.aload_n 0, 1) := by decide +kernel
theorem dX2_size_1 : decode cX2_size 1 = .ok (.getfield 18, 3) := by decide +kernel
theorem dX2_size_4 : decode cX2_size 4 = .ok (.ireturn, 1) := by decide +kernel
set_option maxRecDepth 20000 in
theorem ggX2_record_X2_forgetOldest : GoodIn wsX2_record wsX2_forgetOldest := goodIn_r _ [7, 2, 1, 25, 26] (by decide +kernel) (by decide +kernel)
set_option maxRecDepth 20000 in
theorem gX2_record_X2_forgetOldest : GoodIn wsX2_record (wsV RX2 22 RX2 yX2_forgetOldest wsX2_forgetOldest) := goodIn_app (goodIn_of _ (by decide +kernel)) ggX2_record_X2_forgetOldest
set_option maxRecDepth 20000 in
theorem ggX2_record_X5_copyTo : GoodIn wsX2_record wsX5_copyTo := goodIn_r _ [12, 13, 14, 15, 16, 17, 18, 19, 11, 20, 21, 22, 23, 24, 27, 28, 29, 30] (by decide +kernel) (by decide +kernel)
set_option maxRecDepth 20000 in
theorem gX2_record_X5_copyTo : GoodIn wsX2_record (wsV RX2 25 RX5 yX5_copyTo wsX5_copyTo) := goodIn_app (goodIn_of _ (by decide +kernel)) ggX2_record_X5_copyTo
theorem dX2_record_0 : decode cX2_record 0 = .ok (.aload_n 0, 1) := by decide +kernel
theorem dX2_record_1 : decode cX2_record 1 = .ok (.getfield 18, 3) := by decide +kernel
theorem dX2_record_4 : decode cX2_record 4 = .ok (.bipush 6, 2) := by decide +kernel
theorem dX2_record_6 : decode cX2_record 6 = .ok (.if_icmp .lt 7, 3) := by decide +kernel
theorem dX2_record_9 : decode cX2_record 9 = .ok (.aload_n 0, 1) := by decide +kernel
theorem dX2_record_10 : decode cX2_record 10 = .ok (.invokevirtual 22, 3) := by decide +kernel
theorem dX2_record_13 : decode cX2_record 13 = .ok (.aload_n 1, 1) := by decide +kernel
theorem dX2_record_14 : decode cX2_record 14 = .ok (.aload_n 0, 1) := by decide +kernel
theorem dX2_record_15 : decode cX2_record 15 = .ok (.getfield 11, 3) := by decide +kernel
theorem dX2_record_18 : decode cX2_record 18 = .ok (.aload_n 0, 1) := by decide +kernel
theorem dX2_record_19 : decode cX2_record 19 = .ok (.getfield 18, 3) := by decide +kernel
theorem dX2_record_22 : decode cX2_record 22 = .ok (.aaload, 1) := by decide +kernel
theorem dX2_record_23 : decode cX2_record 23 = .ok (.invokevirtual 25, 3) := by decide +kernel
theorem dX2_record_26 : decode cX2_record 26 = .ok (.aload_n 0, 1) := by decide +kernel
theorem dX2_record_27 : decode cX2_record 27 = .ok (.dup, 1) := by decide +kernel
theorem dX2_record_28 : decode cX2_record 28 = .ok (.getfield 18, 3) := by decide +kernel
theorem dX2_record_31 : decode cX2_record 31 = .ok (.iconst 1, 1) := by decide +kernel
theorem dX2_record_32 : decode cX2_record 32 = .ok (.iadd, 1) := by decide +kernel
theorem dX2_record_33 : decode cX2_record 33 = .ok (.putfield 18, 3) := by decide +kernel
theorem dX2_record_36 : decode cX2_record 36 = .ok (.return_, 1) := by decide +kernel
set_option maxRecDepth 20000 in
theorem ggX2_restore_X5_copyTo : GoodIn wsX2_restore wsX5_copyTo := goodIn_r _ [7, 8, 9, 10, 11, 12, 13, 14, 6, 15, 16, 17, 18, 19, 22, 23, 24, 25] (by decide +kernel) (by decide +kernel)
set_option maxRecDepth 20000 in
theorem gX2_restore_X5_copyTo : GoodIn wsX2_restore (wsV RX2 25 RX5 yX5_copyTo wsX5_copyTo) := goodIn_app (goodIn_of _ (by decide +kernel)) ggX2_restore_X5_copyTo
theorem dX2_restore_0 : decode cX2_restore 0 = .ok (.aload_n 0, 1) := by decide +kernel
theorem dX2_restore_1 : decode cX2_restore 1 = .ok (.getfield 18, 3) := by decide +kernel
theorem dX2_restore_4 : decode cX2_restore 4 = .ok (.ifCond .gt 4, 3) := by decide +kernel
theorem dX2_restore_7 : decode cX2_restore 7 = .ok (.return_, 1) := by decide +kernel
theorem dX2_restore_8 : decode cX2_restore 8 = .ok (.aload_n 0, 1) := by decide +kernel
theorem dX2_restore_9 : decode cX2_restore 9 = .ok (.dup, 1) := by decide +kernel
theorem dX2_restore_10 : decode cX2_restore 10 = .ok (.getfield 18, 3) := by decide +kernel
theorem dX2_restore_13 : decode cX2_restore 13 = .ok (.iconst 1, 1) := by decide +kernel
theorem dX2_restore_14 : decode cX2_restore 14 = .ok (.isub, 1) := by decide +kernel
theorem dX2_restore_15 : decode cX2_restore 15 = .ok (.putfield 18, 3) := by decide +kernel
theorem dX2_restore_18 : decode cX2_restore 18 = .ok (.aload_n 0, 1) := by decide +kernel
theorem dX2_restore_19 : decode cX2_restore 19 = .ok (.getfield 11, 3) := by decide +kernel
theorem dX2_restore_22 : decode cX2_restore 22 = .ok (.aload_n 0, 1) := by decide +kernel
theorem dX2_restore_23 : decode cX2_restore 23 = .ok (.getfield 18, 3) := by decide +kernel
theorem dX2_restore_26 : decode cX2_restore 26 = .ok (.aaload, 1) := by decide +kernel
theorem dX2_restore_27 : decode cX2_restore 27 = .ok (.astore_n 2, 1) := by decide +kernel
theorem dX2_restore_28 : decode cX2_restore 28 = .ok (.aload_n 2, 1) := by decide +kernel
theorem dX2_restore_29 : decode cX2_restore 29 = .ok (.ifnull 8, 3) := by decide +kernel
theorem dX2_restore_32 : decode cX2_restore 32 = .ok (.aload_n 2, 1) := by decide +kernel
theorem dX2_restore_33 : decode cX2_restore 33 = .ok (.aload_n 1, 1) := by decide +kernel
theorem dX2_restore_34 : decode cX2_restore 34 = .ok (.invokevirtual 25, 3) := by decide +kernel
theorem dX2_restore_37 : decode cX2_restore 37 = .ok (.return_, 1) := by decide +kernel
theorem dX2_forgetOldest_0 : decode cX2_forgetOldest 0 = .ok (.aload_n 0, 1) := by decide +kernel
theorem dX2_forgetOldest_1 : decode cX2_forgetOldest 1 = .ok (.getfield 11, 3) := by decide +kernel
theorem dX2_forgetOldest_4 : decode cX2_forgetOldest 4 = .ok (.iconst 0, 1) := by decide +kernel
theorem dX2_forgetOldest_5 : decode cX2_forgetOldest 5 = .ok (.aaload, 1) := by decide +kernel
theorem dX2_forgetOldest_6 : decode cX2_forgetOldest 6 = .ok (.astore_n 1, 1) := by decide +kernel
theorem dX2_forgetOldest_7 : decode cX2_forgetOldest 7 = .ok (.iconst 1, 1) := by decide +kernel
theorem dX2_forgetOldest_8 : decode cX2_forgetOldest 8 = .ok (.istore_n 2, 1) := by decide +kernel
theorem dX2_forgetOldest_9 : decode cX2_forgetOldest 9 = .ok (.iload_n 2, 1) := by decide +kernel
theorem dX2_forgetOldest_10 : decode cX2_forgetOldest 10 = .ok (.bipush 6, 2) := by decide +kernel
theorem dX2_forgetOldest_12 : decode cX2_forgetOldest 12 = .ok (.if_icmp .ge 23, 3) := by decide +kernel
theorem dX2_forgetOldest_15 : decode cX2_forgetOldest 15 = .ok (.aload_n 0, 1) := by decide +kernel
theorem dX2_forgetOldest_16 : decode cX2_forgetOldest 16 = .ok (.getfield 11, 3) := by decide +kernel
theorem dX2_forgetOldest_19 : decode cX2_forgetOldest 19 = .ok (.iload_n 2, 1) := by decide +kernel
theorem dX2_forgetOldest_20 : decode cX2_forgetOldest 20 = .ok (.iconst 1, 1) := by decide +kernel
theorem dX2_forgetOldest_21 : decode cX2_forgetOldest 21 = .ok (.isub, 1) := by decide +kernel
theorem dX2_forgetOldest_22 : decode cX2_forgetOldest 22 = .ok (.aload_n 0, 1) := by decide +kernel
theorem dX2_forgetOldest_23 : decode cX2_forgetOldest 23 = .ok (.getfield 11, 3) := by decide +kernel
theorem dX2_forgetOldest_26 : decode cX2_forgetOldest 26 = .ok (.iload_n 2, 1) := by decide +kernel
theorem dX2_forgetOldest_27 : decode cX2_forgetOldest 27 = .ok (.aaload, 1) := by decide +kernel
theorem dX2_forgetOldest_28 : decode cX2_forgetOldest 28 = .ok (.aastore, 1) := by decide +kernel
theorem dX2_forgetOldest_29 : decode cX2_forgetOldest 29 = .ok (.iinc 2 1, 3) := by decide +kernel
theorem dX2_forgetOldest_32 : decode cX2_forgetOldest 32 = .ok (.goto (-23), 3) := by decide +kernel
theorem dX2_forgetOldest_35 : decode cX2_forgetOldest 35 = .ok (.aload_n 0, 1) := by decide +kernel
theorem dX2_forgetOldest_36 : decode cX2_forgetOldest 36 = .ok (.getfield 11, 3) := by decide +kernel
theorem dX2_forgetOldest_39 : decode cX2_forgetOldest 39 = .ok (.iconst 5, 1) := by decide +kernel
theorem dX2_forgetOldest_40 : decode cX2_forgetOldest 40 = .ok (.aload_n 1, 1) := by decide +kernel
theorem dX2_forgetOldest_41 : decode cX2_forgetOldest 41 = .ok (.aastore, 1) := by decide +kernel
theorem dX2_forgetOldest_42 : decode cX2_forgetOldest 42 = .ok (.aload_n 0, 1) := by decide +kernel
theorem dX2_forgetOldest_43 : decode cX2_forgetOldest 43 = .ok (.iconst 5, 1) := by decide +kernel
theorem dX2_forgetOldest_44 : decode cX2_forgetOldest 44 = .ok (.putfield 18, 3) := by decide +kernel
theorem dX2_forgetOldest_47 : decode cX2_forgetOldest 47 = .ok (.return_, 1) := by decide +kernel
theorem dX3_init_0 : decode cX3_init 0 = .ok (.aload_n 0, 1) := by decide +kernel
theorem dX3_init_1 : decode cX3_init 1 = .ok (.invokespecial 3, 3) := by decide +kernel
theorem dX3_init_4 : decode cX3_init 4 = .ok (.aload_n 0, 1) := by decide +kernel
theorem dX3_init_5 : decode cX3_init 5 = .ok (.bipush 12, 2) := by decide +kernel
theorem dX3_init_7 : decode cX3_init 7 = .ok (.newarray .int, 2) := by decide +kernel
theorem dX3_init_9 : decode cX3_init 9 = .ok (.putfield 9, 3) := by decide +kernel
theorem dX3_init_12 : decode cX3_init 12 = .ok (.aload_n 0, 1) := by decide +kernel
theorem dX3_init_13 : decode cX3_init 13 = .ok (.aload_n 1, 1) := by decide +kernel
theorem dX3_init_14 : decode cX3_init 14 = .ok (.putfield 15, 3) := by decide +kernel
theorem dX3_init_17 : decode cX3_init 17 = .ok (.aload_n 0, 1) := by decide +kernel
theorem dX3_init_18 : decode cX3_init 18 = .ok (.iload_n 2, 1) := by decide +kernel
theorem dX3_init_19 : decode cX3_init 19 = .ok (.putfield 19, 3) := by decide +kernel
theorem dX3_init_22 : decode cX3_init 22 = .ok (.return_, 1) := by decide +kernel
set_option maxRecDepth 20000 in
theorem ggX3_draw_X1_size : GoodIn wsX3_draw wsX1_size := goodIn_r _ [8, 9, 56, 57, 58, 59, 60, 61] (by decide +kernel) (by decide +kernel)
set_option maxRecDepth 20000 in
theorem gX3_draw_X1_size : GoodIn wsX3_draw (wsV RX3 26 RX1 yX1_size wsX1_size) := goodIn_app (goodIn_of _ (by decide +kernel)) ggX3_draw_X1_size
set_option maxRecDepth 20000 in
theorem ggX3_draw_X3_bends : GoodIn wsX3_draw wsX3_bends := goodIn_r _ [14, 15, 16, 17, 18, 13, 19, 2, 20, 21, 22, 7, 23, 24, 25, 26, 27, 9, 28, 29, 30, 31, 32, 33, 34, 35, 36, 37, 38, 39, 40, 41, 42, 43, 44, 45, 46, 47, 48, 49, 50, 51, 52, 53, 54, 55, 56, 57, 58, 59, 60, 61] (by decide +kernel) (by decide +kernel)
set_option maxRecDepth 20000 in
theorem gX3_draw_X3_bends : GoodIn wsX3_draw (wsV RX3 32 RX3 yX3_bends wsX3_bends) := goodIn_app (goodIn_of _ (by decide +kernel)) ggX3_draw_X3_bends
theorem dX3_draw_0 : decode cX3_draw 0 = .ok (.aload_n 0, 1) := by decide +kernel
theorem dX3_draw_1 : decode cX3_draw 1 = .ok (.iconst 0, 1) := by decide +kernel
theorem dX3_draw_2 : decode cX3_draw 2 = .ok (.putfield 23, 3) := by decide +kernel
theorem dX3_draw_5 : decode cX3_draw 5 = .ok (.iconst 0, 1) := by decide +kernel
theorem dX3_draw_6 : decode cX3_draw 6 = .ok (.istore_n 1, 1) := by decide +kernel
theorem dX3_draw_7 : decode cX3_draw 7 = .ok (.iload_n 1, 1) := by decide +kernel
theorem dX3_draw_8 : decode cX3_draw 8 = .ok (.aload_n 0, 1) := by decide +kernel
theorem dX3_draw_9 : decode cX3_draw 9 = .ok (.getfield 15, 3) := by decide +kernel
theorem dX3_draw_12 : decode cX3_draw 12 = .ok (.invokevirtual 26, 3) := by decide +kernel
theorem dX3_draw_15 : decode cX3_draw 15 = .ok (.if_icmp .ge 85, 3) := by decide +kernel
theorem dX3_draw_18 : decode cX3_draw 18 = .ok (.aload_n 0, 1) := by decide +kernel
theorem dX3_draw_19 : decode cX3_draw 19 = .ok (.getfield 23, 3) := by decide +kernel
theorem dX3_draw_22 : decode cX3_draw 22 = .ok (.bipush 12, 2) := by decide +kernel
theorem dX3_draw_24 : decode cX3_draw 24 = .ok (.if_icmp .ge 76, 3) := by decide +kernel
theorem dX3_draw_27 : decode cX3_draw 27 = .ok (.aload_n 0, 1) := by decide +kernel
theorem dX3_draw_28 : decode cX3_draw 28 = .ok (.getfield 23, 3) := by decide +kernel
theorem dX3_draw_31 : decode cX3_draw 31 = .ok (.iconst 1, 1) := by decide +kernel
theorem dX3_draw_32 : decode cX3_draw 32 = .ok (.isub, 1) := by decide +kernel
theorem dX3_draw_33 : decode cX3_draw 33 = .ok (.istore_n 2, 1) := by decide +kernel
theorem dX3_draw_34 : decode cX3_draw 34 = .ok (.iload_n 2, 1) := by decide +kernel
theorem dX3_draw_35 : decode cX3_draw 35 = .ok (.ifCond .le 39, 3) := by decide +kernel
theorem dX3_draw_38 : decode cX3_draw 38 = .ok (.aload_n 0, 1) := by decide +kernel
theorem dX3_draw_39 : decode cX3_draw 39 = .ok (.aload_n 0, 1) := by decide +kernel
theorem dX3_draw_40 : decode cX3_draw 40 = .ok (.getfield 9, 3) := by decide +kernel
theorem dX3_draw_43 : decode cX3_draw 43 = .ok (.iload_n 2, 1) := by decide +kernel
theorem dX3_draw_44 : decode cX3_draw 44 = .ok (.iconst 1, 1) := by decide +kernel
theorem dX3_draw_45 : decode cX3_draw 45 = .ok (.isub, 1) := by decide +kernel
theorem dX3_draw_46 : decode cX3_draw 46 = .ok (.iaload, 1) := by decide +kernel
theorem dX3_draw_47 : decode cX3_draw 47 = .ok (.aload_n 0, 1) := by decide +kernel
theorem dX3_draw_48 : decode cX3_draw 48 = .ok (.getfield 9, 3) := by decide +kernel
theorem dX3_draw_51 : decode cX3_draw 51 = .ok (.iload_n 2, 1) := by decide +kernel
theorem dX3_draw_52 : decode cX3_draw 52 = .ok (.iaload, 1) := by decide +kernel
theorem dX3_draw_53 : decode cX3_draw 53 = .ok (.iload_n 1, 1) := by decide +kernel
theorem dX3_draw_54 : decode cX3_draw 54 = .ok (.invokevirtual 32, 3) := by decide +kernel
theorem dX3_draw_57 : decode cX3_draw 57 = .ok (.ifCond .eq 6, 3) := by decide +kernel
theorem dX3_draw_60 : decode cX3_draw 60 = .ok (.goto 14, 3) := by decide +kernel
theorem dX3_draw_63 : decode cX3_draw 63 = .ok (.aload_n 0, 1) := by decide +kernel
theorem dX3_draw_64 : decode cX3_draw 64 = .ok (.iload_n 2, 1) := by decide +kernel
theorem dX3_draw_65 : decode cX3_draw 65 = .ok (.putfield 23, 3) := by decide +kernel
theorem dX3_draw_68 : decode cX3_draw 68 = .ok (.iinc 2 (-1), 3) := by decide +kernel
theorem dX3_draw_71 : decode cX3_draw 71 = .ok (.goto (-37), 3) := by decide +kernel
theorem dX3_draw_74 : decode cX3_draw 74 = .ok (.aload_n 0, 1) := by decide +kernel
theorem dX3_draw_75 : decode cX3_draw 75 = .ok (.getfield 9, 3) := by decide +kernel
theorem dX3_draw_78 : decode cX3_draw 78 = .ok (.aload_n 0, 1) := by decide +kernel
theorem dX3_draw_79 : decode cX3_draw 79 = .ok (.getfield 23, 3) := by decide +kernel
theorem dX3_draw_82 : decode cX3_draw 82 = .ok (.iload_n 1, 1) := by decide +kernel
theorem dX3_draw_83 : decode cX3_draw 83 = .ok (.iastore, 1) := by decide +kernel
theorem dX3_draw_84 : decode cX3_draw 84 = .ok (.aload_n 0, 1) := by decide +kernel
theorem dX3_draw_85 : decode cX3_draw 85 = .ok (.dup, 1) := by decide +kernel
theorem dX3_draw_86 : decode cX3_draw 86 = .ok (.getfield 23, 3) := by decide +kernel
theorem dX3_draw_89 : decode cX3_draw 89 = .ok (.iconst 1, 1) := by decide +kernel
theorem dX3_draw_90 : decode cX3_draw 90 = .ok (.iadd, 1) := by decide +kernel
theorem dX3_draw_91 : decode cX3_draw 91 = .ok (.putfield 23, 3) := by decide +kernel
theorem dX3_draw_94 : decode cX3_draw 94 = .ok (.iinc 1 1, 3) := by decide +kernel
theorem dX3_draw_97 : decode cX3_draw 97 = .ok (.goto (-90), 3) := by decide +kernel
theorem dX3_draw_100 : decode cX3_draw 100 = .ok (.return_, 1) := by decide +kernel
theorem dX3_innerCorners_0 : decode cX3_innerCorners 0 = .ok (.iconst 0, 1) := by decide +kernel
theorem dX3_innerCorners_1 : decode cX3_innerCorners 1 = .ok (.aload_n 0, 1) := by decide +kernel
theorem dX3_innerCorners_2 : decode cX3_innerCorners 2 = .ok (.getfield 23, 3) := by decide +kernel
theorem dX3_innerCorners_5 : decode cX3_innerCorners 5 = .ok (.iconst 2, 1) := by decide +kernel
theorem dX3_innerCorners_6 : decode cX3_innerCorners 6 = .ok (.isub, 1) := by decide +kernel
theorem dX3_innerCorners_7 : decode cX3_innerCorners 7 = .ok (.invokestatic 36, 3) := by decide +kernel
theorem dX3_innerCorners_10 : decode cX3_innerCorners 10 = .ok (.ireturn, 1) := by decide +kernel
set_option maxRecDepth 20000 in
theorem ggX3_innerCorner_X3_innerCorners : GoodIn wsX3_innerCorner wsX3_innerCorners := goodIn_r _ [6, 7, 8, 9, 10, 11, 12, 13, 14, 15] (by decide +kernel) (by decide +kernel)
set_option maxRecDepth 20000 in
theorem gX3_innerCorner_X3_innerCorners : GoodIn wsX3_innerCorner (wsV RX3 42 RX3 yX3_innerCorners wsX3_innerCorners) := goodIn_app (goodIn_of _ (by decide +kernel)) ggX3_innerCorner_X3_innerCorners
theorem dX3_innerCorner_0 : decode cX3_innerCorner 0 = .ok (.iload_n 1, 1) := by decide +kernel
theorem dX3_innerCorner_1 : decode cX3_innerCorner 1 = .ok (.ifCond .lt 22, 3) := by decide +kernel
theorem dX3_innerCorner_4 : decode cX3_innerCorner 4 = .ok (.iload_n 1, 1) := by decide +kernel
theorem dX3_innerCorner_5 : decode cX3_innerCorner 5 = .ok (.aload_n 0, 1) := by decide +kernel
theorem dX3_innerCorner_6 : decode cX3_innerCorner 6 = .ok (.invokevirtual 42, 3) := by decide +kernel
theorem dX3_innerCorner_9 : decode cX3_innerCorner 9 = .ok (.if_icmp .ge 14, 3) := by decide +kernel
theorem dX3_innerCorner_12 : decode cX3_innerCorner 12 = .ok (.aload_n 0, 1) := by decide +kernel
theorem dX3_innerCorner_13 : decode cX3_innerCorner 13 = .ok (.getfield 9, 3) := by decide +kernel
theorem dX3_innerCorner_16 : decode cX3_innerCorner 16 = .ok (.iload_n 1, 1) := by decide +kernel
theorem dX3_innerCorner_17 : decode cX3_innerCorner 17 = .ok (.iconst 1, 1) := by decide +kernel
theorem dX3_innerCorner_18 : decode cX3_innerCorner 18 = .ok (.iadd, 1) := by decide +kernel
theorem dX3_innerCorner_19 : decode cX3_innerCorner 19 = .ok (.iaload, 1) := by decide +kernel
theorem dX3_innerCorner_20 : decode cX3_innerCorner 20 = .ok (.goto 4, 3) := by decide +kernel
theorem dX3_innerCorner_23 : decode cX3_innerCorner 23 = .ok (.iconst (-1), 1) := by decide +kernel
theorem dX3_innerCorner_24 : decode cX3_innerCorner 24 = .ok (.ireturn, 1) := by decide +kernel
set_option maxRecDepth 20000 in
theorem ggX3_bends_X3_rise : GoodIn wsX3_bends wsX3_rise := goodIn_r _ [6, 7, 8, 9, 10, 11, 12, 13, 14, 15, 16, 17, 18, 19, 20, 21, 22, 23, 42, 43, 44, 45, 46, 47, 48, 49, 50, 51] (by decide +kernel) (by decide +kernel)
set_option maxRecDepth 20000 in
theorem gX3_bends_X3_rise : GoodIn wsX3_bends (wsV RX3 45 RX3 yX3_rise wsX3_rise) := goodIn_app (goodIn_of _ (by decide +kernel)) ggX3_bends_X3_rise
set_option maxRecDepth 20000 in
theorem ggX3_bends_X3_weight : GoodIn wsX3_bends wsX3_weight := goodIn_r _ [27, 7, 28, 20, 21, 11, 22, 17, 23, 42, 43, 44, 45, 46, 47, 48, 49, 50, 51] (by decide +kernel) (by decide +kernel)
set_option maxRecDepth 20000 in
theorem gX3_bends_X3_weight : GoodIn wsX3_bends (wsV RX3 49 RX3 yX3_weight wsX3_weight) := goodIn_app (goodIn_of _ (by decide +kernel)) ggX3_bends_X3_weight
set_option maxRecDepth 20000 in
theorem ggX3_bends_X3_distance : GoodIn wsX3_bends wsX3_distance := goodIn_r _ [32, 7, 33, 34, 35, 11, 36, 37, 38, 39, 40, 41, 17, 42, 43, 44, 45, 46, 47, 48, 49, 50, 51] (by decide +kernel) (by decide +kernel)
set_option maxRecDepth 20000 in
theorem gX3_bends_X3_distance : GoodIn wsX3_bends (wsV RX3 53 RX3 yX3_distance wsX3_distance) := goodIn_app (goodIn_of _ (by decide +kernel)) ggX3_bends_X3_distance
theorem dX3_bends_0 : decode cX3_bends 0 = .ok (.aload_n 0, 1) := by decide +kernel
theorem dX3_bends_1 : decode cX3_bends 1 = .ok (.iload_n 1, 1) := by decide +kernel
theorem dX3_bends_2 : decode cX3_bends 2 = .ok (.iload_n 2, 1) := by decide +kernel
theorem dX3_bends_3 : decode cX3_bends 3 = .ok (.invokevirtual 45, 3) := by decide +kernel
theorem dX3_bends_6 : decode cX3_bends 6 = .ok (.aload_n 0, 1) := by decide +kernel
theorem dX3_bends_7 : decode cX3_bends 7 = .ok (.iload_n 3, 1) := by decide +kernel
theorem dX3_bends_8 : decode cX3_bends 8 = .ok (.invokevirtual 49, 3) := by decide +kernel
theorem dX3_bends_11 : decode cX3_bends 11 = .ok (.lmul, 1) := by decide +kernel
theorem dX3_bends_12 : decode cX3_bends 12 = .ok (.aload_n 0, 1) := by decide +kernel
theorem dX3_bends_13 : decode cX3_bends 13 = .ok (.iload_n 2, 1) := by decide +kernel
theorem dX3_bends_14 : decode cX3_bends 14 = .ok (.iload_n 3, 1) := by decide +kernel
theorem dX3_bends_15 : decode cX3_bends 15 = .ok (.invokevirtual 53, 3) := by decide +kernel
theorem dX3_bends_18 : decode cX3_bends 18 = .ok (.lmul, 1) := by decide +kernel
theorem dX3_bends_19 : decode cX3_bends 19 = .ok (.lstore 4, 2) := by decide +kernel
theorem dX3_bends_21 : decode cX3_bends 21 = .ok (.aload_n 0, 1) := by decide +kernel
theorem dX3_bends_22 : decode cX3_bends 22 = .ok (.iload_n 2, 1) := by decide +kernel
theorem dX3_bends_23 : decode cX3_bends 23 = .ok (.iload_n 3, 1) := by decide +kernel
theorem dX3_bends_24 : decode cX3_bends 24 = .ok (.invokevirtual 45, 3) := by decide +kernel
theorem dX3_bends_27 : decode cX3_bends 27 = .ok (.aload_n 0, 1) := by decide +kernel
theorem dX3_bends_28 : decode cX3_bends 28 = .ok (.iload_n 1, 1) := by decide +kernel
theorem dX3_bends_29 : decode cX3_bends 29 = .ok (.invokevirtual 49, 3) := by decide +kernel
theorem dX3_bends_32 : decode cX3_bends 32 = .ok (.lmul, 1) := by decide +kernel
theorem dX3_bends_33 : decode cX3_bends 33 = .ok (.aload_n 0, 1) := by decide +kernel
theorem dX3_bends_34 : decode cX3_bends 34 = .ok (.iload_n 1, 1) := by decide +kernel
theorem dX3_bends_35 : decode cX3_bends 35 = .ok (.iload_n 2, 1) := by decide +kernel
theorem dX3_bends_36 : decode cX3_bends 36 = .ok (.invokevirtual 53, 3) := by decide +kernel
theorem dX3_bends_39 : decode cX3_bends 39 = .ok (.lmul, 1) := by decide +kernel
theorem dX3_bends_40 : decode cX3_bends 40 = .ok (.lstore 6, 2) := by decide +kernel
theorem dX3_bends_42 : decode cX3_bends 42 = .ok (.aload_n 0, 1) := by decide +kernel
theorem dX3_bends_43 : decode cX3_bends 43 = .ok (.getfield 19, 3) := by decide +kernel
theorem dX3_bends_46 : decode cX3_bends 46 = .ok (.i2l, 1) := by decide +kernel
theorem dX3_bends_47 : decode cX3_bends 47 = .ok (.lload 4, 2) := by decide +kernel
theorem dX3_bends_49 : decode cX3_bends 49 = .ok (.lmul, 1) := by decide +kernel
theorem dX3_bends_50 : decode cX3_bends 50 = .ok (.aload_n 0, 1) := by decide +kernel
theorem dX3_bends_51 : decode cX3_bends 51 = .ok (.getfield 19, 3) := by decide +kernel
theorem dX3_bends_54 : decode cX3_bends 54 = .ok (.i2l, 1) := by decide +kernel
theorem dX3_bends_55 : decode cX3_bends 55 = .ok (.lload 6, 2) := by decide +kernel
theorem dX3_bends_57 : decode cX3_bends 57 = .ok (.lmul, 1) := by decide +kernel
theorem dX3_bends_58 : decode cX3_bends 58 = .ok (.lcmp, 1) := by decide +kernel
theorem dX3_bends_59 : decode cX3_bends 59 = .ok (.ifCond .ge 7, 3) := by decide +kernel
theorem dX3_bends_62 : decode cX3_bends 62 = .ok (.iconst 1, 1) := by decide +kernel
theorem dX3_bends_63 : decode cX3_bends 63 = .ok (.goto 4, 3) := by decide +kernel
theorem dX3_bends_66 : decode cX3_bends 66 = .ok (.iconst 0, 1) := by decide +kernel
theorem dX3_bends_67 : decode cX3_bends 67 = .ok (.ireturn, 1) := by decide +kernel
set_option maxRecDepth 20000 in
theorem ggX3_rise_X1_compareMeans : GoodIn wsX3_rise wsX1_compareMeans := goodIn_r _ [6, 7, 8, 9, 5, 10, 11, 12, 13, 14, 15, 16, 17, 22, 23, 24, 25, 26, 27] (by decide +kernel) (by decide +kernel)
set_option maxRecDepth 20000 in
theorem gX3_rise_X1_compareMeans : GoodIn wsX3_rise (wsV RX3 56 RX1 yX1_compareMeans wsX1_compareMeans) := goodIn_app (goodIn_of _ (by decide +kernel)) ggX3_rise_X1_compareMeans
theorem dX3_rise_0 : decode cX3_rise 0 = .ok (.aload_n 0, 1) := by decide +kernel
theorem dX3_rise_1 : decode cX3_rise 1 = .ok (.getfield 15, 3) := by decide +kernel
theorem dX3_rise_4 : decode cX3_rise 4 = .ok (.iload_n 2, 1) := by decide +kernel
theorem dX3_rise_5 : decode cX3_rise 5 = .ok (.iload_n 2, 1) := by decide +kernel
theorem dX3_rise_6 : decode cX3_rise 6 = .ok (.iload_n 1, 1) := by decide +kernel
theorem dX3_rise_7 : decode cX3_rise 7 = .ok (.iload_n 1, 1) := by decide +kernel
theorem dX3_rise_8 : decode cX3_rise 8 = .ok (.invokevirtual 56, 3) := by decide +kernel
theorem dX3_rise_11 : decode cX3_rise 11 = .ok (.i2l, 1) := by decide +kernel
theorem dX3_rise_12 : decode cX3_rise 12 = .ok (.lreturn, 1) := by decide +kernel
set_option maxRecDepth 20000 in
theorem ggX3_weight_X1_weightOf : GoodIn wsX3_weight wsX1_weightOf := goodIn_r _ [6, 7, 8, 13, 14, 15, 16, 17, 18] (by decide +kernel) (by decide +kernel)
set_option maxRecDepth 20000 in
theorem gX3_weight_X1_weightOf : GoodIn wsX3_weight (wsV RX3 60 RX1 yX1_weightOf wsX1_weightOf) := goodIn_app (goodIn_of _ (by decide +kernel)) ggX3_weight_X1_weightOf
theorem dX3_weight_0 : decode cX3_weight 0 = .ok (.aload_n 0, 1) := by decide +kernel
theorem dX3_weight_1 : decode cX3_weight 1 = .ok (.getfield 15, 3) := by decide +kernel
theorem dX3_weight_4 : decode cX3_weight 4 = .ok (.iload_n 1, 1) := by decide +kernel
theorem dX3_weight_5 : decode cX3_weight 5 = .ok (.iload_n 1, 1) := by decide +kernel
theorem dX3_weight_6 : decode cX3_weight 6 = .ok (.invokevirtual 60, 3) := by decide +kernel
theorem dX3_weight_9 : decode cX3_weight 9 = .ok (.i2l, 1) := by decide +kernel
theorem dX3_weight_10 : decode cX3_weight 10 = .ok (.lreturn, 1) := by decide +kernel
set_option maxRecDepth 20000 in
theorem ggX3_moment_X1_momentOf : GoodIn wsX3_moment wsX1_momentOf := goodIn_r _ [6, 7, 8, 13, 14, 15, 16, 17, 18] (by decide +kernel) (by decide +kernel)
set_option maxRecDepth 20000 in
theorem gX3_moment_X1_momentOf : GoodIn wsX3_moment (wsV RX3 63 RX1 yX1_momentOf wsX1_momentOf) := goodIn_app (goodIn_of _ (by decide +kernel)) ggX3_moment_X1_momentOf
theorem dX3_moment_0 : decode cX3_moment 0 = .ok (.aload_n 0, 1) := by decide +kernel
theorem dX3_moment_1 : decode cX3_moment 1 = .ok (.getfield 15, 3) := by decide +kernel
theorem dX3_moment_4 : decode cX3_moment 4 = .ok (.iload_n 1, 1) := by decide +kernel
theorem dX3_moment_5 : decode cX3_moment 5 = .ok (.iload_n 1, 1) := by decide +kernel
theorem dX3_moment_6 : decode cX3_moment 6 = .ok (.invokevirtual 63, 3) := by decide +kernel
theorem dX3_moment_9 : decode cX3_moment 9 = .ok (.i2l, 1) := by decide +kernel
theorem dX3_moment_10 : decode cX3_moment 10 = .ok (.lreturn, 1) := by decide +kernel
set_option maxRecDepth 20000 in
theorem ggX3_distance_X1_positionOf : GoodIn wsX3_distance wsX1_positionOf := goodIn_r _ [6, 7, 8, 9, 10, 5, 11, 12, 17, 18, 19, 20, 21, 22] (by decide +kernel) (by decide +kernel)
set_option maxRecDepth 20000 in
theorem gX3_distance_X1_positionOf : GoodIn wsX3_distance (wsV RX3 66 RX1 yX1_positionOf wsX1_positionOf) := goodIn_app (goodIn_of _ (by decide +kernel)) ggX3_distance_X1_positionOf
theorem dX3_distance_0 : decode cX3_distance 0 = .ok (.aload_n 0, 1) := by decide +kernel
theorem dX3_distance_1 : decode cX3_distance 1 = .ok (.getfield 15, 3) := by decide +kernel
theorem dX3_distance_4 : decode cX3_distance 4 = .ok (.iload_n 2, 1) := by decide +kernel
theorem dX3_distance_5 : decode cX3_distance 5 = .ok (.invokevirtual 66, 3) := by decide +kernel
theorem dX3_distance_8 : decode cX3_distance 8 = .ok (.aload_n 0, 1) := by decide +kernel
theorem dX3_distance_9 : decode cX3_distance 9 = .ok (.getfield 15, 3) := by decide +kernel
theorem dX3_distance_12 : decode cX3_distance 12 = .ok (.iload_n 1, 1) := by decide +kernel
theorem dX3_distance_13 : decode cX3_distance 13 = .ok (.invokevirtual 66, 3) := by decide +kernel
theorem dX3_distance_16 : decode cX3_distance 16 = .ok (.isub, 1) := by decide +kernel
theorem dX3_distance_17 : decode cX3_distance 17 = .ok (.i2l, 1) := by decide +kernel
theorem dX3_distance_18 : decode cX3_distance 18 = .ok (.lreturn, 1) := by decide +kernel
set_option maxRecDepth 20000 in
theorem ggX3_numeratorAt_X3_cornerUpTo : GoodIn wsX3_numeratorAt wsX3_cornerUpTo := goodIn_r _ [5, 6, 7, 46, 47, 48, 49] (by decide +kernel) (by decide +kernel)
set_option maxRecDepth 20000 in
theorem gX3_numeratorAt_X3_cornerUpTo : GoodIn wsX3_numeratorAt (wsV RX3 70 RX3 yX3_cornerUpTo wsX3_cornerUpTo) := goodIn_app (goodIn_of _ (by decide +kernel)) ggX3_numeratorAt_X3_cornerUpTo
set_option maxRecDepth 20000 in
theorem ggX3_numeratorAt_X3_cornerFrom : GoodIn wsX3_numeratorAt wsX3_cornerFrom := goodIn_r _ [11, 6, 7, 46, 47, 48, 49] (by decide +kernel) (by decide +kernel)
set_option maxRecDepth 20000 in
theorem gX3_numeratorAt_X3_cornerFrom : GoodIn wsX3_numeratorAt (wsV RX3 73 RX3 yX3_cornerFrom wsX3_cornerFrom) := goodIn_app (goodIn_of _ (by decide +kernel)) ggX3_numeratorAt_X3_cornerFrom
set_option maxRecDepth 20000 in
theorem ggX3_numeratorAt_X3_moment : GoodIn wsX3_numeratorAt wsX3_moment := goodIn_r _ [15, 16, 17, 18, 19, 20, 21, 22, 23, 46, 47, 48, 49, 50, 51, 52, 53, 54, 55] (by decide +kernel) (by decide +kernel)
set_option maxRecDepth 20000 in
theorem gX3_numeratorAt_X3_moment : GoodIn wsX3_numeratorAt (wsV RX3 76 RX3 yX3_moment wsX3_moment) := goodIn_app (goodIn_of _ (by decide +kernel)) ggX3_numeratorAt_X3_moment
set_option maxRecDepth 20000 in
theorem ggX3_numeratorAt_X3_weight : GoodIn wsX3_numeratorAt wsX3_weight := goodIn_r _ [27, 16, 28, 29, 30, 20, 31, 22, 32, 46, 47, 48, 49, 50, 51, 52, 53, 54, 55] (by decide +kernel) (by decide +kernel)
set_option maxRecDepth 20000 in
theorem gX3_numeratorAt_X3_weight : GoodIn wsX3_numeratorAt (wsV RX3 49 RX3 yX3_weight wsX3_weight) := goodIn_app (goodIn_of _ (by decide +kernel)) ggX3_numeratorAt_X3_weight
set_option maxRecDepth 20000 in
theorem ggX3_numeratorAt_X3_distance : GoodIn wsX3_numeratorAt wsX3_distance := goodIn_r _ [36, 16, 37, 38, 39, 20, 40, 41, 42, 43, 44, 45, 22, 46, 47, 48, 49, 50, 51, 52, 53, 54, 55] (by decide +kernel) (by decide +kernel)
set_option maxRecDepth 20000 in
theorem gX3_numeratorAt_X3_distance : GoodIn wsX3_numeratorAt (wsV RX3 53 RX3 yX3_distance wsX3_distance) := goodIn_app (goodIn_of _ (by decide +kernel)) ggX3_numeratorAt_X3_distance
theorem dX3_numeratorAt_0 : decode cX3_numeratorAt 0 = .ok (.aload_n 0, 1) := by decide +kernel
theorem dX3_numeratorAt_1 : decode cX3_numeratorAt 1 = .ok (.iload_n 1, 1) := by decide +kernel
theorem dX3_numeratorAt_2 : decode cX3_numeratorAt 2 = .ok (.invokevirtual 70, 3) := by decide +kernel
theorem dX3_numeratorAt_5 : decode cX3_numeratorAt 5 = .ok (.istore_n 2, 1) := by decide +kernel
theorem dX3_numeratorAt_6 : decode cX3_numeratorAt 6 = .ok (.aload_n 0, 1) := by decide +kernel
theorem dX3_numeratorAt_7 : decode cX3_numeratorAt 7 = .ok (.iload_n 1, 1) := by decide +kernel
theorem dX3_numeratorAt_8 : decode cX3_numeratorAt 8 = .ok (.invokevirtual 73, 3) := by decide +kernel
theorem dX3_numeratorAt_11 : decode cX3_numeratorAt 11 = .ok (.istore_n 3, 1) := by decide +kernel
theorem dX3_numeratorAt_12 : decode cX3_numeratorAt 12 = .ok (.iload_n 2, 1) := by decide +kernel
theorem dX3_numeratorAt_13 : decode cX3_numeratorAt 13 = .ok (.iload_n 3, 1) := by decide +kernel
theorem dX3_numeratorAt_14 : decode cX3_numeratorAt 14 = .ok (.if_icmp .ne 9, 3) := by decide +kernel
theorem dX3_numeratorAt_17 : decode cX3_numeratorAt 17 = .ok (.aload_n 0, 1) := by decide +kernel
theorem dX3_numeratorAt_18 : decode cX3_numeratorAt 18 = .ok (.iload_n 1, 1) := by decide +kernel
theorem dX3_numeratorAt_19 : decode cX3_numeratorAt 19 = .ok (.invokevirtual 76, 3) := by decide +kernel
theorem dX3_numeratorAt_22 : decode cX3_numeratorAt 22 = .ok (.lreturn, 1) := by decide +kernel
theorem dX3_numeratorAt_23 : decode cX3_numeratorAt 23 = .ok (.aload_n 0, 1) := by decide +kernel
theorem dX3_numeratorAt_24 : decode cX3_numeratorAt 24 = .ok (.iload_n 2, 1) := by decide +kernel
theorem dX3_numeratorAt_25 : decode cX3_numeratorAt 25 = .ok (.invokevirtual 76, 3) := by decide +kernel
theorem dX3_numeratorAt_28 : decode cX3_numeratorAt 28 = .ok (.aload_n 0, 1) := by decide +kernel
theorem dX3_numeratorAt_29 : decode cX3_numeratorAt 29 = .ok (.iload_n 3, 1) := by decide +kernel
theorem dX3_numeratorAt_30 : decode cX3_numeratorAt 30 = .ok (.invokevirtual 49, 3) := by decide +kernel
theorem dX3_numeratorAt_33 : decode cX3_numeratorAt 33 = .ok (.lmul, 1) := by decide +kernel
theorem dX3_numeratorAt_34 : decode cX3_numeratorAt 34 = .ok (.aload_n 0, 1) := by decide +kernel
theorem dX3_numeratorAt_35 : decode cX3_numeratorAt 35 = .ok (.iload_n 1, 1) := by decide +kernel
theorem dX3_numeratorAt_36 : decode cX3_numeratorAt 36 = .ok (.iload_n 3, 1) := by decide +kernel
theorem dX3_numeratorAt_37 : decode cX3_numeratorAt 37 = .ok (.invokevirtual 53, 3) := by decide +kernel
theorem dX3_numeratorAt_40 : decode cX3_numeratorAt 40 = .ok (.lmul, 1) := by decide +kernel
theorem dX3_numeratorAt_41 : decode cX3_numeratorAt 41 = .ok (.aload_n 0, 1) := by decide +kernel
theorem dX3_numeratorAt_42 : decode cX3_numeratorAt 42 = .ok (.iload_n 3, 1) := by decide +kernel
theorem dX3_numeratorAt_43 : decode cX3_numeratorAt 43 = .ok (.invokevirtual 76, 3) := by decide +kernel
theorem dX3_numeratorAt_46 : decode cX3_numeratorAt 46 = .ok (.aload_n 0, 1) := by decide +kernel
theorem dX3_numeratorAt_47 : decode cX3_numeratorAt 47 = .ok (.iload_n 2, 1) := by decide +kernel
theorem dX3_numeratorAt_48 : decode cX3_numeratorAt 48 = .ok (.invokevirtual 49, 3) := by decide +kernel
theorem dX3_numeratorAt_51 : decode cX3_numeratorAt 51 = .ok (.lmul, 1) := by decide +kernel
theorem dX3_numeratorAt_52 : decode cX3_numeratorAt 52 = .ok (.aload_n 0, 1) := by decide +kernel
theorem dX3_numeratorAt_53 : decode cX3_numeratorAt 53 = .ok (.iload_n 2, 1) := by decide +kernel
theorem dX3_numeratorAt_54 : decode cX3_numeratorAt 54 = .ok (.iload_n 1, 1) := by decide +kernel
theorem dX3_numeratorAt_55 : decode cX3_numeratorAt 55 = .ok (.invokevirtual 53, 3) := by decide +kernel
theorem dX3_numeratorAt_58 : decode cX3_numeratorAt 58 = .ok (.lmul, 1) := by decide +kernel
theorem dX3_numeratorAt_59 : decode cX3_numeratorAt 59 = .ok (.ladd, 1) := by decide +kernel
theorem dX3_numeratorAt_60 : decode cX3_numeratorAt 60 = .ok (.lreturn, 1) := by decide +kernel
set_option maxRecDepth 20000 in
theorem ggX3_denominatorAt_X3_cornerUpTo : GoodIn wsX3_denominatorAt wsX3_cornerUpTo := goodIn_r _ [5, 6, 7, 37, 38, 39, 40] (by decide +kernel) (by decide +kernel)
set_option maxRecDepth 20000 in
theorem gX3_denominatorAt_X3_cornerUpTo : GoodIn wsX3_denominatorAt (wsV RX3 70 RX3 yX3_cornerUpTo wsX3_cornerUpTo) := goodIn_app (goodIn_of _ (by decide +kernel)) ggX3_denominatorAt_X3_cornerUpTo
set_option maxRecDepth 20000 in
theorem ggX3_denominatorAt_X3_cornerFrom : GoodIn wsX3_denominatorAt wsX3_cornerFrom := goodIn_r _ [11, 6, 7, 37, 38, 39, 40] (by decide +kernel) (by decide +kernel)
set_option maxRecDepth 20000 in
theorem gX3_denominatorAt_X3_cornerFrom : GoodIn wsX3_denominatorAt (wsV RX3 73 RX3 yX3_cornerFrom wsX3_cornerFrom) := goodIn_app (goodIn_of _ (by decide +kernel)) ggX3_denominatorAt_X3_cornerFrom
set_option maxRecDepth 20000 in
theorem ggX3_denominatorAt_X3_weight : GoodIn wsX3_denominatorAt wsX3_weight := goodIn_r _ [15, 16, 17, 18, 19, 20, 21, 22, 23, 37, 38, 39, 40, 41, 42, 43, 44, 45, 46] (by decide +kernel) (by decide +kernel)
set_option maxRecDepth 20000 in
theorem gX3_denominatorAt_X3_weight : GoodIn wsX3_denominatorAt (wsV RX3 49 RX3 yX3_weight wsX3_weight) := goodIn_app (goodIn_of _ (by decide +kernel)) ggX3_denominatorAt_X3_weight
set_option maxRecDepth 20000 in
theorem ggX3_denominatorAt_X3_distance : GoodIn wsX3_denominatorAt wsX3_distance := goodIn_r _ [27, 16, 28, 29, 30, 20, 31, 32, 33, 34, 35, 36, 22, 37, 38, 39, 40, 41, 42, 43, 44, 45, 46] (by decide +kernel) (by decide +kernel)
set_option maxRecDepth 20000 in
theorem gX3_denominatorAt_X3_distance : GoodIn wsX3_denominatorAt (wsV RX3 53 RX3 yX3_distance wsX3_distance) := goodIn_app (goodIn_of _ (by decide +kernel)) ggX3_denominatorAt_X3_distance
theorem dX3_denominatorAt_0 : decode cX3_denominatorAt 0 = .ok (.aload_n 0, 1) := by decide +kernel
theorem dX3_denominatorAt_1 : decode cX3_denominatorAt 1 = .ok (.iload_n 1, 1) := by decide +kernel
theorem dX3_denominatorAt_2 : decode cX3_denominatorAt 2 = .ok (.invokevirtual 70, 3) := by decide +kernel
theorem dX3_denominatorAt_5 : decode cX3_denominatorAt 5 = .ok (.istore_n 2, 1) := by decide +kernel
theorem dX3_denominatorAt_6 : decode cX3_denominatorAt 6 = .ok (.aload_n 0, 1) := by decide +kernel
theorem dX3_denominatorAt_7 : decode cX3_denominatorAt 7 = .ok (.iload_n 1, 1) := by decide +kernel
theorem dX3_denominatorAt_8 : decode cX3_denominatorAt 8 = .ok (.invokevirtual 73, 3) := by decide +kernel
theorem dX3_denominatorAt_11 : decode cX3_denominatorAt 11 = .ok (.istore_n 3, 1) := by decide +kernel
theorem dX3_denominatorAt_12 : decode cX3_denominatorAt 12 = .ok (.iload_n 2, 1) := by decide +kernel
theorem dX3_denominatorAt_13 : decode cX3_denominatorAt 13 = .ok (.iload_n 3, 1) := by decide +kernel
theorem dX3_denominatorAt_14 : decode cX3_denominatorAt 14 = .ok (.if_icmp .ne 9, 3) := by decide +kernel
theorem dX3_denominatorAt_17 : decode cX3_denominatorAt 17 = .ok (.aload_n 0, 1) := by decide +kernel
theorem dX3_denominatorAt_18 : decode cX3_denominatorAt 18 = .ok (.iload_n 1, 1) := by decide +kernel
theorem dX3_denominatorAt_19 : decode cX3_denominatorAt 19 = .ok (.invokevirtual 49, 3) := by decide +kernel
theorem dX3_denominatorAt_22 : decode cX3_denominatorAt 22 = .ok (.lreturn, 1) := by decide +kernel
theorem dX3_denominatorAt_23 : decode cX3_denominatorAt 23 = .ok (.aload_n 0, 1) := by decide +kernel
theorem dX3_denominatorAt_24 : decode cX3_denominatorAt 24 = .ok (.iload_n 2, 1) := by decide +kernel
theorem dX3_denominatorAt_25 : decode cX3_denominatorAt 25 = .ok (.invokevirtual 49, 3) := by decide +kernel
theorem dX3_denominatorAt_28 : decode cX3_denominatorAt 28 = .ok (.aload_n 0, 1) := by decide +kernel
theorem dX3_denominatorAt_29 : decode cX3_denominatorAt 29 = .ok (.iload_n 3, 1) := by decide +kernel
theorem dX3_denominatorAt_30 : decode cX3_denominatorAt 30 = .ok (.invokevirtual 49, 3) := by decide +kernel
theorem dX3_denominatorAt_33 : decode cX3_denominatorAt 33 = .ok (.lmul, 1) := by decide +kernel
theorem dX3_denominatorAt_34 : decode cX3_denominatorAt 34 = .ok (.aload_n 0, 1) := by decide +kernel
theorem dX3_denominatorAt_35 : decode cX3_denominatorAt 35 = .ok (.iload_n 2, 1) := by decide +kernel
theorem dX3_denominatorAt_36 : decode cX3_denominatorAt 36 = .ok (.iload_n 3, 1) := by decide +kernel
theorem dX3_denominatorAt_37 : decode cX3_denominatorAt 37 = .ok (.invokevirtual 53, 3) := by decide +kernel
theorem dX3_denominatorAt_40 : decode cX3_denominatorAt 40 = .ok (.lmul, 1) := by decide +kernel
theorem dX3_denominatorAt_41 : decode cX3_denominatorAt 41 = .ok (.lreturn, 1) := by decide +kernel
theorem dX3_cornerUpTo_0 : decode cX3_cornerUpTo 0 = .ok (.iload_n 1, 1) := by decide +kernel
theorem dX3_cornerUpTo_1 : decode cX3_cornerUpTo 1 = .ok (.istore_n 2, 1) := by decide +kernel
theorem dX3_cornerUpTo_2 : decode cX3_cornerUpTo 2 = .ok (.iconst 0, 1) := by decide +kernel
theorem dX3_cornerUpTo_3 : decode cX3_cornerUpTo 3 = .ok (.istore_n 3, 1) := by decide +kernel
theorem dX3_cornerUpTo_4 : decode cX3_cornerUpTo 4 = .ok (.iload_n 3, 1) := by decide +kernel
theorem dX3_cornerUpTo_5 : decode cX3_cornerUpTo 5 = .ok (.aload_n 0, 1) := by decide +kernel
theorem dX3_cornerUpTo_6 : decode cX3_cornerUpTo 6 = .ok (.getfield 23, 3) := by decide +kernel
theorem dX3_cornerUpTo_9 : decode cX3_cornerUpTo 9 = .ok (.if_icmp .ge 26, 3) := by decide +kernel
theorem dX3_cornerUpTo_12 : decode cX3_cornerUpTo 12 = .ok (.aload_n 0, 1) := by decide +kernel
theorem dX3_cornerUpTo_13 : decode cX3_cornerUpTo 13 = .ok (.getfield 9, 3) := by decide +kernel
theorem dX3_cornerUpTo_16 : decode cX3_cornerUpTo 16 = .ok (.iload_n 3, 1) := by decide +kernel
theorem dX3_cornerUpTo_17 : decode cX3_cornerUpTo 17 = .ok (.iaload, 1) := by decide +kernel
theorem dX3_cornerUpTo_18 : decode cX3_cornerUpTo 18 = .ok (.iload_n 1, 1) := by decide +kernel
theorem dX3_cornerUpTo_19 : decode cX3_cornerUpTo 19 = .ok (.if_icmp .gt 10, 3) := by decide +kernel
theorem dX3_cornerUpTo_22 : decode cX3_cornerUpTo 22 = .ok (.aload_n 0, 1) := by decide +kernel
theorem dX3_cornerUpTo_23 : decode cX3_cornerUpTo 23 = .ok (.getfield 9, 3) := by decide +kernel
theorem dX3_cornerUpTo_26 : decode cX3_cornerUpTo 26 = .ok (.iload_n 3, 1) := by decide +kernel
theorem dX3_cornerUpTo_27 : decode cX3_cornerUpTo 27 = .ok (.iaload, 1) := by decide +kernel
theorem dX3_cornerUpTo_28 : decode cX3_cornerUpTo 28 = .ok (.istore_n 2, 1) := by decide +kernel
theorem dX3_cornerUpTo_29 : decode cX3_cornerUpTo 29 = .ok (.iinc 3 1, 3) := by decide +kernel
theorem dX3_cornerUpTo_32 : decode cX3_cornerUpTo 32 = .ok (.goto (-28), 3) := by decide +kernel
theorem dX3_cornerUpTo_35 : decode cX3_cornerUpTo 35 = .ok (.iload_n 2, 1) := by decide +kernel
theorem dX3_cornerUpTo_36 : decode cX3_cornerUpTo 36 = .ok (.ireturn, 1) := by decide +kernel
theorem dX3_cornerFrom_0 : decode cX3_cornerFrom 0 = .ok (.iload_n 1, 1) := by decide +kernel
theorem dX3_cornerFrom_1 : decode cX3_cornerFrom 1 = .ok (.istore_n 2, 1) := by decide +kernel
theorem dX3_cornerFrom_2 : decode cX3_cornerFrom 2 = .ok (.aload_n 0, 1) := by decide +kernel
theorem dX3_cornerFrom_3 : decode cX3_cornerFrom 3 = .ok (.getfield 23, 3) := by decide +kernel
theorem dX3_cornerFrom_6 : decode cX3_cornerFrom 6 = .ok (.iconst 1, 1) := by decide +kernel
theorem dX3_cornerFrom_7 : decode cX3_cornerFrom 7 = .ok (.isub, 1) := by decide +kernel
theorem dX3_cornerFrom_8 : decode cX3_cornerFrom 8 = .ok (.istore_n 3, 1) := by decide +kernel
theorem dX3_cornerFrom_9 : decode cX3_cornerFrom 9 = .ok (.iload_n 3, 1) := by decide +kernel
theorem dX3_cornerFrom_10 : decode cX3_cornerFrom 10 = .ok (.ifCond .lt 26, 3) := by decide +kernel
theorem dX3_cornerFrom_13 : decode cX3_cornerFrom 13 = .ok (.aload_n 0, 1) := by decide +kernel
theorem dX3_cornerFrom_14 : decode cX3_cornerFrom 14 = .ok (.getfield 9, 3) := by decide +kernel
theorem dX3_cornerFrom_17 : decode cX3_cornerFrom 17 = .ok (.iload_n 3, 1) := by decide +kernel
theorem dX3_cornerFrom_18 : decode cX3_cornerFrom 18 = .ok (.iaload, 1) := by decide +kernel
theorem dX3_cornerFrom_19 : decode cX3_cornerFrom 19 = .ok (.iload_n 1, 1) := by decide +kernel
theorem dX3_cornerFrom_20 : decode cX3_cornerFrom 20 = .ok (.if_icmp .lt 10, 3) := by decide +kernel
theorem dX3_cornerFrom_23 : decode cX3_cornerFrom 23 = .ok (.aload_n 0, 1) := by decide +kernel
theorem dX3_cornerFrom_24 : decode cX3_cornerFrom 24 = .ok (.getfield 9, 3) := by decide +kernel
theorem dX3_cornerFrom_27 : decode cX3_cornerFrom 27 = .ok (.iload_n 3, 1) := by decide +kernel
theorem dX3_cornerFrom_28 : decode cX3_cornerFrom 28 = .ok (.iaload, 1) := by decide +kernel
theorem dX3_cornerFrom_29 : decode cX3_cornerFrom 29 = .ok (.istore_n 2, 1) := by decide +kernel
theorem dX3_cornerFrom_30 : decode cX3_cornerFrom 30 = .ok (.iinc 3 (-1), 3) := by decide +kernel
theorem dX3_cornerFrom_33 : decode cX3_cornerFrom 33 = .ok (.goto (-24), 3) := by decide +kernel
theorem dX3_cornerFrom_36 : decode cX3_cornerFrom 36 = .ok (.iload_n 2, 1) := by decide +kernel
theorem dX3_cornerFrom_37 : decode cX3_cornerFrom 37 = .ok (.ireturn, 1) := by decide +kernel
theorem dX4_init_0 : decode cX4_init 0 = .ok (.aload_n 0, 1) := by decide +kernel
theorem dX4_init_1 : decode cX4_init 1 = .ok (.invokespecial 3, 3) := by decide +kernel
theorem dX4_init_4 : decode cX4_init 4 = .ok (.aload_n 0, 1) := by decide +kernel
theorem dX4_init_5 : decode cX4_init 5 = .ok (.bipush 13, 2) := by decide +kernel
theorem dX4_init_7 : decode cX4_init 7 = .ok (.bipush 13, 2) := by decide +kernel
theorem dX4_init_9 : decode cX4_init 9 = .ok (.multianewarray 9 2, 4) := by decide +kernel
theorem dX4_init_13 : decode cX4_init 13 = .ok (.putfield 11, 3) := by decide +kernel
theorem dX4_init_16 : decode cX4_init 16 = .ok (.aload_n 0, 1) := by decide +kernel
theorem dX4_init_17 : decode cX4_init 17 = .ok (.bipush 13, 2) := by decide +kernel
theorem dX4_init_19 : decode cX4_init 19 = .ok (.bipush 13, 2) := by decide +kernel
theorem dX4_init_21 : decode cX4_init 21 = .ok (.multianewarray 16 2, 4) := by decide +kernel
theorem dX4_init_25 : decode cX4_init 25 = .ok (.putfield 18, 3) := by decide +kernel
theorem dX4_init_28 : decode cX4_init 28 = .ok (.aload_n 0, 1) := by decide +kernel
theorem dX4_init_29 : decode cX4_init 29 = .ok (.aload_n 1, 1) := by decide +kernel
theorem dX4_init_30 : decode cX4_init 30 = .ok (.putfield 21, 3) := by decide +kernel
theorem dX4_init_33 : decode cX4_init 33 = .ok (.return_, 1) := by decide +kernel
