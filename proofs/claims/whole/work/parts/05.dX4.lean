theorem dX4_init_0 : decode cX4_init 0 = .ok (.aload_n 0, 1) := by decide +kernel
theorem dX4_init_1 : decode cX4_init 1 = .ok (.invokespecial 1, 3) := by decide +kernel
theorem dX4_init_4 : decode cX4_init 4 = .ok (.aload_n 0, 1) := by decide +kernel
theorem dX4_init_5 : decode cX4_init 5 = .ok (.bipush 72, 2) := by decide +kernel
theorem dX4_init_7 : decode cX4_init 7 = .ok (.newarray .int, 2) := by decide +kernel
theorem dX4_init_9 : decode cX4_init 9 = .ok (.putfield 9, 3) := by decide +kernel
theorem dX4_init_12 : decode cX4_init 12 = .ok (.aload_n 0, 1) := by decide +kernel
theorem dX4_init_13 : decode cX4_init 13 = .ok (.bipush 12, 2) := by decide +kernel
theorem dX4_init_15 : decode cX4_init 15 = .ok (.newarray .int, 2) := by decide +kernel
theorem dX4_init_17 : decode cX4_init 17 = .ok (.putfield 13, 3) := by decide +kernel
theorem dX4_init_20 : decode cX4_init 20 = .ok (.aload_n 0, 1) := by decide +kernel
theorem dX4_init_21 : decode cX4_init 21 = .ok (.bipush 10, 2) := by decide +kernel
theorem dX4_init_23 : decode cX4_init 23 = .ok (.putfield 16, 3) := by decide +kernel
theorem dX4_init_26 : decode cX4_init 26 = .ok (.aload_n 0, 1) := by decide +kernel
theorem dX4_init_27 : decode cX4_init 27 = .ok (.bipush 30, 2) := by decide +kernel
theorem dX4_init_29 : decode cX4_init 29 = .ok (.newarray .int, 2) := by decide +kernel
theorem dX4_init_31 : decode cX4_init 31 = .ok (.putfield 20, 3) := by decide +kernel
theorem dX4_init_34 : decode cX4_init 34 = .ok (.aload_n 0, 1) := by decide +kernel
theorem dX4_init_35 : decode cX4_init 35 = .ok (.bipush 18, 2) := by decide +kernel
theorem dX4_init_37 : decode cX4_init 37 = .ok (.newarray .int, 2) := by decide +kernel
theorem dX4_init_39 : decode cX4_init 39 = .ok (.putfield 23, 3) := by decide +kernel
theorem dX4_init_42 : decode cX4_init 42 = .ok (.aload_n 0, 1) := by decide +kernel
theorem dX4_init_43 : decode cX4_init 43 = .ok (.bipush 6, 2) := by decide +kernel
theorem dX4_init_45 : decode cX4_init 45 = .ok (.anewarray 26, 3) := by decide +kernel
theorem dX4_init_48 : decode cX4_init 48 = .ok (.putfield 27, 3) := by decide +kernel
theorem dX4_init_51 : decode cX4_init 51 = .ok (.aload_n 0, 1) := by decide +kernel
theorem dX4_init_52 : decode cX4_init 52 = .ok (.bipush 6, 2) := by decide +kernel
theorem dX4_init_54 : decode cX4_init 54 = .ok (.anewarray 31, 3) := by decide +kernel
theorem dX4_init_57 : decode cX4_init 57 = .ok (.putfield 33, 3) := by decide +kernel
theorem dX4_init_60 : decode cX4_init 60 = .ok (.aload_n 0, 1) := by decide +kernel
theorem dX4_init_61 : decode cX4_init 61 = .ok (.bipush 36, 2) := by decide +kernel
theorem dX4_init_63 : decode cX4_init 63 = .ok (.newarray .int, 2) := by decide +kernel
theorem dX4_init_65 : decode cX4_init 65 = .ok (.putfield 37, 3) := by decide +kernel
theorem dX4_init_68 : decode cX4_init 68 = .ok (.return_, 1) := by decide +kernel
theorem dX4_thrown_0 : decode cX4_thrown 0 = .ok (.aload_n 0, 1) := by decide +kernel
theorem dX4_thrown_1 : decode cX4_thrown 1 = .ok (.getfield 40, 3) := by decide +kernel
theorem dX4_thrown_4 : decode cX4_thrown 4 = .ok (.ireturn, 1) := by decide +kernel
theorem dX4_fail_0 : decode cX4_fail 0 = .ok (.aload_n 0, 1) := by decide +kernel
theorem dX4_fail_1 : decode cX4_fail 1 = .ok (.iload_n 1, 1) := by decide +kernel
theorem dX4_fail_2 : decode cX4_fail 2 = .ok (.putfield 40, 3) := by decide +kernel
theorem dX4_fail_5 : decode cX4_fail 5 = .ok (.iconst 0, 1) := by decide +kernel
theorem dX4_fail_6 : decode cX4_fail 6 = .ok (.ireturn, 1) := by decide +kernel
theorem dX4_isIn_0 : decode cX4_isIn 0 = .ok (.iload_n 0, 1) := by decide +kernel
theorem dX4_isIn_1 : decode cX4_isIn 1 = .ok (.iload_n 1, 1) := by decide +kernel
theorem dX4_isIn_2 : decode cX4_isIn 2 = .ok (.if_icmp .lt 12, 3) := by decide +kernel
theorem dX4_isIn_5 : decode cX4_isIn 5 = .ok (.iload_n 0, 1) := by decide +kernel
theorem dX4_isIn_6 : decode cX4_isIn 6 = .ok (.iload_n 2, 1) := by decide +kernel
theorem dX4_isIn_7 : decode cX4_isIn 7 = .ok (.if_icmp .gt 7, 3) := by decide +kernel
theorem dX4_isIn_10 : decode cX4_isIn 10 = .ok (.iconst 1, 1) := by decide +kernel
theorem dX4_isIn_11 : decode cX4_isIn 11 = .ok (.goto 4, 3) := by decide +kernel
theorem dX4_isIn_14 : decode cX4_isIn 14 = .ok (.iconst 0, 1) := by decide +kernel
theorem dX4_isIn_15 : decode cX4_isIn 15 = .ok (.ireturn, 1) := by decide +kernel
set_option maxRecDepth 20000 in
theorem ggX4_isSack_X4_isIn : GoodIn wsX4_isSack wsX4_isIn := goodIn_r _ [5] (by decide +kernel) (by decide +kernel)
set_option maxRecDepth 20000 in
theorem gX4_isSack_X4_isIn : GoodIn wsX4_isSack (va_wsS RX4 46 yX4_isIn wsX4_isIn) := goodIn_app (goodIn_of _ (by decide +kernel)) ggX4_isSack_X4_isIn
theorem dX4_isSack_0 : decode cX4_isSack 0 = .ok (.iload_n 1, 1) := by decide +kernel
theorem dX4_isSack_1 : decode cX4_isSack 1 = .ok (.iconst 0, 1) := by decide +kernel
theorem dX4_isSack_2 : decode cX4_isSack 2 = .ok (.aload_n 0, 1) := by decide +kernel
theorem dX4_isSack_3 : decode cX4_isSack 3 = .ok (.getfield 43, 3) := by decide +kernel
theorem dX4_isSack_6 : decode cX4_isSack 6 = .ok (.iconst 1, 1) := by decide +kernel
theorem dX4_isSack_7 : decode cX4_isSack 7 = .ok (.isub, 1) := by decide +kernel
theorem dX4_isSack_8 : decode cX4_isSack 8 = .ok (.invokestatic 46, 3) := by decide +kernel
theorem dX4_isSack_11 : decode cX4_isSack 11 = .ok (.ireturn, 1) := by decide +kernel
set_option maxRecDepth 20000 in
theorem ggX4_isTick_X4_isIn : GoodIn wsX4_isTick wsX4_isIn := goodIn_r _ [5] (by decide +kernel) (by decide +kernel)
set_option maxRecDepth 20000 in
theorem gX4_isTick_X4_isIn : GoodIn wsX4_isTick (va_wsS RX4 46 yX4_isIn wsX4_isIn) := goodIn_app (goodIn_of _ (by decide +kernel)) ggX4_isTick_X4_isIn
theorem dX4_isTick_0 : decode cX4_isTick 0 = .ok (.iload_n 1, 1) := by decide +kernel
theorem dX4_isTick_1 : decode cX4_isTick 1 = .ok (.iconst 0, 1) := by decide +kernel
theorem dX4_isTick_2 : decode cX4_isTick 2 = .ok (.aload_n 0, 1) := by decide +kernel
theorem dX4_isTick_3 : decode cX4_isTick 3 = .ok (.getfield 50, 3) := by decide +kernel
theorem dX4_isTick_6 : decode cX4_isTick 6 = .ok (.iconst 1, 1) := by decide +kernel
theorem dX4_isTick_7 : decode cX4_isTick 7 = .ok (.isub, 1) := by decide +kernel
theorem dX4_isTick_8 : decode cX4_isTick 8 = .ok (.invokestatic 46, 3) := by decide +kernel
theorem dX4_isTick_11 : decode cX4_isTick 11 = .ok (.ireturn, 1) := by decide +kernel
theorem dX4_ti_0 : decode cX4_ti 0 = .ok (.aload_n 0, 1) := by decide +kernel
theorem dX4_ti_1 : decode cX4_ti 1 = .ok (.getfield 23, 3) := by decide +kernel
theorem dX4_ti_4 : decode cX4_ti 4 = .ok (.iconst 3, 1) := by decide +kernel
theorem dX4_ti_5 : decode cX4_ti 5 = .ok (.iload_n 1, 1) := by decide +kernel
theorem dX4_ti_6 : decode cX4_ti 6 = .ok (.imul, 1) := by decide +kernel
theorem dX4_ti_7 : decode cX4_ti 7 = .ok (.iload_n 2, 1) := by decide +kernel
theorem dX4_ti_8 : decode cX4_ti 8 = .ok (.iadd, 1) := by decide +kernel
theorem dX4_ti_9 : decode cX4_ti 9 = .ok (.iaload, 1) := by decide +kernel
theorem dX4_ti_10 : decode cX4_ti 10 = .ok (.ireturn, 1) := by decide +kernel
set_option maxRecDepth 20000 in
theorem ggX4_squaresOf_X4_ti : GoodIn wsX4_squaresOf wsX4_ti := goodIn_r _ [5, 6, 7, 8, 9, 10, 11, 12, 13, 14, 15, 16, 17, 18, 19, 20] (by decide +kernel) (by decide +kernel)
set_option maxRecDepth 20000 in
theorem gX4_squaresOf_X4_ti : GoodIn wsX4_squaresOf (wsV RX4 53 RX4 yX4_ti wsX4_ti) := goodIn_app (goodIn_of _ (by decide +kernel)) ggX4_squaresOf_X4_ti
theorem dX4_squaresOf_0 : decode cX4_squaresOf 0 = .ok (.aload_n 0, 1) := by decide +kernel
theorem dX4_squaresOf_1 : decode cX4_squaresOf 1 = .ok (.iload_n 1, 1) := by decide +kernel
theorem dX4_squaresOf_2 : decode cX4_squaresOf 2 = .ok (.iconst 0, 1) := by decide +kernel
theorem dX4_squaresOf_3 : decode cX4_squaresOf 3 = .ok (.invokevirtual 53, 3) := by decide +kernel
theorem dX4_squaresOf_6 : decode cX4_squaresOf 6 = .ok (.aload_n 0, 1) := by decide +kernel
theorem dX4_squaresOf_7 : decode cX4_squaresOf 7 = .ok (.iload_n 1, 1) := by decide +kernel
theorem dX4_squaresOf_8 : decode cX4_squaresOf 8 = .ok (.iconst 1, 1) := by decide +kernel
theorem dX4_squaresOf_9 : decode cX4_squaresOf 9 = .ok (.invokevirtual 53, 3) := by decide +kernel
theorem dX4_squaresOf_12 : decode cX4_squaresOf 12 = .ok (.imul, 1) := by decide +kernel
theorem dX4_squaresOf_13 : decode cX4_squaresOf 13 = .ok (.ireturn, 1) := by decide +kernel
set_option maxRecDepth 20000 in
theorem ggX4_isSquare_X4_isTick : GoodIn wsX4_isSquare wsX4_isTick := goodIn_r _ [5, 6, 7, 8, 4, 9, 19, 20, 21, 22, 23, 24, 25, 26, 27, 28, 29, 30, 31, 32] (by decide +kernel) (by decide +kernel)
set_option maxRecDepth 20000 in
theorem gX4_isSquare_X4_isTick : GoodIn wsX4_isSquare (wsV RX4 57 RX4 yX4_isTick wsX4_isTick) := goodIn_app (goodIn_of _ (by decide +kernel)) ggX4_isSquare_X4_isTick
set_option maxRecDepth 20000 in
theorem ggX4_isSquare_X4_squaresOf : GoodIn wsX4_isSquare wsX4_squaresOf := goodIn_r _ [13, 14, 15, 16, 4, 17, 18, 19, 20, 21, 22, 23, 24, 25, 26, 27, 28, 29, 30, 31, 32] (by decide +kernel) (by decide +kernel)
set_option maxRecDepth 20000 in
theorem gX4_isSquare_X4_squaresOf : GoodIn wsX4_isSquare (wsV RX4 61 RX4 yX4_squaresOf wsX4_squaresOf) := goodIn_app (goodIn_of _ (by decide +kernel)) ggX4_isSquare_X4_squaresOf
set_option maxRecDepth 20000 in
theorem ggX4_isSquare_X4_isIn : GoodIn wsX4_isSquare wsX4_isIn := goodIn_r _ [9] (by decide +kernel) (by decide +kernel)
set_option maxRecDepth 20000 in
theorem gX4_isSquare_X4_isIn : GoodIn wsX4_isSquare (va_wsS RX4 46 yX4_isIn wsX4_isIn) := goodIn_app (goodIn_of _ (by decide +kernel)) ggX4_isSquare_X4_isIn
theorem dX4_isSquare_0 : decode cX4_isSquare 0 = .ok (.aload_n 0, 1) := by decide +kernel
theorem dX4_isSquare_1 : decode cX4_isSquare 1 = .ok (.iload_n 1, 1) := by decide +kernel
theorem dX4_isSquare_2 : decode cX4_isSquare 2 = .ok (.invokevirtual 57, 3) := by decide +kernel
theorem dX4_isSquare_5 : decode cX4_isSquare 5 = .ok (.ifCond .eq 22, 3) := by decide +kernel
theorem dX4_isSquare_8 : decode cX4_isSquare 8 = .ok (.iload_n 2, 1) := by decide +kernel
theorem dX4_isSquare_9 : decode cX4_isSquare 9 = .ok (.iconst 0, 1) := by decide +kernel
theorem dX4_isSquare_10 : decode cX4_isSquare 10 = .ok (.aload_n 0, 1) := by decide +kernel
theorem dX4_isSquare_11 : decode cX4_isSquare 11 = .ok (.iload_n 1, 1) := by decide +kernel
theorem dX4_isSquare_12 : decode cX4_isSquare 12 = .ok (.invokevirtual 61, 3) := by decide +kernel
theorem dX4_isSquare_15 : decode cX4_isSquare 15 = .ok (.iconst 1, 1) := by decide +kernel
theorem dX4_isSquare_16 : decode cX4_isSquare 16 = .ok (.isub, 1) := by decide +kernel
theorem dX4_isSquare_17 : decode cX4_isSquare 17 = .ok (.invokestatic 46, 3) := by decide +kernel
theorem dX4_isSquare_20 : decode cX4_isSquare 20 = .ok (.ifCond .eq 7, 3) := by decide +kernel
theorem dX4_isSquare_23 : decode cX4_isSquare 23 = .ok (.iconst 1, 1) := by decide +kernel
theorem dX4_isSquare_24 : decode cX4_isSquare 24 = .ok (.goto 4, 3) := by decide +kernel
theorem dX4_isSquare_27 : decode cX4_isSquare 27 = .ok (.iconst 0, 1) := by decide +kernel
theorem dX4_isSquare_28 : decode cX4_isSquare 28 = .ok (.ireturn, 1) := by decide +kernel
theorem dX4_all_0 : decode cX4_all 0 = .ok (.iconst 0, 1) := by decide +kernel
theorem dX4_all_1 : decode cX4_all 1 = .ok (.istore_n 2, 1) := by decide +kernel
theorem dX4_all_2 : decode cX4_all 2 = .ok (.iconst 0, 1) := by decide +kernel
theorem dX4_all_3 : decode cX4_all 3 = .ok (.istore_n 3, 1) := by decide +kernel
theorem dX4_all_4 : decode cX4_all 4 = .ok (.iload_n 3, 1) := by decide +kernel
theorem dX4_all_5 : decode cX4_all 5 = .ok (.bipush 6, 2) := by decide +kernel
theorem dX4_all_7 : decode cX4_all 7 = .ok (.if_icmp .ge 20, 3) := by decide +kernel
theorem dX4_all_10 : decode cX4_all 10 = .ok (.iload_n 2, 1) := by decide +kernel
theorem dX4_all_11 : decode cX4_all 11 = .ok (.aload_n 0, 1) := by decide +kernel
theorem dX4_all_12 : decode cX4_all 12 = .ok (.bipush 6, 2) := by decide +kernel
theorem dX4_all_14 : decode cX4_all 14 = .ok (.iload_n 1, 1) := by decide +kernel
theorem dX4_all_15 : decode cX4_all 15 = .ok (.imul, 1) := by decide +kernel
theorem dX4_all_16 : decode cX4_all 16 = .ok (.iload_n 3, 1) := by decide +kernel
theorem dX4_all_17 : decode cX4_all 17 = .ok (.iadd, 1) := by decide +kernel
theorem dX4_all_18 : decode cX4_all 18 = .ok (.iaload, 1) := by decide +kernel
theorem dX4_all_19 : decode cX4_all 19 = .ok (.iadd, 1) := by decide +kernel
theorem dX4_all_20 : decode cX4_all 20 = .ok (.istore_n 2, 1) := by decide +kernel
theorem dX4_all_21 : decode cX4_all 21 = .ok (.iinc 3 1, 3) := by decide +kernel
theorem dX4_all_24 : decode cX4_all 24 = .ok (.goto (-20), 3) := by decide +kernel
theorem dX4_all_27 : decode cX4_all 27 = .ok (.iload_n 2, 1) := by decide +kernel
theorem dX4_all_28 : decode cX4_all 28 = .ok (.ireturn, 1) := by decide +kernel
set_option maxRecDepth 20000 in
theorem ggX4_addSack_X4_isIn : GoodIn wsX4_addSack wsX4_isIn := goodIn_r _ [7] (by decide +kernel) (by decide +kernel)
set_option maxRecDepth 20000 in
theorem gX4_addSack_X4_isIn : GoodIn wsX4_addSack (va_wsS RX4 46 yX4_isIn wsX4_isIn) := goodIn_app (goodIn_of _ (by decide +kernel)) ggX4_addSack_X4_isIn
set_option maxRecDepth 20000 in
theorem ggX4_addSack_X4_fail : GoodIn wsX4_addSack wsX4_fail := goodIn_r _ [11, 1, 12, 13, 14, 15, 16, 17, 18, 19, 20, 21, 22, 23, 24, 25] (by decide +kernel) (by decide +kernel)
set_option maxRecDepth 20000 in
theorem gX4_addSack_X4_fail : GoodIn wsX4_addSack (wsV RX4 65 RX4 yX4_fail wsX4_fail) := goodIn_app (goodIn_of _ (by decide +kernel)) ggX4_addSack_X4_fail
theorem dX4_addSack_0 : decode cX4_addSack 0 = .ok (.aload_n 0, 1) := by decide +kernel
theorem dX4_addSack_1 : decode cX4_addSack 1 = .ok (.iconst 0, 1) := by decide +kernel
theorem dX4_addSack_2 : decode cX4_addSack 2 = .ok (.putfield 40, 3) := by decide +kernel
theorem dX4_addSack_5 : decode cX4_addSack 5 = .ok (.iload_n 1, 1) := by decide +kernel
theorem dX4_addSack_6 : decode cX4_addSack 6 = .ok (.iconst 0, 1) := by decide +kernel
theorem dX4_addSack_7 : decode cX4_addSack 7 = .ok (.bipush 9, 2) := by decide +kernel
theorem dX4_addSack_9 : decode cX4_addSack 9 = .ok (.invokestatic 46, 3) := by decide +kernel
theorem dX4_addSack_12 : decode cX4_addSack 12 = .ok (.ifCond .ne 9, 3) := by decide +kernel
theorem dX4_addSack_15 : decode cX4_addSack 15 = .ok (.aload_n 0, 1) := by decide +kernel
theorem dX4_addSack_16 : decode cX4_addSack 16 = .ok (.iconst 1, 1) := by decide +kernel
theorem dX4_addSack_17 : decode cX4_addSack 17 = .ok (.invokevirtual 65, 3) := by decide +kernel
theorem dX4_addSack_20 : decode cX4_addSack 20 = .ok (.ireturn, 1) := by decide +kernel
theorem dX4_addSack_21 : decode cX4_addSack 21 = .ok (.aload_n 0, 1) := by decide +kernel
theorem dX4_addSack_22 : decode cX4_addSack 22 = .ok (.getfield 43, 3) := by decide +kernel
theorem dX4_addSack_25 : decode cX4_addSack 25 = .ok (.bipush 12, 2) := by decide +kernel
theorem dX4_addSack_27 : decode cX4_addSack 27 = .ok (.if_icmp .ne 9, 3) := by decide +kernel
theorem dX4_addSack_30 : decode cX4_addSack 30 = .ok (.aload_n 0, 1) := by decide +kernel
theorem dX4_addSack_31 : decode cX4_addSack 31 = .ok (.iconst 2, 1) := by decide +kernel
theorem dX4_addSack_32 : decode cX4_addSack 32 = .ok (.invokevirtual 65, 3) := by decide +kernel
theorem dX4_addSack_35 : decode cX4_addSack 35 = .ok (.ireturn, 1) := by decide +kernel
theorem dX4_addSack_36 : decode cX4_addSack 36 = .ok (.aload_n 0, 1) := by decide +kernel
theorem dX4_addSack_37 : decode cX4_addSack 37 = .ok (.getfield 13, 3) := by decide +kernel
theorem dX4_addSack_40 : decode cX4_addSack 40 = .ok (.aload_n 0, 1) := by decide +kernel
theorem dX4_addSack_41 : decode cX4_addSack 41 = .ok (.getfield 43, 3) := by decide +kernel
theorem dX4_addSack_44 : decode cX4_addSack 44 = .ok (.iload_n 1, 1) := by decide +kernel
theorem dX4_addSack_45 : decode cX4_addSack 45 = .ok (.iastore, 1) := by decide +kernel
theorem dX4_addSack_46 : decode cX4_addSack 46 = .ok (.aload_n 0, 1) := by decide +kernel
theorem dX4_addSack_47 : decode cX4_addSack 47 = .ok (.dup, 1) := by decide +kernel
theorem dX4_addSack_48 : decode cX4_addSack 48 = .ok (.getfield 43, 3) := by decide +kernel
theorem dX4_addSack_51 : decode cX4_addSack 51 = .ok (.iconst 1, 1) := by decide +kernel
theorem dX4_addSack_52 : decode cX4_addSack 52 = .ok (.iadd, 1) := by decide +kernel
theorem dX4_addSack_53 : decode cX4_addSack 53 = .ok (.putfield 43, 3) := by decide +kernel
theorem dX4_addSack_56 : decode cX4_addSack 56 = .ok (.aload_n 0, 1) := by decide +kernel
theorem dX4_addSack_57 : decode cX4_addSack 57 = .ok (.getfield 43, 3) := by decide +kernel
theorem dX4_addSack_60 : decode cX4_addSack 60 = .ok (.iconst 1, 1) := by decide +kernel
theorem dX4_addSack_61 : decode cX4_addSack 61 = .ok (.isub, 1) := by decide +kernel
theorem dX4_addSack_62 : decode cX4_addSack 62 = .ok (.ireturn, 1) := by decide +kernel
set_option maxRecDepth 20000 in
theorem ggX4_put_X4_isSack : GoodIn wsX4_put wsX4_isSack := goodIn_r _ [7, 8, 9, 10, 6, 11, 16, 17, 18, 19, 20, 21, 22, 23, 24, 25, 26, 27, 28, 29] (by decide +kernel) (by decide +kernel)
set_option maxRecDepth 20000 in
theorem gX4_put_X4_isSack : GoodIn wsX4_put (wsV RX4 68 RX4 yX4_isSack wsX4_isSack) := goodIn_app (goodIn_of _ (by decide +kernel)) ggX4_put_X4_isSack
set_option maxRecDepth 20000 in
theorem ggX4_put_X4_isIn : GoodIn wsX4_put wsX4_isIn := goodIn_r _ [11] (by decide +kernel) (by decide +kernel)
set_option maxRecDepth 20000 in
theorem gX4_put_X4_isIn : GoodIn wsX4_put (va_wsS RX4 46 yX4_isIn wsX4_isIn) := goodIn_app (goodIn_of _ (by decide +kernel)) ggX4_put_X4_isIn
set_option maxRecDepth 20000 in
theorem ggX4_put_X4_fail : GoodIn wsX4_put wsX4_fail := goodIn_r _ [15, 1, 16, 17, 18, 19, 20, 21, 22, 23, 24, 25, 26, 27, 28, 29] (by decide +kernel) (by decide +kernel)
set_option maxRecDepth 20000 in
theorem gX4_put_X4_fail : GoodIn wsX4_put (wsV RX4 65 RX4 yX4_fail wsX4_fail) := goodIn_app (goodIn_of _ (by decide +kernel)) ggX4_put_X4_fail
theorem dX4_put_0 : decode cX4_put 0 = .ok (.aload_n 0, 1) := by decide +kernel
theorem dX4_put_1 : decode cX4_put 1 = .ok (.iconst 0, 1) := by decide +kernel
theorem dX4_put_2 : decode cX4_put 2 = .ok (.putfield 40, 3) := by decide +kernel
theorem dX4_put_5 : decode cX4_put 5 = .ok (.aload_n 0, 1) := by decide +kernel
theorem dX4_put_6 : decode cX4_put 6 = .ok (.iload_n 1, 1) := by decide +kernel
theorem dX4_put_7 : decode cX4_put 7 = .ok (.invokevirtual 68, 3) := by decide +kernel
theorem dX4_put_10 : decode cX4_put 10 = .ok (.ifCond .eq 12, 3) := by decide +kernel
theorem dX4_put_13 : decode cX4_put 13 = .ok (.iload_n 2, 1) := by decide +kernel
theorem dX4_put_14 : decode cX4_put 14 = .ok (.iconst 0, 1) := by decide +kernel
theorem dX4_put_15 : decode cX4_put 15 = .ok (.iconst 5, 1) := by decide +kernel
theorem dX4_put_16 : decode cX4_put 16 = .ok (.invokestatic 46, 3) := by decide +kernel
theorem dX4_put_19 : decode cX4_put 19 = .ok (.ifCond .ne 9, 3) := by decide +kernel
theorem dX4_put_22 : decode cX4_put 22 = .ok (.aload_n 0, 1) := by decide +kernel
theorem dX4_put_23 : decode cX4_put 23 = .ok (.iconst 1, 1) := by decide +kernel
theorem dX4_put_24 : decode cX4_put 24 = .ok (.invokevirtual 65, 3) := by decide +kernel
theorem dX4_put_27 : decode cX4_put 27 = .ok (.ireturn, 1) := by decide +kernel
theorem dX4_put_28 : decode cX4_put 28 = .ok (.iload_n 3, 1) := by decide +kernel
theorem dX4_put_29 : decode cX4_put 29 = .ok (.iconst 1, 1) := by decide +kernel
theorem dX4_put_30 : decode cX4_put 30 = .ok (.sipush 500, 3) := by decide +kernel
theorem dX4_put_33 : decode cX4_put 33 = .ok (.invokestatic 46, 3) := by decide +kernel
theorem dX4_put_36 : decode cX4_put 36 = .ok (.ifCond .ne 9, 3) := by decide +kernel
theorem dX4_put_39 : decode cX4_put 39 = .ok (.aload_n 0, 1) := by decide +kernel
theorem dX4_put_40 : decode cX4_put 40 = .ok (.iconst 2, 1) := by decide +kernel
theorem dX4_put_41 : decode cX4_put 41 = .ok (.invokevirtual 65, 3) := by decide +kernel
theorem dX4_put_44 : decode cX4_put 44 = .ok (.ireturn, 1) := by decide +kernel
theorem dX4_put_45 : decode cX4_put 45 = .ok (.bipush 6, 2) := by decide +kernel
theorem dX4_put_47 : decode cX4_put 47 = .ok (.iload_n 1, 1) := by decide +kernel
theorem dX4_put_48 : decode cX4_put 48 = .ok (.imul, 1) := by decide +kernel
theorem dX4_put_49 : decode cX4_put 49 = .ok (.iload_n 2, 1) := by decide +kernel
theorem dX4_put_50 : decode cX4_put 50 = .ok (.iadd, 1) := by decide +kernel
theorem dX4_put_51 : decode cX4_put 51 = .ok (.istore 4, 2) := by decide +kernel
theorem dX4_put_53 : decode cX4_put 53 = .ok (.aload_n 0, 1) := by decide +kernel
theorem dX4_put_54 : decode cX4_put 54 = .ok (.getfield 9, 3) := by decide +kernel
theorem dX4_put_57 : decode cX4_put 57 = .ok (.iload 4, 2) := by decide +kernel
theorem dX4_put_59 : decode cX4_put 59 = .ok (.iaload, 1) := by decide +kernel
theorem dX4_put_60 : decode cX4_put 60 = .ok (.iload_n 3, 1) := by decide +kernel
theorem dX4_put_61 : decode cX4_put 61 = .ok (.iadd, 1) := by decide +kernel
theorem dX4_put_62 : decode cX4_put 62 = .ok (.sipush 500, 3) := by decide +kernel
theorem dX4_put_65 : decode cX4_put 65 = .ok (.if_icmp .le 9, 3) := by decide +kernel
theorem dX4_put_68 : decode cX4_put 68 = .ok (.aload_n 0, 1) := by decide +kernel
theorem dX4_put_69 : decode cX4_put 69 = .ok (.iconst 3, 1) := by decide +kernel
theorem dX4_put_70 : decode cX4_put 70 = .ok (.invokevirtual 65, 3) := by decide +kernel
theorem dX4_put_73 : decode cX4_put 73 = .ok (.ireturn, 1) := by decide +kernel
theorem dX4_put_74 : decode cX4_put 74 = .ok (.aload_n 0, 1) := by decide +kernel
theorem dX4_put_75 : decode cX4_put 75 = .ok (.getfield 9, 3) := by decide +kernel
theorem dX4_put_78 : decode cX4_put 78 = .ok (.iload 4, 2) := by decide +kernel
theorem dX4_put_80 : decode cX4_put 80 = .ok (.dup2, 1) := by decide +kernel
theorem dX4_put_81 : decode cX4_put 81 = .ok (.iaload, 1) := by decide +kernel
theorem dX4_put_82 : decode cX4_put 82 = .ok (.iload_n 3, 1) := by decide +kernel
theorem dX4_put_83 : decode cX4_put 83 = .ok (.iadd, 1) := by decide +kernel
theorem dX4_put_84 : decode cX4_put 84 = .ok (.iastore, 1) := by decide +kernel
theorem dX4_put_85 : decode cX4_put 85 = .ok (.aload_n 0, 1) := by decide +kernel
theorem dX4_put_86 : decode cX4_put 86 = .ok (.getfield 9, 3) := by decide +kernel
theorem dX4_put_89 : decode cX4_put 89 = .ok (.iload 4, 2) := by decide +kernel
theorem dX4_put_91 : decode cX4_put 91 = .ok (.iaload, 1) := by decide +kernel
theorem dX4_put_92 : decode cX4_put 92 = .ok (.ireturn, 1) := by decide +kernel
set_option maxRecDepth 20000 in
theorem ggX4_dry_X4_isSack : GoodIn wsX4_dry wsX4_isSack := goodIn_r _ [11, 12, 13, 14, 10, 15, 20, 21, 22, 23, 24, 25, 26, 27, 28, 29, 30, 31, 32, 33] (by decide +kernel) (by decide +kernel)
set_option maxRecDepth 20000 in
theorem gX4_dry_X4_isSack : GoodIn wsX4_dry (wsV RX4 68 RX4 yX4_isSack wsX4_isSack) := goodIn_app (goodIn_of _ (by decide +kernel)) ggX4_dry_X4_isSack
set_option maxRecDepth 20000 in
theorem ggX4_dry_X4_fail : GoodIn wsX4_dry wsX4_fail := goodIn_r _ [19, 1, 20, 21, 22, 23, 24, 25, 26, 27, 28, 29, 30, 31, 32, 33] (by decide +kernel) (by decide +kernel)
set_option maxRecDepth 20000 in
theorem gX4_dry_X4_fail : GoodIn wsX4_dry (wsV RX4 65 RX4 yX4_fail wsX4_fail) := goodIn_app (goodIn_of _ (by decide +kernel)) ggX4_dry_X4_fail
set_option maxRecDepth 20000 in
theorem ggX4_dry_X4_isIn : GoodIn wsX4_dry wsX4_isIn := goodIn_r _ [15] (by decide +kernel) (by decide +kernel)
set_option maxRecDepth 20000 in
theorem gX4_dry_X4_isIn : GoodIn wsX4_dry (va_wsS RX4 46 yX4_isIn wsX4_isIn) := goodIn_app (goodIn_of _ (by decide +kernel)) ggX4_dry_X4_isIn
theorem dX4_dry_0 : decode cX4_dry 0 = .ok (.aload_n 0, 1) := by decide +kernel
theorem dX4_dry_1 : decode cX4_dry 1 = .ok (.iconst 0, 1) := by decide +kernel
theorem dX4_dry_2 : decode cX4_dry 2 = .ok (.putfield 40, 3) := by decide +kernel
theorem dX4_dry_5 : decode cX4_dry 5 = .ok (.aload_n 0, 1) := by decide +kernel
theorem dX4_dry_6 : decode cX4_dry 6 = .ok (.iload_n 1, 1) := by decide +kernel
theorem dX4_dry_7 : decode cX4_dry 7 = .ok (.invokevirtual 68, 3) := by decide +kernel
theorem dX4_dry_10 : decode cX4_dry 10 = .ok (.ifCond .ne 9, 3) := by decide +kernel
theorem dX4_dry_13 : decode cX4_dry 13 = .ok (.aload_n 0, 1) := by decide +kernel
theorem dX4_dry_14 : decode cX4_dry 14 = .ok (.iconst 1, 1) := by decide +kernel
theorem dX4_dry_15 : decode cX4_dry 15 = .ok (.invokevirtual 65, 3) := by decide +kernel
theorem dX4_dry_18 : decode cX4_dry 18 = .ok (.ireturn, 1) := by decide +kernel
theorem dX4_dry_19 : decode cX4_dry 19 = .ok (.iload_n 2, 1) := by decide +kernel
theorem dX4_dry_20 : decode cX4_dry 20 = .ok (.iconst 1, 1) := by decide +kernel
theorem dX4_dry_21 : decode cX4_dry 21 = .ok (.bipush 9, 2) := by decide +kernel
theorem dX4_dry_23 : decode cX4_dry 23 = .ok (.invokestatic 46, 3) := by decide +kernel
theorem dX4_dry_26 : decode cX4_dry 26 = .ok (.ifCond .ne 9, 3) := by decide +kernel
theorem dX4_dry_29 : decode cX4_dry 29 = .ok (.aload_n 0, 1) := by decide +kernel
theorem dX4_dry_30 : decode cX4_dry 30 = .ok (.iconst 2, 1) := by decide +kernel
theorem dX4_dry_31 : decode cX4_dry 31 = .ok (.invokevirtual 65, 3) := by decide +kernel
theorem dX4_dry_34 : decode cX4_dry 34 = .ok (.ireturn, 1) := by decide +kernel
theorem dX4_dry_35 : decode cX4_dry 35 = .ok (.aload_n 0, 1) := by decide +kernel
theorem dX4_dry_36 : decode cX4_dry 36 = .ok (.getfield 13, 3) := by decide +kernel
theorem dX4_dry_39 : decode cX4_dry 39 = .ok (.iload_n 1, 1) := by decide +kernel
theorem dX4_dry_40 : decode cX4_dry 40 = .ok (.iconst 0, 1) := by decide +kernel
theorem dX4_dry_41 : decode cX4_dry 41 = .ok (.aload_n 0, 1) := by decide +kernel
theorem dX4_dry_42 : decode cX4_dry 42 = .ok (.getfield 13, 3) := by decide +kernel
theorem dX4_dry_45 : decode cX4_dry 45 = .ok (.iload_n 1, 1) := by decide +kernel
theorem dX4_dry_46 : decode cX4_dry 46 = .ok (.iaload, 1) := by decide +kernel
theorem dX4_dry_47 : decode cX4_dry 47 = .ok (.iload_n 2, 1) := by decide +kernel
theorem dX4_dry_48 : decode cX4_dry 48 = .ok (.isub, 1) := by decide +kernel
theorem dX4_dry_49 : decode cX4_dry 49 = .ok (.invokestatic 71, 3) := by decide +kernel
theorem dX4_dry_52 : decode cX4_dry 52 = .ok (.iastore, 1) := by decide +kernel
theorem dX4_dry_53 : decode cX4_dry 53 = .ok (.aload_n 0, 1) := by decide +kernel
theorem dX4_dry_54 : decode cX4_dry 54 = .ok (.getfield 13, 3) := by decide +kernel
theorem dX4_dry_57 : decode cX4_dry 57 = .ok (.iload_n 1, 1) := by decide +kernel
theorem dX4_dry_58 : decode cX4_dry 58 = .ok (.iaload, 1) := by decide +kernel
theorem dX4_dry_59 : decode cX4_dry 59 = .ok (.ireturn, 1) := by decide +kernel
set_option maxRecDepth 20000 in
theorem ggX4_sackTold_X4_all : GoodIn wsX4_sackTold wsX4_all := goodIn_r _ [6] (by decide +kernel) (by decide +kernel)
set_option maxRecDepth 20000 in
theorem gX4_sackTold_X4_all : GoodIn wsX4_sackTold (va_wsS RX4 76 yX4_all wsX4_all) := goodIn_app (goodIn_of _ (by decide +kernel)) ggX4_sackTold_X4_all
theorem dX4_sackTold_0 : decode cX4_sackTold 0 = .ok (.iload_n 2, 1) := by decide +kernel
theorem dX4_sackTold_1 : decode cX4_sackTold 1 = .ok (.bipush 6, 2) := by decide +kernel
theorem dX4_sackTold_3 : decode cX4_sackTold 3 = .ok (.if_icmp .ge 17, 3) := by decide +kernel
theorem dX4_sackTold_6 : decode cX4_sackTold 6 = .ok (.aload_n 0, 1) := by decide +kernel
theorem dX4_sackTold_7 : decode cX4_sackTold 7 = .ok (.getfield 9, 3) := by decide +kernel
theorem dX4_sackTold_10 : decode cX4_sackTold 10 = .ok (.bipush 6, 2) := by decide +kernel
theorem dX4_sackTold_12 : decode cX4_sackTold 12 = .ok (.iload_n 1, 1) := by decide +kernel
theorem dX4_sackTold_13 : decode cX4_sackTold 13 = .ok (.imul, 1) := by decide +kernel
theorem dX4_sackTold_14 : decode cX4_sackTold 14 = .ok (.iload_n 2, 1) := by decide +kernel
theorem dX4_sackTold_15 : decode cX4_sackTold 15 = .ok (.iadd, 1) := by decide +kernel
theorem dX4_sackTold_16 : decode cX4_sackTold 16 = .ok (.iaload, 1) := by decide +kernel
theorem dX4_sackTold_17 : decode cX4_sackTold 17 = .ok (.goto 26, 3) := by decide +kernel
theorem dX4_sackTold_20 : decode cX4_sackTold 20 = .ok (.iload_n 2, 1) := by decide +kernel
theorem dX4_sackTold_21 : decode cX4_sackTold 21 = .ok (.bipush 6, 2) := by decide +kernel
theorem dX4_sackTold_23 : decode cX4_sackTold 23 = .ok (.if_icmp .ne 14, 3) := by decide +kernel
theorem dX4_sackTold_26 : decode cX4_sackTold 26 = .ok (.aload_n 0, 1) := by decide +kernel
theorem dX4_sackTold_27 : decode cX4_sackTold 27 = .ok (.getfield 9, 3) := by decide +kernel
theorem dX4_sackTold_30 : decode cX4_sackTold 30 = .ok (.iload_n 1, 1) := by decide +kernel
theorem dX4_sackTold_31 : decode cX4_sackTold 31 = .ok (.invokestatic 76, 3) := by decide +kernel
theorem dX4_sackTold_34 : decode cX4_sackTold 34 = .ok (.goto 9, 3) := by decide +kernel
theorem dX4_sackTold_37 : decode cX4_sackTold 37 = .ok (.aload_n 0, 1) := by decide +kernel
theorem dX4_sackTold_38 : decode cX4_sackTold 38 = .ok (.getfield 13, 3) := by decide +kernel
theorem dX4_sackTold_41 : decode cX4_sackTold 41 = .ok (.iload_n 1, 1) := by decide +kernel
theorem dX4_sackTold_42 : decode cX4_sackTold 42 = .ok (.iaload, 1) := by decide +kernel
theorem dX4_sackTold_43 : decode cX4_sackTold 43 = .ok (.ireturn, 1) := by decide +kernel
set_option maxRecDepth 20000 in
theorem ggX4_sack_X4_isSack : GoodIn wsX4_sack wsX4_isSack := goodIn_r _ [6, 7, 8, 9, 5, 10, 24, 25, 26, 27, 28, 29, 30, 31, 32, 33, 34, 35, 36, 37] (by decide +kernel) (by decide +kernel)
set_option maxRecDepth 20000 in
theorem gX4_sack_X4_isSack : GoodIn wsX4_sack (wsV RX4 68 RX4 yX4_isSack wsX4_isSack) := goodIn_app (goodIn_of _ (by decide +kernel)) ggX4_sack_X4_isSack
set_option maxRecDepth 20000 in
theorem ggX4_sack_X4_isIn : GoodIn wsX4_sack wsX4_isIn := goodIn_r _ [10] (by decide +kernel) (by decide +kernel)
set_option maxRecDepth 20000 in
theorem gX4_sack_X4_isIn : GoodIn wsX4_sack (va_wsS RX4 46 yX4_isIn wsX4_isIn) := goodIn_app (goodIn_of _ (by decide +kernel)) ggX4_sack_X4_isIn
set_option maxRecDepth 20000 in
theorem ggX4_sack_X4_sackTold : GoodIn wsX4_sack wsX4_sackTold := goodIn_r _ [14, 15, 16, 17, 18, 5, 19, 24, 25, 26, 27, 28, 29, 30, 31, 32, 33, 34, 35, 36, 37] (by decide +kernel) (by decide +kernel)
set_option maxRecDepth 20000 in
theorem gX4_sack_X4_sackTold : GoodIn wsX4_sack (wsV RX4 80 RX4 yX4_sackTold wsX4_sackTold) := goodIn_app (goodIn_of _ (by decide +kernel)) ggX4_sack_X4_sackTold
set_option maxRecDepth 20000 in
theorem ggX4_sack_X4_fail : GoodIn wsX4_sack wsX4_fail := goodIn_r _ [23, 1, 24, 25, 26, 27, 28, 29, 30, 31, 32, 33, 34, 35, 36, 37] (by decide +kernel) (by decide +kernel)
set_option maxRecDepth 20000 in
theorem gX4_sack_X4_fail : GoodIn wsX4_sack (wsV RX4 65 RX4 yX4_fail wsX4_fail) := goodIn_app (goodIn_of _ (by decide +kernel)) ggX4_sack_X4_fail
theorem dX4_sack_0 : decode cX4_sack 0 = .ok (.aload_n 0, 1) := by decide +kernel
theorem dX4_sack_1 : decode cX4_sack 1 = .ok (.iconst 0, 1) := by decide +kernel
theorem dX4_sack_2 : decode cX4_sack 2 = .ok (.putfield 40, 3) := by decide +kernel
theorem dX4_sack_5 : decode cX4_sack 5 = .ok (.aload_n 0, 1) := by decide +kernel
theorem dX4_sack_6 : decode cX4_sack 6 = .ok (.iload_n 1, 1) := by decide +kernel
theorem dX4_sack_7 : decode cX4_sack 7 = .ok (.invokevirtual 68, 3) := by decide +kernel
theorem dX4_sack_10 : decode cX4_sack 10 = .ok (.ifCond .eq 22, 3) := by decide +kernel
theorem dX4_sack_13 : decode cX4_sack 13 = .ok (.iload_n 2, 1) := by decide +kernel
theorem dX4_sack_14 : decode cX4_sack 14 = .ok (.iconst 0, 1) := by decide +kernel
theorem dX4_sack_15 : decode cX4_sack 15 = .ok (.bipush 7, 2) := by decide +kernel
theorem dX4_sack_17 : decode cX4_sack 17 = .ok (.invokestatic 46, 3) := by decide +kernel
theorem dX4_sack_20 : decode cX4_sack 20 = .ok (.ifCond .eq 12, 3) := by decide +kernel
theorem dX4_sack_23 : decode cX4_sack 23 = .ok (.aload_n 0, 1) := by decide +kernel
theorem dX4_sack_24 : decode cX4_sack 24 = .ok (.iload_n 1, 1) := by decide +kernel
theorem dX4_sack_25 : decode cX4_sack 25 = .ok (.iload_n 2, 1) := by decide +kernel
theorem dX4_sack_26 : decode cX4_sack 26 = .ok (.invokevirtual 80, 3) := by decide +kernel
theorem dX4_sack_29 : decode cX4_sack 29 = .ok (.goto 8, 3) := by decide +kernel
theorem dX4_sack_32 : decode cX4_sack 32 = .ok (.aload_n 0, 1) := by decide +kernel
theorem dX4_sack_33 : decode cX4_sack 33 = .ok (.iconst 1, 1) := by decide +kernel
theorem dX4_sack_34 : decode cX4_sack 34 = .ok (.invokevirtual 65, 3) := by decide +kernel
theorem dX4_sack_37 : decode cX4_sack 37 = .ok (.ireturn, 1) := by decide +kernel
set_option maxRecDepth 20000 in
theorem ggX4_setWind_X4_isIn : GoodIn wsX4_setWind wsX4_isIn := goodIn_r _ [6] (by decide +kernel) (by decide +kernel)
set_option maxRecDepth 20000 in
theorem gX4_setWind_X4_isIn : GoodIn wsX4_setWind (va_wsS RX4 46 yX4_isIn wsX4_isIn) := goodIn_app (goodIn_of _ (by decide +kernel)) ggX4_setWind_X4_isIn
set_option maxRecDepth 20000 in
theorem ggX4_setWind_X4_fail : GoodIn wsX4_setWind wsX4_fail := goodIn_r _ [10, 1, 11, 12, 13, 14, 15, 16, 17, 18, 19, 20, 21, 22, 23, 24] (by decide +kernel) (by decide +kernel)
set_option maxRecDepth 20000 in
theorem gX4_setWind_X4_fail : GoodIn wsX4_setWind (wsV RX4 65 RX4 yX4_fail wsX4_fail) := goodIn_app (goodIn_of _ (by decide +kernel)) ggX4_setWind_X4_fail
theorem dX4_setWind_0 : decode cX4_setWind 0 = .ok (.aload_n 0, 1) := by decide +kernel
theorem dX4_setWind_1 : decode cX4_setWind 1 = .ok (.iconst 0, 1) := by decide +kernel
theorem dX4_setWind_2 : decode cX4_setWind 2 = .ok (.putfield 40, 3) := by decide +kernel
theorem dX4_setWind_5 : decode cX4_setWind 5 = .ok (.iload_n 1, 1) := by decide +kernel
theorem dX4_setWind_6 : decode cX4_setWind 6 = .ok (.iconst 1, 1) := by decide +kernel
theorem dX4_setWind_7 : decode cX4_setWind 7 = .ok (.bipush 20, 2) := by decide +kernel
theorem dX4_setWind_9 : decode cX4_setWind 9 = .ok (.invokestatic 46, 3) := by decide +kernel
theorem dX4_setWind_12 : decode cX4_setWind 12 = .ok (.ifCond .ne 9, 3) := by decide +kernel
theorem dX4_setWind_15 : decode cX4_setWind 15 = .ok (.aload_n 0, 1) := by decide +kernel
theorem dX4_setWind_16 : decode cX4_setWind 16 = .ok (.iconst 1, 1) := by decide +kernel
theorem dX4_setWind_17 : decode cX4_setWind 17 = .ok (.invokevirtual 65, 3) := by decide +kernel
theorem dX4_setWind_20 : decode cX4_setWind 20 = .ok (.ireturn, 1) := by decide +kernel
theorem dX4_setWind_21 : decode cX4_setWind 21 = .ok (.aload_n 0, 1) := by decide +kernel
theorem dX4_setWind_22 : decode cX4_setWind 22 = .ok (.getfield 16, 3) := by decide +kernel
theorem dX4_setWind_25 : decode cX4_setWind 25 = .ok (.istore_n 2, 1) := by decide +kernel
theorem dX4_setWind_26 : decode cX4_setWind 26 = .ok (.aload_n 0, 1) := by decide +kernel
theorem dX4_setWind_27 : decode cX4_setWind 27 = .ok (.iload_n 1, 1) := by decide +kernel
theorem dX4_setWind_28 : decode cX4_setWind 28 = .ok (.putfield 16, 3) := by decide +kernel
theorem dX4_setWind_31 : decode cX4_setWind 31 = .ok (.iload_n 2, 1) := by decide +kernel
theorem dX4_setWind_32 : decode cX4_setWind 32 = .ok (.ireturn, 1) := by decide +kernel
theorem dX4_flight_0 : decode cX4_flight 0 = .ok (.iconst 4, 1) := by decide +kernel
theorem dX4_flight_1 : decode cX4_flight 1 = .ok (.iload_n 0, 1) := by decide +kernel
theorem dX4_flight_2 : decode cX4_flight 2 = .ok (.bipush 12, 2) := by decide +kernel
theorem dX4_flight_4 : decode cX4_flight 4 = .ok (.imul, 1) := by decide +kernel
theorem dX4_flight_5 : decode cX4_flight 5 = .ok (.iload_n 1, 1) := by decide +kernel
theorem dX4_flight_6 : decode cX4_flight 6 = .ok (.iconst 1, 1) := by decide +kernel
theorem dX4_flight_7 : decode cX4_flight 7 = .ok (.iadd, 1) := by decide +kernel
theorem dX4_flight_8 : decode cX4_flight 8 = .ok (.iconst 4, 1) := by decide +kernel
theorem dX4_flight_9 : decode cX4_flight 9 = .ok (.iload_n 2, 1) := by decide +kernel
theorem dX4_flight_10 : decode cX4_flight 10 = .ok (.iadd, 1) := by decide +kernel
theorem dX4_flight_11 : decode cX4_flight 11 = .ok (.imul, 1) := by decide +kernel
theorem dX4_flight_12 : decode cX4_flight 12 = .ok (.idiv, 1) := by decide +kernel
theorem dX4_flight_13 : decode cX4_flight 13 = .ok (.invokestatic 83, 3) := by decide +kernel
theorem dX4_flight_16 : decode cX4_flight 16 = .ok (.ireturn, 1) := by decide +kernel
theorem dX4_falls_0 : decode cX4_falls 0 = .ok (.iload_n 0, 1) := by decide +kernel
theorem dX4_falls_1 : decode cX4_falls 1 = .ok (.bipush 6, 2) := by decide +kernel
theorem dX4_falls_3 : decode cX4_falls 3 = .ok (.imul, 1) := by decide +kernel
theorem dX4_falls_4 : decode cX4_falls 4 = .ok (.bipush 10, 2) := by decide +kernel
theorem dX4_falls_6 : decode cX4_falls 6 = .ok (.idiv, 1) := by decide +kernel
theorem dX4_falls_7 : decode cX4_falls 7 = .ok (.istore_n 3, 1) := by decide +kernel
theorem dX4_falls_8 : decode cX4_falls 8 = .ok (.iload_n 0, 1) := by decide +kernel
theorem dX4_falls_9 : decode cX4_falls 9 = .ok (.iconst 4, 1) := by decide +kernel
theorem dX4_falls_10 : decode cX4_falls 10 = .ok (.idiv, 1) := by decide +kernel
theorem dX4_falls_11 : decode cX4_falls 11 = .ok (.istore 4, 2) := by decide +kernel
theorem dX4_falls_13 : decode cX4_falls 13 = .ok (.iload_n 2, 1) := by decide +kernel
theorem dX4_falls_14 : decode cX4_falls 14 = .ok (.iload_n 1, 1) := by decide +kernel
theorem dX4_falls_15 : decode cX4_falls 15 = .ok (.if_icmp .ne 7, 3) := by decide +kernel
theorem dX4_falls_18 : decode cX4_falls 18 = .ok (.iload_n 3, 1) := by decide +kernel
theorem dX4_falls_19 : decode cX4_falls 19 = .ok (.goto 32, 3) := by decide +kernel
theorem dX4_falls_22 : decode cX4_falls 22 = .ok (.iload_n 2, 1) := by decide +kernel
theorem dX4_falls_23 : decode cX4_falls 23 = .ok (.iload_n 1, 1) := by decide +kernel
theorem dX4_falls_24 : decode cX4_falls 24 = .ok (.iconst 1, 1) := by decide +kernel
theorem dX4_falls_25 : decode cX4_falls 25 = .ok (.iadd, 1) := by decide +kernel
theorem dX4_falls_26 : decode cX4_falls 26 = .ok (.if_icmp .ne 8, 3) := by decide +kernel
theorem dX4_falls_29 : decode cX4_falls 29 = .ok (.iload 4, 2) := by decide +kernel
theorem dX4_falls_31 : decode cX4_falls 31 = .ok (.goto 20, 3) := by decide +kernel
theorem dX4_falls_34 : decode cX4_falls 34 = .ok (.iload_n 2, 1) := by decide +kernel
theorem dX4_falls_35 : decode cX4_falls 35 = .ok (.iload_n 1, 1) := by decide +kernel
theorem dX4_falls_36 : decode cX4_falls 36 = .ok (.iconst 1, 1) := by decide +kernel
theorem dX4_falls_37 : decode cX4_falls 37 = .ok (.isub, 1) := by decide +kernel
theorem dX4_falls_38 : decode cX4_falls 38 = .ok (.if_icmp .ne 12, 3) := by decide +kernel
theorem dX4_falls_41 : decode cX4_falls 41 = .ok (.iload_n 0, 1) := by decide +kernel
theorem dX4_falls_42 : decode cX4_falls 42 = .ok (.iload_n 3, 1) := by decide +kernel
theorem dX4_falls_43 : decode cX4_falls 43 = .ok (.isub, 1) := by decide +kernel
theorem dX4_falls_44 : decode cX4_falls 44 = .ok (.iload 4, 2) := by decide +kernel
theorem dX4_falls_46 : decode cX4_falls 46 = .ok (.isub, 1) := by decide +kernel
theorem dX4_falls_47 : decode cX4_falls 47 = .ok (.goto 4, 3) := by decide +kernel
theorem dX4_falls_50 : decode cX4_falls 50 = .ok (.iconst 0, 1) := by decide +kernel
theorem dX4_falls_51 : decode cX4_falls 51 = .ok (.ireturn, 1) := by decide +kernel
set_option maxRecDepth 20000 in
theorem ggX4_blow_X4_isSack : GoodIn wsX4_blow wsX4_isSack := goodIn_r _ [11, 12, 13, 14, 10, 15, 30, 31, 32, 33, 34, 35, 36, 37, 38, 39, 40, 41, 42, 43] (by decide +kernel) (by decide +kernel)
set_option maxRecDepth 20000 in
theorem gX4_blow_X4_isSack : GoodIn wsX4_blow (wsV RX4 68 RX4 yX4_isSack wsX4_isSack) := goodIn_app (goodIn_of _ (by decide +kernel)) ggX4_blow_X4_isSack
set_option maxRecDepth 20000 in
theorem ggX4_blow_X4_fail : GoodIn wsX4_blow wsX4_fail := goodIn_r _ [19, 1, 30, 31, 32, 33, 34, 35, 36, 37, 38, 39, 40, 41, 42, 43] (by decide +kernel) (by decide +kernel)
set_option maxRecDepth 20000 in
theorem gX4_blow_X4_fail : GoodIn wsX4_blow (wsV RX4 65 RX4 yX4_fail wsX4_fail) := goodIn_app (goodIn_of _ (by decide +kernel)) ggX4_blow_X4_fail
set_option maxRecDepth 20000 in
theorem ggX4_blow_X4_flight : GoodIn wsX4_blow wsX4_flight := goodIn_r _ [22, 23, 24, 25, 26] (by decide +kernel) (by decide +kernel)
set_option maxRecDepth 20000 in
theorem gX4_blow_X4_flight : GoodIn wsX4_blow (va_wsS RX4 86 yX4_flight wsX4_flight) := goodIn_app (goodIn_of _ (by decide +kernel)) ggX4_blow_X4_flight
set_option maxRecDepth 20000 in
theorem ggX4_blow_X4_falls : GoodIn wsX4_blow wsX4_falls := goodIn_r _ [29] (by decide +kernel) (by decide +kernel)
set_option maxRecDepth 20000 in
theorem gX4_blow_X4_falls : GoodIn wsX4_blow (va_wsS RX4 90 yX4_falls wsX4_falls) := goodIn_app (goodIn_of _ (by decide +kernel)) ggX4_blow_X4_falls
theorem dX4_blow_0 : decode cX4_blow 0 = .ok (.aload_n 0, 1) := by decide +kernel
theorem dX4_blow_1 : decode cX4_blow 1 = .ok (.iconst 0, 1) := by decide +kernel
theorem dX4_blow_2 : decode cX4_blow 2 = .ok (.putfield 40, 3) := by decide +kernel
theorem dX4_blow_5 : decode cX4_blow 5 = .ok (.aload_n 0, 1) := by decide +kernel
theorem dX4_blow_6 : decode cX4_blow 6 = .ok (.iload_n 1, 1) := by decide +kernel
theorem dX4_blow_7 : decode cX4_blow 7 = .ok (.invokevirtual 68, 3) := by decide +kernel
theorem dX4_blow_10 : decode cX4_blow 10 = .ok (.ifCond .ne 9, 3) := by decide +kernel
theorem dX4_blow_13 : decode cX4_blow 13 = .ok (.aload_n 0, 1) := by decide +kernel
theorem dX4_blow_14 : decode cX4_blow 14 = .ok (.iconst 1, 1) := by decide +kernel
theorem dX4_blow_15 : decode cX4_blow 15 = .ok (.invokevirtual 65, 3) := by decide +kernel
theorem dX4_blow_18 : decode cX4_blow 18 = .ok (.ireturn, 1) := by decide +kernel
theorem dX4_blow_19 : decode cX4_blow 19 = .ok (.iconst 0, 1) := by decide +kernel
theorem dX4_blow_20 : decode cX4_blow 20 = .ok (.istore_n 2, 1) := by decide +kernel
theorem dX4_blow_21 : decode cX4_blow 21 = .ok (.iconst 0, 1) := by decide +kernel
theorem dX4_blow_22 : decode cX4_blow 22 = .ok (.istore_n 3, 1) := by decide +kernel
theorem dX4_blow_23 : decode cX4_blow 23 = .ok (.iload_n 3, 1) := by decide +kernel
theorem dX4_blow_24 : decode cX4_blow 24 = .ok (.bipush 6, 2) := by decide +kernel
theorem dX4_blow_26 : decode cX4_blow 26 = .ok (.if_icmp .ge 125, 3) := by decide +kernel
theorem dX4_blow_29 : decode cX4_blow 29 = .ok (.aload_n 0, 1) := by decide +kernel
theorem dX4_blow_30 : decode cX4_blow 30 = .ok (.getfield 9, 3) := by decide +kernel
theorem dX4_blow_33 : decode cX4_blow 33 = .ok (.bipush 6, 2) := by decide +kernel
theorem dX4_blow_35 : decode cX4_blow 35 = .ok (.iload_n 1, 1) := by decide +kernel
theorem dX4_blow_36 : decode cX4_blow 36 = .ok (.imul, 1) := by decide +kernel
theorem dX4_blow_37 : decode cX4_blow 37 = .ok (.iload_n 3, 1) := by decide +kernel
theorem dX4_blow_38 : decode cX4_blow 38 = .ok (.iadd, 1) := by decide +kernel
theorem dX4_blow_39 : decode cX4_blow 39 = .ok (.iaload, 1) := by decide +kernel
theorem dX4_blow_40 : decode cX4_blow 40 = .ok (.istore 4, 2) := by decide +kernel
theorem dX4_blow_42 : decode cX4_blow 42 = .ok (.aload_n 0, 1) := by decide +kernel
theorem dX4_blow_43 : decode cX4_blow 43 = .ok (.getfield 16, 3) := by decide +kernel
theorem dX4_blow_46 : decode cX4_blow 46 = .ok (.iload_n 3, 1) := by decide +kernel
theorem dX4_blow_47 : decode cX4_blow 47 = .ok (.aload_n 0, 1) := by decide +kernel
theorem dX4_blow_48 : decode cX4_blow 48 = .ok (.getfield 13, 3) := by decide +kernel
theorem dX4_blow_51 : decode cX4_blow 51 = .ok (.iload_n 1, 1) := by decide +kernel
theorem dX4_blow_52 : decode cX4_blow 52 = .ok (.iaload, 1) := by decide +kernel
theorem dX4_blow_53 : decode cX4_blow 53 = .ok (.invokestatic 86, 3) := by decide +kernel
theorem dX4_blow_56 : decode cX4_blow 56 = .ok (.istore 5, 2) := by decide +kernel
theorem dX4_blow_58 : decode cX4_blow 58 = .ok (.iconst 0, 1) := by decide +kernel
theorem dX4_blow_59 : decode cX4_blow 59 = .ok (.istore 6, 2) := by decide +kernel
theorem dX4_blow_61 : decode cX4_blow 61 = .ok (.iload 6, 2) := by decide +kernel
theorem dX4_blow_63 : decode cX4_blow 63 = .ok (.iconst 5, 1) := by decide +kernel
theorem dX4_blow_64 : decode cX4_blow 64 = .ok (.if_icmp .ge 45, 3) := by decide +kernel
theorem dX4_blow_67 : decode cX4_blow 67 = .ok (.aload_n 0, 1) := by decide +kernel
theorem dX4_blow_68 : decode cX4_blow 68 = .ok (.getfield 20, 3) := by decide +kernel
theorem dX4_blow_71 : decode cX4_blow 71 = .ok (.bipush 6, 2) := by decide +kernel
theorem dX4_blow_73 : decode cX4_blow 73 = .ok (.iload 6, 2) := by decide +kernel
theorem dX4_blow_75 : decode cX4_blow 75 = .ok (.imul, 1) := by decide +kernel
theorem dX4_blow_76 : decode cX4_blow 76 = .ok (.iload_n 3, 1) := by decide +kernel
theorem dX4_blow_77 : decode cX4_blow 77 = .ok (.iadd, 1) := by decide +kernel
theorem dX4_blow_78 : decode cX4_blow 78 = .ok (.dup2, 1) := by decide +kernel
theorem dX4_blow_79 : decode cX4_blow 79 = .ok (.iaload, 1) := by decide +kernel
theorem dX4_blow_80 : decode cX4_blow 80 = .ok (.iload 4, 2) := by decide +kernel
theorem dX4_blow_82 : decode cX4_blow 82 = .ok (.iload 5, 2) := by decide +kernel
theorem dX4_blow_84 : decode cX4_blow 84 = .ok (.iload 6, 2) := by decide +kernel
theorem dX4_blow_86 : decode cX4_blow 86 = .ok (.invokestatic 90, 3) := by decide +kernel
theorem dX4_blow_89 : decode cX4_blow 89 = .ok (.iadd, 1) := by decide +kernel
theorem dX4_blow_90 : decode cX4_blow 90 = .ok (.iastore, 1) := by decide +kernel
theorem dX4_blow_91 : decode cX4_blow 91 = .ok (.iload_n 2, 1) := by decide +kernel
theorem dX4_blow_92 : decode cX4_blow 92 = .ok (.iload 4, 2) := by decide +kernel
theorem dX4_blow_94 : decode cX4_blow 94 = .ok (.iload 5, 2) := by decide +kernel
theorem dX4_blow_96 : decode cX4_blow 96 = .ok (.iload 6, 2) := by decide +kernel
theorem dX4_blow_98 : decode cX4_blow 98 = .ok (.invokestatic 90, 3) := by decide +kernel
theorem dX4_blow_101 : decode cX4_blow 101 = .ok (.iadd, 1) := by decide +kernel
theorem dX4_blow_102 : decode cX4_blow 102 = .ok (.istore_n 2, 1) := by decide +kernel
theorem dX4_blow_103 : decode cX4_blow 103 = .ok (.iinc 6 1, 3) := by decide +kernel
theorem dX4_blow_106 : decode cX4_blow 106 = .ok (.goto (-45), 3) := by decide +kernel
theorem dX4_blow_109 : decode cX4_blow 109 = .ok (.aload_n 0, 1) := by decide +kernel
theorem dX4_blow_110 : decode cX4_blow 110 = .ok (.getfield 9, 3) := by decide +kernel
theorem dX4_blow_113 : decode cX4_blow 113 = .ok (.bipush 6, 2) := by decide +kernel
theorem dX4_blow_115 : decode cX4_blow 115 = .ok (.iload_n 1, 1) := by decide +kernel
theorem dX4_blow_116 : decode cX4_blow 116 = .ok (.imul, 1) := by decide +kernel
theorem dX4_blow_117 : decode cX4_blow 117 = .ok (.iload_n 3, 1) := by decide +kernel
theorem dX4_blow_118 : decode cX4_blow 118 = .ok (.iadd, 1) := by decide +kernel
theorem dX4_blow_119 : decode cX4_blow 119 = .ok (.iload 4, 2) := by decide +kernel
theorem dX4_blow_121 : decode cX4_blow 121 = .ok (.iload 5, 2) := by decide +kernel
theorem dX4_blow_123 : decode cX4_blow 123 = .ok (.iconst (-1), 1) := by decide +kernel
theorem dX4_blow_124 : decode cX4_blow 124 = .ok (.invokestatic 90, 3) := by decide +kernel
theorem dX4_blow_127 : decode cX4_blow 127 = .ok (.iastore, 1) := by decide +kernel
theorem dX4_blow_128 : decode cX4_blow 128 = .ok (.aload_n 0, 1) := by decide +kernel
theorem dX4_blow_129 : decode cX4_blow 129 = .ok (.dup, 1) := by decide +kernel
theorem dX4_blow_130 : decode cX4_blow 130 = .ok (.getfield 93, 3) := by decide +kernel
theorem dX4_blow_133 : decode cX4_blow 133 = .ok (.iload 4, 2) := by decide +kernel
theorem dX4_blow_135 : decode cX4_blow 135 = .ok (.iload 5, 2) := by decide +kernel
theorem dX4_blow_137 : decode cX4_blow 137 = .ok (.iconst 5, 1) := by decide +kernel
theorem dX4_blow_138 : decode cX4_blow 138 = .ok (.invokestatic 90, 3) := by decide +kernel
theorem dX4_blow_141 : decode cX4_blow 141 = .ok (.iadd, 1) := by decide +kernel
theorem dX4_blow_142 : decode cX4_blow 142 = .ok (.putfield 93, 3) := by decide +kernel
theorem dX4_blow_145 : decode cX4_blow 145 = .ok (.iinc 3 1, 3) := by decide +kernel
theorem dX4_blow_148 : decode cX4_blow 148 = .ok (.goto (-125), 3) := by decide +kernel
theorem dX4_blow_151 : decode cX4_blow 151 = .ok (.iload_n 2, 1) := by decide +kernel
theorem dX4_blow_152 : decode cX4_blow 152 = .ok (.ireturn, 1) := by decide +kernel
set_option maxRecDepth 20000 in
theorem ggX4_sweep_X4_isIn : GoodIn wsX4_sweep wsX4_isIn := goodIn_r _ [11] (by decide +kernel) (by decide +kernel)
set_option maxRecDepth 20000 in
theorem gX4_sweep_X4_isIn : GoodIn wsX4_sweep (va_wsS RX4 46 yX4_isIn wsX4_isIn) := goodIn_app (goodIn_of _ (by decide +kernel)) ggX4_sweep_X4_isIn
set_option maxRecDepth 20000 in
theorem ggX4_sweep_X4_isSack : GoodIn wsX4_sweep wsX4_isSack := goodIn_r _ [15, 16, 8, 9, 10, 11, 21, 22, 23, 24, 25, 26, 27, 28, 29, 30, 31, 32, 33, 34] (by decide +kernel) (by decide +kernel)
set_option maxRecDepth 20000 in
theorem gX4_sweep_X4_isSack : GoodIn wsX4_sweep (wsV RX4 68 RX4 yX4_isSack wsX4_isSack) := goodIn_app (goodIn_of _ (by decide +kernel)) ggX4_sweep_X4_isSack
set_option maxRecDepth 20000 in
theorem ggX4_sweep_X4_fail : GoodIn wsX4_sweep wsX4_fail := goodIn_r _ [20, 1, 21, 22, 23, 24, 25, 26, 27, 28, 29, 30, 31, 32, 33, 34] (by decide +kernel) (by decide +kernel)
set_option maxRecDepth 20000 in
theorem gX4_sweep_X4_fail : GoodIn wsX4_sweep (wsV RX4 65 RX4 yX4_fail wsX4_fail) := goodIn_app (goodIn_of _ (by decide +kernel)) ggX4_sweep_X4_fail
theorem dX4_sweep_0 : decode cX4_sweep 0 = .ok (.aload_n 0, 1) := by decide +kernel
theorem dX4_sweep_1 : decode cX4_sweep 1 = .ok (.iconst 0, 1) := by decide +kernel
theorem dX4_sweep_2 : decode cX4_sweep 2 = .ok (.putfield 40, 3) := by decide +kernel
theorem dX4_sweep_5 : decode cX4_sweep 5 = .ok (.iload_n 1, 1) := by decide +kernel
theorem dX4_sweep_6 : decode cX4_sweep 6 = .ok (.iconst 0, 1) := by decide +kernel
theorem dX4_sweep_7 : decode cX4_sweep 7 = .ok (.iconst 4, 1) := by decide +kernel
theorem dX4_sweep_8 : decode cX4_sweep 8 = .ok (.invokestatic 46, 3) := by decide +kernel
theorem dX4_sweep_11 : decode cX4_sweep 11 = .ok (.ifCond .eq 11, 3) := by decide +kernel
theorem dX4_sweep_14 : decode cX4_sweep 14 = .ok (.aload_n 0, 1) := by decide +kernel
theorem dX4_sweep_15 : decode cX4_sweep 15 = .ok (.iload_n 2, 1) := by decide +kernel
theorem dX4_sweep_16 : decode cX4_sweep 16 = .ok (.invokevirtual 68, 3) := by decide +kernel
theorem dX4_sweep_19 : decode cX4_sweep 19 = .ok (.ifCond .ne 9, 3) := by decide +kernel
theorem dX4_sweep_22 : decode cX4_sweep 22 = .ok (.aload_n 0, 1) := by decide +kernel
theorem dX4_sweep_23 : decode cX4_sweep 23 = .ok (.iconst 1, 1) := by decide +kernel
theorem dX4_sweep_24 : decode cX4_sweep 24 = .ok (.invokevirtual 65, 3) := by decide +kernel
theorem dX4_sweep_27 : decode cX4_sweep 27 = .ok (.ireturn, 1) := by decide +kernel
theorem dX4_sweep_28 : decode cX4_sweep 28 = .ok (.iconst 0, 1) := by decide +kernel
theorem dX4_sweep_29 : decode cX4_sweep 29 = .ok (.istore_n 3, 1) := by decide +kernel
theorem dX4_sweep_30 : decode cX4_sweep 30 = .ok (.iconst 0, 1) := by decide +kernel
theorem dX4_sweep_31 : decode cX4_sweep 31 = .ok (.istore 4, 2) := by decide +kernel
theorem dX4_sweep_33 : decode cX4_sweep 33 = .ok (.iload 4, 2) := by decide +kernel
theorem dX4_sweep_35 : decode cX4_sweep 35 = .ok (.bipush 6, 2) := by decide +kernel
theorem dX4_sweep_37 : decode cX4_sweep 37 = .ok (.if_icmp .ge 81, 3) := by decide +kernel
theorem dX4_sweep_40 : decode cX4_sweep 40 = .ok (.aload_n 0, 1) := by decide +kernel
theorem dX4_sweep_41 : decode cX4_sweep 41 = .ok (.getfield 20, 3) := by decide +kernel
theorem dX4_sweep_44 : decode cX4_sweep 44 = .ok (.bipush 6, 2) := by decide +kernel
theorem dX4_sweep_46 : decode cX4_sweep 46 = .ok (.iload_n 1, 1) := by decide +kernel
theorem dX4_sweep_47 : decode cX4_sweep 47 = .ok (.imul, 1) := by decide +kernel
theorem dX4_sweep_48 : decode cX4_sweep 48 = .ok (.iload 4, 2) := by decide +kernel
theorem dX4_sweep_50 : decode cX4_sweep 50 = .ok (.iadd, 1) := by decide +kernel
theorem dX4_sweep_51 : decode cX4_sweep 51 = .ok (.iaload, 1) := by decide +kernel
theorem dX4_sweep_52 : decode cX4_sweep 52 = .ok (.sipush 500, 3) := by decide +kernel
theorem dX4_sweep_55 : decode cX4_sweep 55 = .ok (.aload_n 0, 1) := by decide +kernel
theorem dX4_sweep_56 : decode cX4_sweep 56 = .ok (.getfield 9, 3) := by decide +kernel
theorem dX4_sweep_59 : decode cX4_sweep 59 = .ok (.bipush 6, 2) := by decide +kernel
theorem dX4_sweep_61 : decode cX4_sweep 61 = .ok (.iload_n 2, 1) := by decide +kernel
theorem dX4_sweep_62 : decode cX4_sweep 62 = .ok (.imul, 1) := by decide +kernel
theorem dX4_sweep_63 : decode cX4_sweep 63 = .ok (.iload 4, 2) := by decide +kernel
theorem dX4_sweep_65 : decode cX4_sweep 65 = .ok (.iadd, 1) := by decide +kernel
theorem dX4_sweep_66 : decode cX4_sweep 66 = .ok (.iaload, 1) := by decide +kernel
theorem dX4_sweep_67 : decode cX4_sweep 67 = .ok (.isub, 1) := by decide +kernel
theorem dX4_sweep_68 : decode cX4_sweep 68 = .ok (.invokestatic 83, 3) := by decide +kernel
theorem dX4_sweep_71 : decode cX4_sweep 71 = .ok (.istore 5, 2) := by decide +kernel
theorem dX4_sweep_73 : decode cX4_sweep 73 = .ok (.aload_n 0, 1) := by decide +kernel
theorem dX4_sweep_74 : decode cX4_sweep 74 = .ok (.getfield 20, 3) := by decide +kernel
theorem dX4_sweep_77 : decode cX4_sweep 77 = .ok (.bipush 6, 2) := by decide +kernel
theorem dX4_sweep_79 : decode cX4_sweep 79 = .ok (.iload_n 1, 1) := by decide +kernel
theorem dX4_sweep_80 : decode cX4_sweep 80 = .ok (.imul, 1) := by decide +kernel
theorem dX4_sweep_81 : decode cX4_sweep 81 = .ok (.iload 4, 2) := by decide +kernel
theorem dX4_sweep_83 : decode cX4_sweep 83 = .ok (.iadd, 1) := by decide +kernel
theorem dX4_sweep_84 : decode cX4_sweep 84 = .ok (.dup2, 1) := by decide +kernel
theorem dX4_sweep_85 : decode cX4_sweep 85 = .ok (.iaload, 1) := by decide +kernel
theorem dX4_sweep_86 : decode cX4_sweep 86 = .ok (.iload 5, 2) := by decide +kernel
theorem dX4_sweep_88 : decode cX4_sweep 88 = .ok (.isub, 1) := by decide +kernel
theorem dX4_sweep_89 : decode cX4_sweep 89 = .ok (.iastore, 1) := by decide +kernel
theorem dX4_sweep_90 : decode cX4_sweep 90 = .ok (.aload_n 0, 1) := by decide +kernel
theorem dX4_sweep_91 : decode cX4_sweep 91 = .ok (.getfield 9, 3) := by decide +kernel
theorem dX4_sweep_94 : decode cX4_sweep 94 = .ok (.bipush 6, 2) := by decide +kernel
theorem dX4_sweep_96 : decode cX4_sweep 96 = .ok (.iload_n 2, 1) := by decide +kernel
theorem dX4_sweep_97 : decode cX4_sweep 97 = .ok (.imul, 1) := by decide +kernel
theorem dX4_sweep_98 : decode cX4_sweep 98 = .ok (.iload 4, 2) := by decide +kernel
theorem dX4_sweep_100 : decode cX4_sweep 100 = .ok (.iadd, 1) := by decide +kernel
theorem dX4_sweep_101 : decode cX4_sweep 101 = .ok (.dup2, 1) := by decide +kernel
theorem dX4_sweep_102 : decode cX4_sweep 102 = .ok (.iaload, 1) := by decide +kernel
theorem dX4_sweep_103 : decode cX4_sweep 103 = .ok (.iload 5, 2) := by decide +kernel
theorem dX4_sweep_105 : decode cX4_sweep 105 = .ok (.iadd, 1) := by decide +kernel
theorem dX4_sweep_106 : decode cX4_sweep 106 = .ok (.iastore, 1) := by decide +kernel
theorem dX4_sweep_107 : decode cX4_sweep 107 = .ok (.iload_n 3, 1) := by decide +kernel
theorem dX4_sweep_108 : decode cX4_sweep 108 = .ok (.iload 5, 2) := by decide +kernel
theorem dX4_sweep_110 : decode cX4_sweep 110 = .ok (.iadd, 1) := by decide +kernel
theorem dX4_sweep_111 : decode cX4_sweep 111 = .ok (.istore_n 3, 1) := by decide +kernel
theorem dX4_sweep_112 : decode cX4_sweep 112 = .ok (.iinc 4 1, 3) := by decide +kernel
theorem dX4_sweep_115 : decode cX4_sweep 115 = .ok (.goto (-82), 3) := by decide +kernel
theorem dX4_sweep_118 : decode cX4_sweep 118 = .ok (.iload_n 3, 1) := by decide +kernel
theorem dX4_sweep_119 : decode cX4_sweep 119 = .ok (.ireturn, 1) := by decide +kernel
set_option maxRecDepth 20000 in
theorem ggX4_chamberTold_X4_all : GoodIn wsX4_chamberTold wsX4_all := goodIn_r _ [5] (by decide +kernel) (by decide +kernel)
set_option maxRecDepth 20000 in
theorem gX4_chamberTold_X4_all : GoodIn wsX4_chamberTold (va_wsS RX4 76 yX4_all wsX4_all) := goodIn_app (goodIn_of _ (by decide +kernel)) ggX4_chamberTold_X4_all
theorem dX4_chamberTold_0 : decode cX4_chamberTold 0 = .ok (.iload_n 2, 1) := by decide +kernel
theorem dX4_chamberTold_1 : decode cX4_chamberTold 1 = .ok (.bipush 6, 2) := by decide +kernel
theorem dX4_chamberTold_3 : decode cX4_chamberTold 3 = .ok (.if_icmp .ge 15, 3) := by decide +kernel
theorem dX4_chamberTold_6 : decode cX4_chamberTold 6 = .ok (.aload_n 0, 1) := by decide +kernel
theorem dX4_chamberTold_7 : decode cX4_chamberTold 7 = .ok (.getfield 20, 3) := by decide +kernel
theorem dX4_chamberTold_10 : decode cX4_chamberTold 10 = .ok (.bipush 6, 2) := by decide +kernel
theorem dX4_chamberTold_12 : decode cX4_chamberTold 12 = .ok (.iload_n 1, 1) := by decide +kernel
theorem dX4_chamberTold_13 : decode cX4_chamberTold 13 = .ok (.imul, 1) := by decide +kernel
theorem dX4_chamberTold_14 : decode cX4_chamberTold 14 = .ok (.iload_n 2, 1) := by decide +kernel
theorem dX4_chamberTold_15 : decode cX4_chamberTold 15 = .ok (.iadd, 1) := by decide +kernel
theorem dX4_chamberTold_16 : decode cX4_chamberTold 16 = .ok (.iaload, 1) := by decide +kernel
theorem dX4_chamberTold_17 : decode cX4_chamberTold 17 = .ok (.ireturn, 1) := by decide +kernel
theorem dX4_chamberTold_18 : decode cX4_chamberTold 18 = .ok (.aload_n 0, 1) := by decide +kernel
theorem dX4_chamberTold_19 : decode cX4_chamberTold 19 = .ok (.getfield 20, 3) := by decide +kernel
theorem dX4_chamberTold_22 : decode cX4_chamberTold 22 = .ok (.iload_n 1, 1) := by decide +kernel
theorem dX4_chamberTold_23 : decode cX4_chamberTold 23 = .ok (.invokestatic 76, 3) := by decide +kernel
theorem dX4_chamberTold_26 : decode cX4_chamberTold 26 = .ok (.istore_n 3, 1) := by decide +kernel
theorem dX4_chamberTold_27 : decode cX4_chamberTold 27 = .ok (.iconst 0, 1) := by decide +kernel
theorem dX4_chamberTold_28 : decode cX4_chamberTold 28 = .ok (.istore 4, 2) := by decide +kernel
theorem dX4_chamberTold_30 : decode cX4_chamberTold 30 = .ok (.iconst 1, 1) := by decide +kernel
theorem dX4_chamberTold_31 : decode cX4_chamberTold 31 = .ok (.istore 5, 2) := by decide +kernel
theorem dX4_chamberTold_33 : decode cX4_chamberTold 33 = .ok (.iload 5, 2) := by decide +kernel
theorem dX4_chamberTold_35 : decode cX4_chamberTold 35 = .ok (.bipush 6, 2) := by decide +kernel
theorem dX4_chamberTold_37 : decode cX4_chamberTold 37 = .ok (.if_icmp .ge 40, 3) := by decide +kernel
theorem dX4_chamberTold_40 : decode cX4_chamberTold 40 = .ok (.aload_n 0, 1) := by decide +kernel
theorem dX4_chamberTold_41 : decode cX4_chamberTold 41 = .ok (.getfield 20, 3) := by decide +kernel
theorem dX4_chamberTold_44 : decode cX4_chamberTold 44 = .ok (.bipush 6, 2) := by decide +kernel
theorem dX4_chamberTold_46 : decode cX4_chamberTold 46 = .ok (.iload_n 1, 1) := by decide +kernel
theorem dX4_chamberTold_47 : decode cX4_chamberTold 47 = .ok (.imul, 1) := by decide +kernel
theorem dX4_chamberTold_48 : decode cX4_chamberTold 48 = .ok (.iload 5, 2) := by decide +kernel
theorem dX4_chamberTold_50 : decode cX4_chamberTold 50 = .ok (.iadd, 1) := by decide +kernel
theorem dX4_chamberTold_51 : decode cX4_chamberTold 51 = .ok (.iaload, 1) := by decide +kernel
theorem dX4_chamberTold_52 : decode cX4_chamberTold 52 = .ok (.aload_n 0, 1) := by decide +kernel
theorem dX4_chamberTold_53 : decode cX4_chamberTold 53 = .ok (.getfield 20, 3) := by decide +kernel
theorem dX4_chamberTold_56 : decode cX4_chamberTold 56 = .ok (.bipush 6, 2) := by decide +kernel
theorem dX4_chamberTold_58 : decode cX4_chamberTold 58 = .ok (.iload_n 1, 1) := by decide +kernel
theorem dX4_chamberTold_59 : decode cX4_chamberTold 59 = .ok (.imul, 1) := by decide +kernel
theorem dX4_chamberTold_60 : decode cX4_chamberTold 60 = .ok (.iload 4, 2) := by decide +kernel
theorem dX4_chamberTold_62 : decode cX4_chamberTold 62 = .ok (.iadd, 1) := by decide +kernel
theorem dX4_chamberTold_63 : decode cX4_chamberTold 63 = .ok (.iaload, 1) := by decide +kernel
theorem dX4_chamberTold_64 : decode cX4_chamberTold 64 = .ok (.if_icmp .le 7, 3) := by decide +kernel
theorem dX4_chamberTold_67 : decode cX4_chamberTold 67 = .ok (.iload 5, 2) := by decide +kernel
theorem dX4_chamberTold_69 : decode cX4_chamberTold 69 = .ok (.istore 4, 2) := by decide +kernel
theorem dX4_chamberTold_71 : decode cX4_chamberTold 71 = .ok (.iinc 5 1, 3) := by decide +kernel
theorem dX4_chamberTold_74 : decode cX4_chamberTold 74 = .ok (.goto (-41), 3) := by decide +kernel
theorem dX4_chamberTold_77 : decode cX4_chamberTold 77 = .ok (.iload_n 2, 1) := by decide +kernel
theorem dX4_chamberTold_78 : decode cX4_chamberTold 78 = .ok (.bipush 6, 2) := by decide +kernel
theorem dX4_chamberTold_80 : decode cX4_chamberTold 80 = .ok (.if_icmp .ne 5, 3) := by decide +kernel
theorem dX4_chamberTold_83 : decode cX4_chamberTold 83 = .ok (.iload_n 3, 1) := by decide +kernel
theorem dX4_chamberTold_84 : decode cX4_chamberTold 84 = .ok (.ireturn, 1) := by decide +kernel
theorem dX4_chamberTold_85 : decode cX4_chamberTold 85 = .ok (.iload_n 3, 1) := by decide +kernel
theorem dX4_chamberTold_86 : decode cX4_chamberTold 86 = .ok (.ifCond .ne 15, 3) := by decide +kernel
theorem dX4_chamberTold_89 : decode cX4_chamberTold 89 = .ok (.iload_n 2, 1) := by decide +kernel
theorem dX4_chamberTold_90 : decode cX4_chamberTold 90 = .ok (.bipush 7, 2) := by decide +kernel
theorem dX4_chamberTold_92 : decode cX4_chamberTold 92 = .ok (.if_icmp .ne 7, 3) := by decide +kernel
theorem dX4_chamberTold_95 : decode cX4_chamberTold 95 = .ok (.iconst (-1), 1) := by decide +kernel
theorem dX4_chamberTold_96 : decode cX4_chamberTold 96 = .ok (.goto 4, 3) := by decide +kernel
theorem dX4_chamberTold_99 : decode cX4_chamberTold 99 = .ok (.iconst 0, 1) := by decide +kernel
theorem dX4_chamberTold_100 : decode cX4_chamberTold 100 = .ok (.ireturn, 1) := by decide +kernel
theorem dX4_chamberTold_101 : decode cX4_chamberTold 101 = .ok (.iload_n 2, 1) := by decide +kernel
theorem dX4_chamberTold_102 : decode cX4_chamberTold 102 = .ok (.bipush 7, 2) := by decide +kernel
theorem dX4_chamberTold_104 : decode cX4_chamberTold 104 = .ok (.if_icmp .ne 8, 3) := by decide +kernel
theorem dX4_chamberTold_107 : decode cX4_chamberTold 107 = .ok (.iload 4, 2) := by decide +kernel
theorem dX4_chamberTold_109 : decode cX4_chamberTold 109 = .ok (.goto 20, 3) := by decide +kernel
theorem dX4_chamberTold_112 : decode cX4_chamberTold 112 = .ok (.bipush 100, 2) := by decide +kernel
theorem dX4_chamberTold_114 : decode cX4_chamberTold 114 = .ok (.aload_n 0, 1) := by decide +kernel
theorem dX4_chamberTold_115 : decode cX4_chamberTold 115 = .ok (.getfield 20, 3) := by decide +kernel
theorem dX4_chamberTold_118 : decode cX4_chamberTold 118 = .ok (.bipush 6, 2) := by decide +kernel
theorem dX4_chamberTold_120 : decode cX4_chamberTold 120 = .ok (.iload_n 1, 1) := by decide +kernel
theorem dX4_chamberTold_121 : decode cX4_chamberTold 121 = .ok (.imul, 1) := by decide +kernel
theorem dX4_chamberTold_122 : decode cX4_chamberTold 122 = .ok (.iload 4, 2) := by decide +kernel
theorem dX4_chamberTold_124 : decode cX4_chamberTold 124 = .ok (.iadd, 1) := by decide +kernel
theorem dX4_chamberTold_125 : decode cX4_chamberTold 125 = .ok (.iaload, 1) := by decide +kernel
theorem dX4_chamberTold_126 : decode cX4_chamberTold 126 = .ok (.imul, 1) := by decide +kernel
theorem dX4_chamberTold_127 : decode cX4_chamberTold 127 = .ok (.iload_n 3, 1) := by decide +kernel
theorem dX4_chamberTold_128 : decode cX4_chamberTold 128 = .ok (.idiv, 1) := by decide +kernel
theorem dX4_chamberTold_129 : decode cX4_chamberTold 129 = .ok (.ireturn, 1) := by decide +kernel
set_option maxRecDepth 20000 in
theorem ggX4_chamber_X4_isIn : GoodIn wsX4_chamber wsX4_isIn := goodIn_r _ [5] (by decide +kernel) (by decide +kernel)
set_option maxRecDepth 20000 in
theorem gX4_chamber_X4_isIn : GoodIn wsX4_chamber (va_wsS RX4 46 yX4_isIn wsX4_isIn) := goodIn_app (goodIn_of _ (by decide +kernel)) ggX4_chamber_X4_isIn
set_option maxRecDepth 20000 in
theorem ggX4_chamber_X4_chamberTold : GoodIn wsX4_chamber wsX4_chamberTold := goodIn_r _ [9, 10, 11, 12, 4, 13, 18, 19, 20, 21, 22, 23, 24, 25, 26, 27, 28, 29, 30, 31] (by decide +kernel) (by decide +kernel)
set_option maxRecDepth 20000 in
theorem gX4_chamber_X4_chamberTold : GoodIn wsX4_chamber (wsV RX4 96 RX4 yX4_chamberTold wsX4_chamberTold) := goodIn_app (goodIn_of _ (by decide +kernel)) ggX4_chamber_X4_chamberTold
set_option maxRecDepth 20000 in
theorem ggX4_chamber_X4_fail : GoodIn wsX4_chamber wsX4_fail := goodIn_r _ [17, 1, 18, 19, 20, 21, 22, 23, 24, 25, 26, 27, 28, 29, 30, 31] (by decide +kernel) (by decide +kernel)
set_option maxRecDepth 20000 in
theorem gX4_chamber_X4_fail : GoodIn wsX4_chamber (wsV RX4 65 RX4 yX4_fail wsX4_fail) := goodIn_app (goodIn_of _ (by decide +kernel)) ggX4_chamber_X4_fail
theorem dX4_chamber_0 : decode cX4_chamber 0 = .ok (.aload_n 0, 1) := by decide +kernel
theorem dX4_chamber_1 : decode cX4_chamber 1 = .ok (.iconst 0, 1) := by decide +kernel
theorem dX4_chamber_2 : decode cX4_chamber 2 = .ok (.putfield 40, 3) := by decide +kernel
theorem dX4_chamber_5 : decode cX4_chamber 5 = .ok (.iload_n 1, 1) := by decide +kernel
theorem dX4_chamber_6 : decode cX4_chamber 6 = .ok (.iconst 0, 1) := by decide +kernel
theorem dX4_chamber_7 : decode cX4_chamber 7 = .ok (.iconst 4, 1) := by decide +kernel
theorem dX4_chamber_8 : decode cX4_chamber 8 = .ok (.invokestatic 46, 3) := by decide +kernel
theorem dX4_chamber_11 : decode cX4_chamber 11 = .ok (.ifCond .eq 22, 3) := by decide +kernel
theorem dX4_chamber_14 : decode cX4_chamber 14 = .ok (.iload_n 2, 1) := by decide +kernel
theorem dX4_chamber_15 : decode cX4_chamber 15 = .ok (.iconst 0, 1) := by decide +kernel
theorem dX4_chamber_16 : decode cX4_chamber 16 = .ok (.bipush 8, 2) := by decide +kernel
theorem dX4_chamber_18 : decode cX4_chamber 18 = .ok (.invokestatic 46, 3) := by decide +kernel
theorem dX4_chamber_21 : decode cX4_chamber 21 = .ok (.ifCond .eq 12, 3) := by decide +kernel
theorem dX4_chamber_24 : decode cX4_chamber 24 = .ok (.aload_n 0, 1) := by decide +kernel
theorem dX4_chamber_25 : decode cX4_chamber 25 = .ok (.iload_n 1, 1) := by decide +kernel
theorem dX4_chamber_26 : decode cX4_chamber 26 = .ok (.iload_n 2, 1) := by decide +kernel
theorem dX4_chamber_27 : decode cX4_chamber 27 = .ok (.invokevirtual 96, 3) := by decide +kernel
theorem dX4_chamber_30 : decode cX4_chamber 30 = .ok (.goto 8, 3) := by decide +kernel
theorem dX4_chamber_33 : decode cX4_chamber 33 = .ok (.aload_n 0, 1) := by decide +kernel
theorem dX4_chamber_34 : decode cX4_chamber 34 = .ok (.iconst 1, 1) := by decide +kernel
theorem dX4_chamber_35 : decode cX4_chamber 35 = .ok (.invokevirtual 65, 3) := by decide +kernel
theorem dX4_chamber_38 : decode cX4_chamber 38 = .ok (.ireturn, 1) := by decide +kernel
set_option maxRecDepth 20000 in
theorem ggX4_bestWind_X4_isSack : GoodIn wsX4_bestWind wsX4_isSack := goodIn_r _ [8, 9, 10, 11, 7, 12, 27, 28, 29, 30, 31, 32, 33, 34, 35, 36, 37, 38, 39, 40] (by decide +kernel) (by decide +kernel)
set_option maxRecDepth 20000 in
theorem gX4_bestWind_X4_isSack : GoodIn wsX4_bestWind (wsV RX4 68 RX4 yX4_isSack wsX4_isSack) := goodIn_app (goodIn_of _ (by decide +kernel)) ggX4_bestWind_X4_isSack
set_option maxRecDepth 20000 in
theorem ggX4_bestWind_X4_isIn : GoodIn wsX4_bestWind wsX4_isIn := goodIn_r _ [12] (by decide +kernel) (by decide +kernel)
set_option maxRecDepth 20000 in
theorem gX4_bestWind_X4_isIn : GoodIn wsX4_bestWind (va_wsS RX4 46 yX4_isIn wsX4_isIn) := goodIn_app (goodIn_of _ (by decide +kernel)) ggX4_bestWind_X4_isIn
set_option maxRecDepth 20000 in
theorem ggX4_bestWind_X4_fail : GoodIn wsX4_bestWind wsX4_fail := goodIn_r _ [16, 1, 27, 28, 29, 30, 31, 32, 33, 34, 35, 36, 37, 38, 39, 40] (by decide +kernel) (by decide +kernel)
set_option maxRecDepth 20000 in
theorem gX4_bestWind_X4_fail : GoodIn wsX4_bestWind (wsV RX4 65 RX4 yX4_fail wsX4_fail) := goodIn_app (goodIn_of _ (by decide +kernel)) ggX4_bestWind_X4_fail
set_option maxRecDepth 20000 in
theorem ggX4_bestWind_X4_flight : GoodIn wsX4_bestWind wsX4_flight := goodIn_r _ [19, 20, 21, 22, 23] (by decide +kernel) (by decide +kernel)
set_option maxRecDepth 20000 in
theorem gX4_bestWind_X4_flight : GoodIn wsX4_bestWind (va_wsS RX4 86 yX4_flight wsX4_flight) := goodIn_app (goodIn_of _ (by decide +kernel)) ggX4_bestWind_X4_flight
set_option maxRecDepth 20000 in
theorem ggX4_bestWind_X4_falls : GoodIn wsX4_bestWind wsX4_falls := goodIn_r _ [26] (by decide +kernel) (by decide +kernel)
set_option maxRecDepth 20000 in
theorem gX4_bestWind_X4_falls : GoodIn wsX4_bestWind (va_wsS RX4 90 yX4_falls wsX4_falls) := goodIn_app (goodIn_of _ (by decide +kernel)) ggX4_bestWind_X4_falls
theorem dX4_bestWind_0 : decode cX4_bestWind 0 = .ok (.aload_n 0, 1) := by decide +kernel
theorem dX4_bestWind_1 : decode cX4_bestWind 1 = .ok (.iconst 0, 1) := by decide +kernel
theorem dX4_bestWind_2 : decode cX4_bestWind 2 = .ok (.putfield 40, 3) := by decide +kernel
theorem dX4_bestWind_5 : decode cX4_bestWind 5 = .ok (.aload_n 0, 1) := by decide +kernel
theorem dX4_bestWind_6 : decode cX4_bestWind 6 = .ok (.iload_n 1, 1) := by decide +kernel
theorem dX4_bestWind_7 : decode cX4_bestWind 7 = .ok (.invokevirtual 68, 3) := by decide +kernel
theorem dX4_bestWind_10 : decode cX4_bestWind 10 = .ok (.ifCond .eq 21, 3) := by decide +kernel
theorem dX4_bestWind_13 : decode cX4_bestWind 13 = .ok (.iload_n 2, 1) := by decide +kernel
theorem dX4_bestWind_14 : decode cX4_bestWind 14 = .ok (.iconst 0, 1) := by decide +kernel
theorem dX4_bestWind_15 : decode cX4_bestWind 15 = .ok (.iconst 4, 1) := by decide +kernel
theorem dX4_bestWind_16 : decode cX4_bestWind 16 = .ok (.invokestatic 46, 3) := by decide +kernel
theorem dX4_bestWind_19 : decode cX4_bestWind 19 = .ok (.ifCond .eq 12, 3) := by decide +kernel
theorem dX4_bestWind_22 : decode cX4_bestWind 22 = .ok (.iload_n 3, 1) := by decide +kernel
theorem dX4_bestWind_23 : decode cX4_bestWind 23 = .ok (.iconst 0, 1) := by decide +kernel
theorem dX4_bestWind_24 : decode cX4_bestWind 24 = .ok (.iconst 5, 1) := by decide +kernel
theorem dX4_bestWind_25 : decode cX4_bestWind 25 = .ok (.invokestatic 46, 3) := by decide +kernel
theorem dX4_bestWind_28 : decode cX4_bestWind 28 = .ok (.ifCond .ne 9, 3) := by decide +kernel
theorem dX4_bestWind_31 : decode cX4_bestWind 31 = .ok (.aload_n 0, 1) := by decide +kernel
theorem dX4_bestWind_32 : decode cX4_bestWind 32 = .ok (.iconst 1, 1) := by decide +kernel
theorem dX4_bestWind_33 : decode cX4_bestWind 33 = .ok (.invokevirtual 65, 3) := by decide +kernel
theorem dX4_bestWind_36 : decode cX4_bestWind 36 = .ok (.ireturn, 1) := by decide +kernel
theorem dX4_bestWind_37 : decode cX4_bestWind 37 = .ok (.iconst (-1), 1) := by decide +kernel
theorem dX4_bestWind_38 : decode cX4_bestWind 38 = .ok (.istore 4, 2) := by decide +kernel
theorem dX4_bestWind_40 : decode cX4_bestWind 40 = .ok (.iconst 0, 1) := by decide +kernel
theorem dX4_bestWind_41 : decode cX4_bestWind 41 = .ok (.istore 5, 2) := by decide +kernel
theorem dX4_bestWind_43 : decode cX4_bestWind 43 = .ok (.iconst 1, 1) := by decide +kernel
theorem dX4_bestWind_44 : decode cX4_bestWind 44 = .ok (.istore 6, 2) := by decide +kernel
theorem dX4_bestWind_46 : decode cX4_bestWind 46 = .ok (.iconst 1, 1) := by decide +kernel
theorem dX4_bestWind_47 : decode cX4_bestWind 47 = .ok (.istore 7, 2) := by decide +kernel
theorem dX4_bestWind_49 : decode cX4_bestWind 49 = .ok (.iload 7, 2) := by decide +kernel
theorem dX4_bestWind_51 : decode cX4_bestWind 51 = .ok (.bipush 20, 2) := by decide +kernel
theorem dX4_bestWind_53 : decode cX4_bestWind 53 = .ok (.if_icmp .gt 107, 3) := by decide +kernel
theorem dX4_bestWind_56 : decode cX4_bestWind 56 = .ok (.iconst 0, 1) := by decide +kernel
theorem dX4_bestWind_57 : decode cX4_bestWind 57 = .ok (.istore 8, 2) := by decide +kernel
theorem dX4_bestWind_59 : decode cX4_bestWind 59 = .ok (.iconst 0, 1) := by decide +kernel
theorem dX4_bestWind_60 : decode cX4_bestWind 60 = .ok (.istore 9, 2) := by decide +kernel
theorem dX4_bestWind_62 : decode cX4_bestWind 62 = .ok (.iconst 0, 1) := by decide +kernel
theorem dX4_bestWind_63 : decode cX4_bestWind 63 = .ok (.istore 10, 2) := by decide +kernel
theorem dX4_bestWind_65 : decode cX4_bestWind 65 = .ok (.iload 10, 2) := by decide +kernel
theorem dX4_bestWind_67 : decode cX4_bestWind 67 = .ok (.bipush 6, 2) := by decide +kernel
theorem dX4_bestWind_69 : decode cX4_bestWind 69 = .ok (.if_icmp .ge 57, 3) := by decide +kernel
theorem dX4_bestWind_72 : decode cX4_bestWind 72 = .ok (.aload_n 0, 1) := by decide +kernel
theorem dX4_bestWind_73 : decode cX4_bestWind 73 = .ok (.getfield 9, 3) := by decide +kernel
theorem dX4_bestWind_76 : decode cX4_bestWind 76 = .ok (.bipush 6, 2) := by decide +kernel
theorem dX4_bestWind_78 : decode cX4_bestWind 78 = .ok (.iload_n 1, 1) := by decide +kernel
theorem dX4_bestWind_79 : decode cX4_bestWind 79 = .ok (.imul, 1) := by decide +kernel
theorem dX4_bestWind_80 : decode cX4_bestWind 80 = .ok (.iload 10, 2) := by decide +kernel
theorem dX4_bestWind_82 : decode cX4_bestWind 82 = .ok (.iadd, 1) := by decide +kernel
theorem dX4_bestWind_83 : decode cX4_bestWind 83 = .ok (.iaload, 1) := by decide +kernel
theorem dX4_bestWind_84 : decode cX4_bestWind 84 = .ok (.iload 7, 2) := by decide +kernel
theorem dX4_bestWind_86 : decode cX4_bestWind 86 = .ok (.iload 10, 2) := by decide +kernel
theorem dX4_bestWind_88 : decode cX4_bestWind 88 = .ok (.aload_n 0, 1) := by decide +kernel
theorem dX4_bestWind_89 : decode cX4_bestWind 89 = .ok (.getfield 13, 3) := by decide +kernel
theorem dX4_bestWind_92 : decode cX4_bestWind 92 = .ok (.iload_n 1, 1) := by decide +kernel
theorem dX4_bestWind_93 : decode cX4_bestWind 93 = .ok (.iaload, 1) := by decide +kernel
theorem dX4_bestWind_94 : decode cX4_bestWind 94 = .ok (.invokestatic 86, 3) := by decide +kernel
theorem dX4_bestWind_97 : decode cX4_bestWind 97 = .ok (.iload_n 2, 1) := by decide +kernel
theorem dX4_bestWind_98 : decode cX4_bestWind 98 = .ok (.invokestatic 90, 3) := by decide +kernel
theorem dX4_bestWind_101 : decode cX4_bestWind 101 = .ok (.istore 11, 2) := by decide +kernel
theorem dX4_bestWind_103 : decode cX4_bestWind 103 = .ok (.iload 8, 2) := by decide +kernel
theorem dX4_bestWind_105 : decode cX4_bestWind 105 = .ok (.iload 11, 2) := by decide +kernel
theorem dX4_bestWind_107 : decode cX4_bestWind 107 = .ok (.iadd, 1) := by decide +kernel
theorem dX4_bestWind_108 : decode cX4_bestWind 108 = .ok (.istore 8, 2) := by decide +kernel
theorem dX4_bestWind_110 : decode cX4_bestWind 110 = .ok (.iload 10, 2) := by decide +kernel
theorem dX4_bestWind_112 : decode cX4_bestWind 112 = .ok (.iload_n 3, 1) := by decide +kernel
theorem dX4_bestWind_113 : decode cX4_bestWind 113 = .ok (.if_icmp .ne 7, 3) := by decide +kernel
theorem dX4_bestWind_116 : decode cX4_bestWind 116 = .ok (.iload 11, 2) := by decide +kernel
theorem dX4_bestWind_118 : decode cX4_bestWind 118 = .ok (.istore 9, 2) := by decide +kernel
theorem dX4_bestWind_120 : decode cX4_bestWind 120 = .ok (.iinc 10 1, 3) := by decide +kernel
theorem dX4_bestWind_123 : decode cX4_bestWind 123 = .ok (.goto (-58), 3) := by decide +kernel
theorem dX4_bestWind_126 : decode cX4_bestWind 126 = .ok (.iload 9, 2) := by decide +kernel
theorem dX4_bestWind_128 : decode cX4_bestWind 128 = .ok (.iload 6, 2) := by decide +kernel
theorem dX4_bestWind_130 : decode cX4_bestWind 130 = .ok (.imul, 1) := by decide +kernel
theorem dX4_bestWind_131 : decode cX4_bestWind 131 = .ok (.iload 5, 2) := by decide +kernel
theorem dX4_bestWind_133 : decode cX4_bestWind 133 = .ok (.iload 8, 2) := by decide +kernel
theorem dX4_bestWind_135 : decode cX4_bestWind 135 = .ok (.imul, 1) := by decide +kernel
theorem dX4_bestWind_136 : decode cX4_bestWind 136 = .ok (.if_icmp .gt 6, 3) := by decide +kernel
theorem dX4_bestWind_139 : decode cX4_bestWind 139 = .ok (.goto 15, 3) := by decide +kernel
theorem dX4_bestWind_142 : decode cX4_bestWind 142 = .ok (.iload 7, 2) := by decide +kernel
theorem dX4_bestWind_144 : decode cX4_bestWind 144 = .ok (.istore 4, 2) := by decide +kernel
theorem dX4_bestWind_146 : decode cX4_bestWind 146 = .ok (.iload 9, 2) := by decide +kernel
theorem dX4_bestWind_148 : decode cX4_bestWind 148 = .ok (.istore 5, 2) := by decide +kernel
theorem dX4_bestWind_150 : decode cX4_bestWind 150 = .ok (.iload 8, 2) := by decide +kernel
theorem dX4_bestWind_152 : decode cX4_bestWind 152 = .ok (.istore 6, 2) := by decide +kernel
theorem dX4_bestWind_154 : decode cX4_bestWind 154 = .ok (.iinc 7 1, 3) := by decide +kernel
theorem dX4_bestWind_157 : decode cX4_bestWind 157 = .ok (.goto (-108), 3) := by decide +kernel
theorem dX4_bestWind_160 : decode cX4_bestWind 160 = .ok (.iload 4, 2) := by decide +kernel
theorem dX4_bestWind_162 : decode cX4_bestWind 162 = .ok (.ireturn, 1) := by decide +kernel
set_option maxRecDepth 20000 in
theorem ggX4_addTick_X4_isIn : GoodIn wsX4_addTick wsX4_isIn := goodIn_r _ [15] (by decide +kernel) (by decide +kernel)
set_option maxRecDepth 20000 in
theorem gX4_addTick_X4_isIn : GoodIn wsX4_addTick (va_wsS RX4 46 yX4_isIn wsX4_isIn) := goodIn_app (goodIn_of _ (by decide +kernel)) ggX4_addTick_X4_isIn
set_option maxRecDepth 20000 in
theorem ggX4_addTick_X4_fail : GoodIn wsX4_addTick wsX4_fail := goodIn_r _ [19, 1, 20, 21, 22, 23, 24, 25, 26, 27, 28, 29, 30, 31, 32, 33] (by decide +kernel) (by decide +kernel)
set_option maxRecDepth 20000 in
theorem gX4_addTick_X4_fail : GoodIn wsX4_addTick (wsV RX4 65 RX4 yX4_fail wsX4_fail) := goodIn_app (goodIn_of _ (by decide +kernel)) ggX4_addTick_X4_fail
theorem dX4_addTick_0 : decode cX4_addTick 0 = .ok (.aload_n 0, 1) := by decide +kernel
theorem dX4_addTick_1 : decode cX4_addTick 1 = .ok (.iconst 0, 1) := by decide +kernel
theorem dX4_addTick_2 : decode cX4_addTick 2 = .ok (.putfield 40, 3) := by decide +kernel
theorem dX4_addTick_5 : decode cX4_addTick 5 = .ok (.iload_n 1, 1) := by decide +kernel
theorem dX4_addTick_6 : decode cX4_addTick 6 = .ok (.iconst 1, 1) := by decide +kernel
theorem dX4_addTick_7 : decode cX4_addTick 7 = .ok (.bipush 6, 2) := by decide +kernel
theorem dX4_addTick_9 : decode cX4_addTick 9 = .ok (.invokestatic 46, 3) := by decide +kernel
theorem dX4_addTick_12 : decode cX4_addTick 12 = .ok (.ifCond .eq 23, 3) := by decide +kernel
theorem dX4_addTick_15 : decode cX4_addTick 15 = .ok (.iload_n 2, 1) := by decide +kernel
theorem dX4_addTick_16 : decode cX4_addTick 16 = .ok (.iconst 1, 1) := by decide +kernel
theorem dX4_addTick_17 : decode cX4_addTick 17 = .ok (.bipush 6, 2) := by decide +kernel
theorem dX4_addTick_19 : decode cX4_addTick 19 = .ok (.invokestatic 46, 3) := by decide +kernel
theorem dX4_addTick_22 : decode cX4_addTick 22 = .ok (.ifCond .eq 13, 3) := by decide +kernel
theorem dX4_addTick_25 : decode cX4_addTick 25 = .ok (.iload_n 3, 1) := by decide +kernel
theorem dX4_addTick_26 : decode cX4_addTick 26 = .ok (.iconst 1, 1) := by decide +kernel
theorem dX4_addTick_27 : decode cX4_addTick 27 = .ok (.bipush 9, 2) := by decide +kernel
theorem dX4_addTick_29 : decode cX4_addTick 29 = .ok (.invokestatic 46, 3) := by decide +kernel
theorem dX4_addTick_32 : decode cX4_addTick 32 = .ok (.ifCond .ne 9, 3) := by decide +kernel
theorem dX4_addTick_35 : decode cX4_addTick 35 = .ok (.aload_n 0, 1) := by decide +kernel
theorem dX4_addTick_36 : decode cX4_addTick 36 = .ok (.iconst 1, 1) := by decide +kernel
theorem dX4_addTick_37 : decode cX4_addTick 37 = .ok (.invokevirtual 65, 3) := by decide +kernel
theorem dX4_addTick_40 : decode cX4_addTick 40 = .ok (.ireturn, 1) := by decide +kernel
theorem dX4_addTick_41 : decode cX4_addTick 41 = .ok (.aload_n 0, 1) := by decide +kernel
theorem dX4_addTick_42 : decode cX4_addTick 42 = .ok (.getfield 50, 3) := by decide +kernel
theorem dX4_addTick_45 : decode cX4_addTick 45 = .ok (.bipush 6, 2) := by decide +kernel
theorem dX4_addTick_47 : decode cX4_addTick 47 = .ok (.if_icmp .ne 9, 3) := by decide +kernel
theorem dX4_addTick_50 : decode cX4_addTick 50 = .ok (.aload_n 0, 1) := by decide +kernel
theorem dX4_addTick_51 : decode cX4_addTick 51 = .ok (.iconst 2, 1) := by decide +kernel
theorem dX4_addTick_52 : decode cX4_addTick 52 = .ok (.invokevirtual 65, 3) := by decide +kernel
theorem dX4_addTick_55 : decode cX4_addTick 55 = .ok (.ireturn, 1) := by decide +kernel
theorem dX4_addTick_56 : decode cX4_addTick 56 = .ok (.iconst 3, 1) := by decide +kernel
theorem dX4_addTick_57 : decode cX4_addTick 57 = .ok (.newarray .int, 2) := by decide +kernel
theorem dX4_addTick_59 : decode cX4_addTick 59 = .ok (.dup, 1) := by decide +kernel
theorem dX4_addTick_60 : decode cX4_addTick 60 = .ok (.iconst 0, 1) := by decide +kernel
theorem dX4_addTick_61 : decode cX4_addTick 61 = .ok (.iload_n 1, 1) := by decide +kernel
theorem dX4_addTick_62 : decode cX4_addTick 62 = .ok (.iastore, 1) := by decide +kernel
theorem dX4_addTick_63 : decode cX4_addTick 63 = .ok (.dup, 1) := by decide +kernel
theorem dX4_addTick_64 : decode cX4_addTick 64 = .ok (.iconst 1, 1) := by decide +kernel
theorem dX4_addTick_65 : decode cX4_addTick 65 = .ok (.iload_n 2, 1) := by decide +kernel
theorem dX4_addTick_66 : decode cX4_addTick 66 = .ok (.iastore, 1) := by decide +kernel
theorem dX4_addTick_67 : decode cX4_addTick 67 = .ok (.dup, 1) := by decide +kernel
theorem dX4_addTick_68 : decode cX4_addTick 68 = .ok (.iconst 2, 1) := by decide +kernel
theorem dX4_addTick_69 : decode cX4_addTick 69 = .ok (.iload_n 3, 1) := by decide +kernel
theorem dX4_addTick_70 : decode cX4_addTick 70 = .ok (.iastore, 1) := by decide +kernel
theorem dX4_addTick_71 : decode cX4_addTick 71 = .ok (.astore 4, 2) := by decide +kernel
theorem dX4_addTick_73 : decode cX4_addTick 73 = .ok (.aload 4, 2) := by decide +kernel
theorem dX4_addTick_75 : decode cX4_addTick 75 = .ok (.iconst 0, 1) := by decide +kernel
theorem dX4_addTick_76 : decode cX4_addTick 76 = .ok (.aload_n 0, 1) := by decide +kernel
theorem dX4_addTick_77 : decode cX4_addTick 77 = .ok (.getfield 23, 3) := by decide +kernel
theorem dX4_addTick_80 : decode cX4_addTick 80 = .ok (.iconst 3, 1) := by decide +kernel
theorem dX4_addTick_81 : decode cX4_addTick 81 = .ok (.aload_n 0, 1) := by decide +kernel
theorem dX4_addTick_82 : decode cX4_addTick 82 = .ok (.getfield 50, 3) := by decide +kernel
theorem dX4_addTick_85 : decode cX4_addTick 85 = .ok (.imul, 1) := by decide +kernel
theorem dX4_addTick_86 : decode cX4_addTick 86 = .ok (.iconst 3, 1) := by decide +kernel
theorem dX4_addTick_87 : decode cX4_addTick 87 = .ok (.invokestatic 99, 3) := by decide +kernel
theorem dX4_addTick_90 : decode cX4_addTick 90 = .ok (.aload_n 0, 1) := by decide +kernel
theorem dX4_addTick_91 : decode cX4_addTick 91 = .ok (.getfield 27, 3) := by decide +kernel
theorem dX4_addTick_94 : decode cX4_addTick 94 = .ok (.aload_n 0, 1) := by decide +kernel
theorem dX4_addTick_95 : decode cX4_addTick 95 = .ok (.getfield 50, 3) := by decide +kernel
theorem dX4_addTick_98 : decode cX4_addTick 98 = .ok (.bipush 6, 2) := by decide +kernel
theorem dX4_addTick_100 : decode cX4_addTick 100 = .ok (.iload_n 1, 1) := by decide +kernel
theorem dX4_addTick_101 : decode cX4_addTick 101 = .ok (.imul, 1) := by decide +kernel
theorem dX4_addTick_102 : decode cX4_addTick 102 = .ok (.iload_n 2, 1) := by decide +kernel
theorem dX4_addTick_103 : decode cX4_addTick 103 = .ok (.imul, 1) := by decide +kernel
theorem dX4_addTick_104 : decode cX4_addTick 104 = .ok (.newarray .int, 2) := by decide +kernel
theorem dX4_addTick_106 : decode cX4_addTick 106 = .ok (.aastore, 1) := by decide +kernel
theorem dX4_addTick_107 : decode cX4_addTick 107 = .ok (.aload_n 0, 1) := by decide +kernel
theorem dX4_addTick_108 : decode cX4_addTick 108 = .ok (.getfield 33, 3) := by decide +kernel
theorem dX4_addTick_111 : decode cX4_addTick 111 = .ok (.aload_n 0, 1) := by decide +kernel
theorem dX4_addTick_112 : decode cX4_addTick 112 = .ok (.getfield 50, 3) := by decide +kernel
theorem dX4_addTick_115 : decode cX4_addTick 115 = .ok (.iconst 2, 1) := by decide +kernel
theorem dX4_addTick_116 : decode cX4_addTick 116 = .ok (.iload_n 1, 1) := by decide +kernel
theorem dX4_addTick_117 : decode cX4_addTick 117 = .ok (.imul, 1) := by decide +kernel
theorem dX4_addTick_118 : decode cX4_addTick 118 = .ok (.iload_n 2, 1) := by decide +kernel
theorem dX4_addTick_119 : decode cX4_addTick 119 = .ok (.imul, 1) := by decide +kernel
theorem dX4_addTick_120 : decode cX4_addTick 120 = .ok (.newarray .boolean, 2) := by decide +kernel
theorem dX4_addTick_122 : decode cX4_addTick 122 = .ok (.aastore, 1) := by decide +kernel
theorem dX4_addTick_123 : decode cX4_addTick 123 = .ok (.aload_n 0, 1) := by decide +kernel
theorem dX4_addTick_124 : decode cX4_addTick 124 = .ok (.dup, 1) := by decide +kernel
theorem dX4_addTick_125 : decode cX4_addTick 125 = .ok (.getfield 50, 3) := by decide +kernel
theorem dX4_addTick_128 : decode cX4_addTick 128 = .ok (.iconst 1, 1) := by decide +kernel
theorem dX4_addTick_129 : decode cX4_addTick 129 = .ok (.iadd, 1) := by decide +kernel
theorem dX4_addTick_130 : decode cX4_addTick 130 = .ok (.putfield 50, 3) := by decide +kernel
theorem dX4_addTick_133 : decode cX4_addTick 133 = .ok (.aload_n 0, 1) := by decide +kernel
theorem dX4_addTick_134 : decode cX4_addTick 134 = .ok (.getfield 50, 3) := by decide +kernel
theorem dX4_addTick_137 : decode cX4_addTick 137 = .ok (.iconst 1, 1) := by decide +kernel
theorem dX4_addTick_138 : decode cX4_addTick 138 = .ok (.isub, 1) := by decide +kernel
theorem dX4_addTick_139 : decode cX4_addTick 139 = .ok (.ireturn, 1) := by decide +kernel
set_option maxRecDepth 20000 in
theorem ggX4_other_X4_ti : GoodIn wsX4_other wsX4_ti := goodIn_r _ [5, 6, 11, 12, 13, 14, 15, 16, 17, 18, 19, 20, 21, 22, 23, 24] (by decide +kernel) (by decide +kernel)
set_option maxRecDepth 20000 in
theorem gX4_other_X4_ti : GoodIn wsX4_other (wsV RX4 53 RX4 yX4_ti wsX4_ti) := goodIn_app (goodIn_of _ (by decide +kernel)) ggX4_other_X4_ti
set_option maxRecDepth 20000 in
theorem ggX4_other_X4_squaresOf : GoodIn wsX4_other wsX4_squaresOf := goodIn_r _ [10, 1, 2, 3, 4, 5, 6, 11, 12, 13, 14, 15, 16, 17, 18, 19, 20, 21, 22, 23, 24] (by decide +kernel) (by decide +kernel)
set_option maxRecDepth 20000 in
theorem gX4_other_X4_squaresOf : GoodIn wsX4_other (wsV RX4 61 RX4 yX4_squaresOf wsX4_squaresOf) := goodIn_app (goodIn_of _ (by decide +kernel)) ggX4_other_X4_squaresOf
theorem dX4_other_0 : decode cX4_other 0 = .ok (.aload_n 0, 1) := by decide +kernel
theorem dX4_other_1 : decode cX4_other 1 = .ok (.iload_n 1, 1) := by decide +kernel
theorem dX4_other_2 : decode cX4_other 2 = .ok (.iconst 0, 1) := by decide +kernel
theorem dX4_other_3 : decode cX4_other 3 = .ok (.invokevirtual 53, 3) := by decide +kernel
theorem dX4_other_6 : decode cX4_other 6 = .ok (.istore 4, 2) := by decide +kernel
theorem dX4_other_8 : decode cX4_other 8 = .ok (.iload_n 3, 1) := by decide +kernel
theorem dX4_other_9 : decode cX4_other 9 = .ok (.ifCond .ne 22, 3) := by decide +kernel
theorem dX4_other_12 : decode cX4_other 12 = .ok (.iload_n 2, 1) := by decide +kernel
theorem dX4_other_13 : decode cX4_other 13 = .ok (.iload 4, 2) := by decide +kernel
theorem dX4_other_15 : decode cX4_other 15 = .ok (.irem, 1) := by decide +kernel
theorem dX4_other_16 : decode cX4_other 16 = .ok (.iload 4, 2) := by decide +kernel
theorem dX4_other_18 : decode cX4_other 18 = .ok (.iconst 1, 1) := by decide +kernel
theorem dX4_other_19 : decode cX4_other 19 = .ok (.isub, 1) := by decide +kernel
theorem dX4_other_20 : decode cX4_other 20 = .ok (.if_icmp .ne 7, 3) := by decide +kernel
theorem dX4_other_23 : decode cX4_other 23 = .ok (.iconst (-1), 1) := by decide +kernel
theorem dX4_other_24 : decode cX4_other 24 = .ok (.goto 6, 3) := by decide +kernel
theorem dX4_other_27 : decode cX4_other 27 = .ok (.iload_n 2, 1) := by decide +kernel
theorem dX4_other_28 : decode cX4_other 28 = .ok (.iconst 1, 1) := by decide +kernel
theorem dX4_other_29 : decode cX4_other 29 = .ok (.iadd, 1) := by decide +kernel
theorem dX4_other_30 : decode cX4_other 30 = .ok (.ireturn, 1) := by decide +kernel
theorem dX4_other_31 : decode cX4_other 31 = .ok (.iload_n 2, 1) := by decide +kernel
theorem dX4_other_32 : decode cX4_other 32 = .ok (.iload 4, 2) := by decide +kernel
theorem dX4_other_34 : decode cX4_other 34 = .ok (.iadd, 1) := by decide +kernel
theorem dX4_other_35 : decode cX4_other 35 = .ok (.aload_n 0, 1) := by decide +kernel
theorem dX4_other_36 : decode cX4_other 36 = .ok (.iload_n 1, 1) := by decide +kernel
theorem dX4_other_37 : decode cX4_other 37 = .ok (.invokevirtual 61, 3) := by decide +kernel
theorem dX4_other_40 : decode cX4_other 40 = .ok (.if_icmp .lt 7, 3) := by decide +kernel
theorem dX4_other_43 : decode cX4_other 43 = .ok (.iconst (-1), 1) := by decide +kernel
theorem dX4_other_44 : decode cX4_other 44 = .ok (.goto 7, 3) := by decide +kernel
theorem dX4_other_47 : decode cX4_other 47 = .ok (.iload_n 2, 1) := by decide +kernel
theorem dX4_other_48 : decode cX4_other 48 = .ok (.iload 4, 2) := by decide +kernel
theorem dX4_other_50 : decode cX4_other 50 = .ok (.iadd, 1) := by decide +kernel
theorem dX4_other_51 : decode cX4_other 51 = .ok (.ireturn, 1) := by decide +kernel
set_option maxRecDepth 20000 in
theorem ggX4_isOpen_X4_other : GoodIn wsX4_isOpen wsX4_other := goodIn_r _ [6, 7, 8, 9, 5, 10, 11, 12, 13, 14, 15, 16, 17, 18, 19, 20, 21, 22, 23, 24, 25, 26, 27, 28, 29] (by decide +kernel) (by decide +kernel)
set_option maxRecDepth 20000 in
theorem gX4_isOpen_X4_other : GoodIn wsX4_isOpen (wsV RX4 105 RX4 yX4_other wsX4_other) := goodIn_app (goodIn_of _ (by decide +kernel)) ggX4_isOpen_X4_other
theorem dX4_isOpen_0 : decode cX4_isOpen 0 = .ok (.aload_n 0, 1) := by decide +kernel
theorem dX4_isOpen_1 : decode cX4_isOpen 1 = .ok (.iload_n 1, 1) := by decide +kernel
theorem dX4_isOpen_2 : decode cX4_isOpen 2 = .ok (.iload_n 2, 1) := by decide +kernel
theorem dX4_isOpen_3 : decode cX4_isOpen 3 = .ok (.iload_n 3, 1) := by decide +kernel
theorem dX4_isOpen_4 : decode cX4_isOpen 4 = .ok (.invokevirtual 105, 3) := by decide +kernel
theorem dX4_isOpen_7 : decode cX4_isOpen 7 = .ok (.iconst (-1), 1) := by decide +kernel
theorem dX4_isOpen_8 : decode cX4_isOpen 8 = .ok (.if_icmp .eq 22, 3) := by decide +kernel
theorem dX4_isOpen_11 : decode cX4_isOpen 11 = .ok (.aload_n 0, 1) := by decide +kernel
theorem dX4_isOpen_12 : decode cX4_isOpen 12 = .ok (.getfield 33, 3) := by decide +kernel
theorem dX4_isOpen_15 : decode cX4_isOpen 15 = .ok (.iload_n 1, 1) := by decide +kernel
theorem dX4_isOpen_16 : decode cX4_isOpen 16 = .ok (.aaload, 1) := by decide +kernel
theorem dX4_isOpen_17 : decode cX4_isOpen 17 = .ok (.iconst 2, 1) := by decide +kernel
theorem dX4_isOpen_18 : decode cX4_isOpen 18 = .ok (.iload_n 2, 1) := by decide +kernel
theorem dX4_isOpen_19 : decode cX4_isOpen 19 = .ok (.imul, 1) := by decide +kernel
theorem dX4_isOpen_20 : decode cX4_isOpen 20 = .ok (.iload_n 3, 1) := by decide +kernel
theorem dX4_isOpen_21 : decode cX4_isOpen 21 = .ok (.iadd, 1) := by decide +kernel
theorem dX4_isOpen_22 : decode cX4_isOpen 22 = .ok (.baload, 1) := by decide +kernel
theorem dX4_isOpen_23 : decode cX4_isOpen 23 = .ok (.ifCond .ne 7, 3) := by decide +kernel
theorem dX4_isOpen_26 : decode cX4_isOpen 26 = .ok (.iconst 1, 1) := by decide +kernel
theorem dX4_isOpen_27 : decode cX4_isOpen 27 = .ok (.goto 4, 3) := by decide +kernel
theorem dX4_isOpen_30 : decode cX4_isOpen 30 = .ok (.iconst 0, 1) := by decide +kernel
theorem dX4_isOpen_31 : decode cX4_isOpen 31 = .ok (.ireturn, 1) := by decide +kernel
set_option maxRecDepth 20000 in
theorem ggX4_open_X4_squaresOf : GoodIn wsX4_open wsX4_squaresOf := goodIn_r _ [5, 6, 7, 8, 4, 9, 10, 20, 21, 22, 23, 24, 25, 26, 27, 28, 29, 30, 31, 32, 33] (by decide +kernel) (by decide +kernel)
set_option maxRecDepth 20000 in
theorem gX4_open_X4_squaresOf : GoodIn wsX4_open (wsV RX4 61 RX4 yX4_squaresOf wsX4_squaresOf) := goodIn_app (goodIn_of _ (by decide +kernel)) ggX4_open_X4_squaresOf
set_option maxRecDepth 20000 in
theorem ggX4_open_X4_isOpen : GoodIn wsX4_open wsX4_isOpen := goodIn_r _ [14, 15, 16, 17, 18, 4, 19, 6, 7, 8, 9, 10, 1, 2, 3, 5, 20, 21, 22, 23, 24, 25, 26, 27, 28, 29, 30, 31, 32, 33] (by decide +kernel) (by decide +kernel)
set_option maxRecDepth 20000 in
theorem gX4_open_X4_isOpen : GoodIn wsX4_open (wsV RX4 108 RX4 yX4_isOpen wsX4_isOpen) := goodIn_app (goodIn_of _ (by decide +kernel)) ggX4_open_X4_isOpen
theorem dX4_open_0 : decode cX4_open 0 = .ok (.iconst 0, 1) := by decide +kernel
theorem dX4_open_1 : decode cX4_open 1 = .ok (.istore_n 2, 1) := by decide +kernel
theorem dX4_open_2 : decode cX4_open 2 = .ok (.iconst 0, 1) := by decide +kernel
theorem dX4_open_3 : decode cX4_open 3 = .ok (.istore_n 3, 1) := by decide +kernel
theorem dX4_open_4 : decode cX4_open 4 = .ok (.iload_n 3, 1) := by decide +kernel
theorem dX4_open_5 : decode cX4_open 5 = .ok (.iconst 2, 1) := by decide +kernel
theorem dX4_open_6 : decode cX4_open 6 = .ok (.aload_n 0, 1) := by decide +kernel
theorem dX4_open_7 : decode cX4_open 7 = .ok (.iload_n 1, 1) := by decide +kernel
theorem dX4_open_8 : decode cX4_open 8 = .ok (.invokevirtual 61, 3) := by decide +kernel
theorem dX4_open_11 : decode cX4_open 11 = .ok (.imul, 1) := by decide +kernel
theorem dX4_open_12 : decode cX4_open 12 = .ok (.if_icmp .ge 31, 3) := by decide +kernel
theorem dX4_open_15 : decode cX4_open 15 = .ok (.iload_n 2, 1) := by decide +kernel
theorem dX4_open_16 : decode cX4_open 16 = .ok (.aload_n 0, 1) := by decide +kernel
theorem dX4_open_17 : decode cX4_open 17 = .ok (.iload_n 1, 1) := by decide +kernel
theorem dX4_open_18 : decode cX4_open 18 = .ok (.iload_n 3, 1) := by decide +kernel
theorem dX4_open_19 : decode cX4_open 19 = .ok (.iconst 2, 1) := by decide +kernel
theorem dX4_open_20 : decode cX4_open 20 = .ok (.idiv, 1) := by decide +kernel
theorem dX4_open_21 : decode cX4_open 21 = .ok (.iload_n 3, 1) := by decide +kernel
theorem dX4_open_22 : decode cX4_open 22 = .ok (.iconst 2, 1) := by decide +kernel
theorem dX4_open_23 : decode cX4_open 23 = .ok (.irem, 1) := by decide +kernel
theorem dX4_open_24 : decode cX4_open 24 = .ok (.invokevirtual 108, 3) := by decide +kernel
theorem dX4_open_27 : decode cX4_open 27 = .ok (.ifCond .eq 7, 3) := by decide +kernel
theorem dX4_open_30 : decode cX4_open 30 = .ok (.iconst 1, 1) := by decide +kernel
theorem dX4_open_31 : decode cX4_open 31 = .ok (.goto 4, 3) := by decide +kernel
theorem dX4_open_34 : decode cX4_open 34 = .ok (.iconst 0, 1) := by decide +kernel
theorem dX4_open_35 : decode cX4_open 35 = .ok (.iadd, 1) := by decide +kernel
theorem dX4_open_36 : decode cX4_open 36 = .ok (.istore_n 2, 1) := by decide +kernel
theorem dX4_open_37 : decode cX4_open 37 = .ok (.iinc 3 1, 3) := by decide +kernel
theorem dX4_open_40 : decode cX4_open 40 = .ok (.goto (-36), 3) := by decide +kernel
theorem dX4_open_43 : decode cX4_open 43 = .ok (.iload_n 2, 1) := by decide +kernel
theorem dX4_open_44 : decode cX4_open 44 = .ok (.ireturn, 1) := by decide +kernel
set_option maxRecDepth 20000 in
theorem ggX4_sew_X4_isSquare : GoodIn wsX4_sew wsX4_isSquare := goodIn_r _ [7, 8, 9, 10, 6, 11, 12, 13, 14, 15, 16, 17, 18, 19, 20, 21, 22, 23, 24, 41, 42, 43, 44, 45, 46, 47, 48, 49, 50, 51, 52, 53, 54] (by decide +kernel) (by decide +kernel)
set_option maxRecDepth 20000 in
theorem gX4_sew_X4_isSquare : GoodIn wsX4_sew (wsV RX4 111 RX4 yX4_isSquare wsX4_isSquare) := goodIn_app (goodIn_of _ (by decide +kernel)) ggX4_sew_X4_isSquare
set_option maxRecDepth 20000 in
theorem ggX4_sew_X4_fail : GoodIn wsX4_sew wsX4_fail := goodIn_r _ [28, 1, 41, 42, 43, 44, 45, 46, 47, 48, 49, 50, 51, 52, 53, 54] (by decide +kernel) (by decide +kernel)
set_option maxRecDepth 20000 in
theorem gX4_sew_X4_fail : GoodIn wsX4_sew (wsV RX4 65 RX4 yX4_fail wsX4_fail) := goodIn_app (goodIn_of _ (by decide +kernel)) ggX4_sew_X4_fail
set_option maxRecDepth 20000 in
theorem ggX4_sew_X4_isIn : GoodIn wsX4_sew wsX4_isIn := goodIn_r _ [15] (by decide +kernel) (by decide +kernel)
set_option maxRecDepth 20000 in
theorem gX4_sew_X4_isIn : GoodIn wsX4_sew (va_wsS RX4 46 yX4_isIn wsX4_isIn) := goodIn_app (goodIn_of _ (by decide +kernel)) ggX4_sew_X4_isIn
set_option maxRecDepth 20000 in
theorem ggX4_sew_X4_other : GoodIn wsX4_sew wsX4_other := goodIn_r _ [32, 20, 21, 22, 6, 23, 24, 16, 17, 18, 19, 41, 42, 43, 44, 45, 46, 47, 48, 49, 50, 51, 52, 53, 54] (by decide +kernel) (by decide +kernel)
set_option maxRecDepth 20000 in
theorem gX4_sew_X4_other : GoodIn wsX4_sew (wsV RX4 105 RX4 yX4_other wsX4_other) := goodIn_app (goodIn_of _ (by decide +kernel)) ggX4_sew_X4_other
set_option maxRecDepth 20000 in
theorem ggX4_sew_X4_open : GoodIn wsX4_sew wsX4_open := goodIn_r _ [36, 16, 17, 18, 6, 19, 20, 21, 22, 23, 24, 37, 38, 39, 40, 2, 29, 30, 31, 32, 41, 42, 43, 44, 45, 46, 47, 48, 49, 50, 51, 52, 53, 54] (by decide +kernel) (by decide +kernel)
set_option maxRecDepth 20000 in
theorem gX4_sew_X4_open : GoodIn wsX4_sew (wsV RX4 115 RX4 yX4_open wsX4_open) := goodIn_app (goodIn_of _ (by decide +kernel)) ggX4_sew_X4_open
theorem dX4_sew_0 : decode cX4_sew 0 = .ok (.aload_n 0, 1) := by decide +kernel
theorem dX4_sew_1 : decode cX4_sew 1 = .ok (.iconst 0, 1) := by decide +kernel
theorem dX4_sew_2 : decode cX4_sew 2 = .ok (.putfield 40, 3) := by decide +kernel
theorem dX4_sew_5 : decode cX4_sew 5 = .ok (.aload_n 0, 1) := by decide +kernel
theorem dX4_sew_6 : decode cX4_sew 6 = .ok (.iload_n 1, 1) := by decide +kernel
theorem dX4_sew_7 : decode cX4_sew 7 = .ok (.iload_n 2, 1) := by decide +kernel
theorem dX4_sew_8 : decode cX4_sew 8 = .ok (.invokevirtual 111, 3) := by decide +kernel
theorem dX4_sew_11 : decode cX4_sew 11 = .ok (.ifCond .ne 9, 3) := by decide +kernel
theorem dX4_sew_14 : decode cX4_sew 14 = .ok (.aload_n 0, 1) := by decide +kernel
theorem dX4_sew_15 : decode cX4_sew 15 = .ok (.iconst 1, 1) := by decide +kernel
theorem dX4_sew_16 : decode cX4_sew 16 = .ok (.invokevirtual 65, 3) := by decide +kernel
theorem dX4_sew_19 : decode cX4_sew 19 = .ok (.ireturn, 1) := by decide +kernel
theorem dX4_sew_20 : decode cX4_sew 20 = .ok (.iload_n 3, 1) := by decide +kernel
theorem dX4_sew_21 : decode cX4_sew 21 = .ok (.iconst 0, 1) := by decide +kernel
theorem dX4_sew_22 : decode cX4_sew 22 = .ok (.iconst 1, 1) := by decide +kernel
theorem dX4_sew_23 : decode cX4_sew 23 = .ok (.invokestatic 46, 3) := by decide +kernel
theorem dX4_sew_26 : decode cX4_sew 26 = .ok (.ifCond .eq 14, 3) := by decide +kernel
theorem dX4_sew_29 : decode cX4_sew 29 = .ok (.aload_n 0, 1) := by decide +kernel
theorem dX4_sew_30 : decode cX4_sew 30 = .ok (.iload_n 1, 1) := by decide +kernel
theorem dX4_sew_31 : decode cX4_sew 31 = .ok (.iload_n 2, 1) := by decide +kernel
theorem dX4_sew_32 : decode cX4_sew 32 = .ok (.iload_n 3, 1) := by decide +kernel
theorem dX4_sew_33 : decode cX4_sew 33 = .ok (.invokevirtual 105, 3) := by decide +kernel
theorem dX4_sew_36 : decode cX4_sew 36 = .ok (.iconst (-1), 1) := by decide +kernel
theorem dX4_sew_37 : decode cX4_sew 37 = .ok (.if_icmp .ne 9, 3) := by decide +kernel
theorem dX4_sew_40 : decode cX4_sew 40 = .ok (.aload_n 0, 1) := by decide +kernel
theorem dX4_sew_41 : decode cX4_sew 41 = .ok (.iconst 2, 1) := by decide +kernel
theorem dX4_sew_42 : decode cX4_sew 42 = .ok (.invokevirtual 65, 3) := by decide +kernel
theorem dX4_sew_45 : decode cX4_sew 45 = .ok (.ireturn, 1) := by decide +kernel
theorem dX4_sew_46 : decode cX4_sew 46 = .ok (.aload_n 0, 1) := by decide +kernel
theorem dX4_sew_47 : decode cX4_sew 47 = .ok (.getfield 33, 3) := by decide +kernel
theorem dX4_sew_50 : decode cX4_sew 50 = .ok (.iload_n 1, 1) := by decide +kernel
theorem dX4_sew_51 : decode cX4_sew 51 = .ok (.aaload, 1) := by decide +kernel
theorem dX4_sew_52 : decode cX4_sew 52 = .ok (.iconst 2, 1) := by decide +kernel
theorem dX4_sew_53 : decode cX4_sew 53 = .ok (.iload_n 2, 1) := by decide +kernel
theorem dX4_sew_54 : decode cX4_sew 54 = .ok (.imul, 1) := by decide +kernel
theorem dX4_sew_55 : decode cX4_sew 55 = .ok (.iload_n 3, 1) := by decide +kernel
theorem dX4_sew_56 : decode cX4_sew 56 = .ok (.iadd, 1) := by decide +kernel
theorem dX4_sew_57 : decode cX4_sew 57 = .ok (.iload 4, 2) := by decide +kernel
theorem dX4_sew_59 : decode cX4_sew 59 = .ok (.bastore, 1) := by decide +kernel
theorem dX4_sew_60 : decode cX4_sew 60 = .ok (.aload_n 0, 1) := by decide +kernel
theorem dX4_sew_61 : decode cX4_sew 61 = .ok (.iload_n 1, 1) := by decide +kernel
theorem dX4_sew_62 : decode cX4_sew 62 = .ok (.invokevirtual 115, 3) := by decide +kernel
theorem dX4_sew_65 : decode cX4_sew 65 = .ok (.ireturn, 1) := by decide +kernel
theorem dX4_move_0 : decode cX4_move 0 = .ok (.iload 4, 2) := by decide +kernel
theorem dX4_move_2 : decode cX4_move 2 = .ok (.istore 6, 2) := by decide +kernel
theorem dX4_move_4 : decode cX4_move 4 = .ok (.iconst 0, 1) := by decide +kernel
theorem dX4_move_5 : decode cX4_move 5 = .ok (.istore 7, 2) := by decide +kernel
theorem dX4_move_7 : decode cX4_move 7 = .ok (.iload 7, 2) := by decide +kernel
theorem dX4_move_9 : decode cX4_move 9 = .ok (.iload 5, 2) := by decide +kernel
theorem dX4_move_11 : decode cX4_move 11 = .ok (.if_icmp .ge 60, 3) := by decide +kernel
theorem dX4_move_14 : decode cX4_move 14 = .ok (.iload 6, 2) := by decide +kernel
theorem dX4_move_16 : decode cX4_move 16 = .ok (.aload_n 0, 1) := by decide +kernel
theorem dX4_move_17 : decode cX4_move 17 = .ok (.bipush 6, 2) := by decide +kernel
theorem dX4_move_19 : decode cX4_move 19 = .ok (.iload_n 1, 1) := by decide +kernel
theorem dX4_move_20 : decode cX4_move 20 = .ok (.imul, 1) := by decide +kernel
theorem dX4_move_21 : decode cX4_move 21 = .ok (.iload 7, 2) := by decide +kernel
theorem dX4_move_23 : decode cX4_move 23 = .ok (.iadd, 1) := by decide +kernel
theorem dX4_move_24 : decode cX4_move 24 = .ok (.iaload, 1) := by decide +kernel
theorem dX4_move_25 : decode cX4_move 25 = .ok (.invokestatic 83, 3) := by decide +kernel
theorem dX4_move_28 : decode cX4_move 28 = .ok (.istore 8, 2) := by decide +kernel
theorem dX4_move_30 : decode cX4_move 30 = .ok (.aload_n 0, 1) := by decide +kernel
theorem dX4_move_31 : decode cX4_move 31 = .ok (.bipush 6, 2) := by decide +kernel
theorem dX4_move_33 : decode cX4_move 33 = .ok (.iload_n 1, 1) := by decide +kernel
theorem dX4_move_34 : decode cX4_move 34 = .ok (.imul, 1) := by decide +kernel
theorem dX4_move_35 : decode cX4_move 35 = .ok (.iload 7, 2) := by decide +kernel
theorem dX4_move_37 : decode cX4_move 37 = .ok (.iadd, 1) := by decide +kernel
theorem dX4_move_38 : decode cX4_move 38 = .ok (.dup2, 1) := by decide +kernel
theorem dX4_move_39 : decode cX4_move 39 = .ok (.iaload, 1) := by decide +kernel
theorem dX4_move_40 : decode cX4_move 40 = .ok (.iload 8, 2) := by decide +kernel
theorem dX4_move_42 : decode cX4_move 42 = .ok (.isub, 1) := by decide +kernel
theorem dX4_move_43 : decode cX4_move 43 = .ok (.iastore, 1) := by decide +kernel
theorem dX4_move_44 : decode cX4_move 44 = .ok (.aload_n 2, 1) := by decide +kernel
theorem dX4_move_45 : decode cX4_move 45 = .ok (.bipush 6, 2) := by decide +kernel
theorem dX4_move_47 : decode cX4_move 47 = .ok (.iload_n 3, 1) := by decide +kernel
theorem dX4_move_48 : decode cX4_move 48 = .ok (.imul, 1) := by decide +kernel
theorem dX4_move_49 : decode cX4_move 49 = .ok (.iload 7, 2) := by decide +kernel
theorem dX4_move_51 : decode cX4_move 51 = .ok (.iadd, 1) := by decide +kernel
theorem dX4_move_52 : decode cX4_move 52 = .ok (.dup2, 1) := by decide +kernel
theorem dX4_move_53 : decode cX4_move 53 = .ok (.iaload, 1) := by decide +kernel
theorem dX4_move_54 : decode cX4_move 54 = .ok (.iload 8, 2) := by decide +kernel
theorem dX4_move_56 : decode cX4_move 56 = .ok (.iadd, 1) := by decide +kernel
theorem dX4_move_57 : decode cX4_move 57 = .ok (.iastore, 1) := by decide +kernel
theorem dX4_move_58 : decode cX4_move 58 = .ok (.iload 6, 2) := by decide +kernel
theorem dX4_move_60 : decode cX4_move 60 = .ok (.iload 8, 2) := by decide +kernel
theorem dX4_move_62 : decode cX4_move 62 = .ok (.isub, 1) := by decide +kernel
theorem dX4_move_63 : decode cX4_move 63 = .ok (.istore 6, 2) := by decide +kernel
theorem dX4_move_65 : decode cX4_move 65 = .ok (.iinc 7 1, 3) := by decide +kernel
theorem dX4_move_68 : decode cX4_move 68 = .ok (.goto (-61), 3) := by decide +kernel
theorem dX4_move_71 : decode cX4_move 71 = .ok (.iload 6, 2) := by decide +kernel
theorem dX4_move_73 : decode cX4_move 73 = .ok (.ireturn, 1) := by decide +kernel
set_option maxRecDepth 20000 in
theorem ggX4_take_X4_all : GoodIn wsX4_take wsX4_all := goodIn_r _ [9] (by decide +kernel) (by decide +kernel)
set_option maxRecDepth 20000 in
theorem gX4_take_X4_all : GoodIn wsX4_take (va_wsS RX4 76 yX4_all wsX4_all) := goodIn_app (goodIn_of _ (by decide +kernel)) ggX4_take_X4_all
set_option maxRecDepth 20000 in
theorem ggX4_take_X4_move : GoodIn wsX4_take wsX4_move := goodIn_r _ [12, 2, 3, 4, 5] (by decide +kernel) (by decide +kernel)
set_option maxRecDepth 20000 in
theorem gX4_take_X4_move : GoodIn wsX4_take (va_wsS RX4 118 yX4_move wsX4_move) := goodIn_app (goodIn_of _ (by decide +kernel)) ggX4_take_X4_move
theorem dX4_take_0 : decode cX4_take 0 = .ok (.iload 5, 2) := by decide +kernel
theorem dX4_take_2 : decode cX4_take 2 = .ok (.aload_n 1, 1) := by decide +kernel
theorem dX4_take_3 : decode cX4_take 3 = .ok (.iload_n 2, 1) := by decide +kernel
theorem dX4_take_4 : decode cX4_take 4 = .ok (.invokestatic 76, 3) := by decide +kernel
theorem dX4_take_7 : decode cX4_take 7 = .ok (.sipush 300, 3) := by decide +kernel
theorem dX4_take_10 : decode cX4_take 10 = .ok (.aload_n 0, 1) := by decide +kernel
theorem dX4_take_11 : decode cX4_take 11 = .ok (.getfield 27, 3) := by decide +kernel
theorem dX4_take_14 : decode cX4_take 14 = .ok (.iload_n 3, 1) := by decide +kernel
theorem dX4_take_15 : decode cX4_take 15 = .ok (.aaload, 1) := by decide +kernel
theorem dX4_take_16 : decode cX4_take 16 = .ok (.iload 4, 2) := by decide +kernel
theorem dX4_take_18 : decode cX4_take 18 = .ok (.invokestatic 76, 3) := by decide +kernel
theorem dX4_take_21 : decode cX4_take 21 = .ok (.isub, 1) := by decide +kernel
theorem dX4_take_22 : decode cX4_take 22 = .ok (.invokestatic 83, 3) := by decide +kernel
theorem dX4_take_25 : decode cX4_take 25 = .ok (.invokestatic 83, 3) := by decide +kernel
theorem dX4_take_28 : decode cX4_take 28 = .ok (.istore 6, 2) := by decide +kernel
theorem dX4_take_30 : decode cX4_take 30 = .ok (.aload_n 1, 1) := by decide +kernel
theorem dX4_take_31 : decode cX4_take 31 = .ok (.iload_n 2, 1) := by decide +kernel
theorem dX4_take_32 : decode cX4_take 32 = .ok (.aload_n 0, 1) := by decide +kernel
theorem dX4_take_33 : decode cX4_take 33 = .ok (.getfield 27, 3) := by decide +kernel
theorem dX4_take_36 : decode cX4_take 36 = .ok (.iload_n 3, 1) := by decide +kernel
theorem dX4_take_37 : decode cX4_take 37 = .ok (.aaload, 1) := by decide +kernel
theorem dX4_take_38 : decode cX4_take 38 = .ok (.iload 4, 2) := by decide +kernel
theorem dX4_take_40 : decode cX4_take 40 = .ok (.iload 6, 2) := by decide +kernel
theorem dX4_take_42 : decode cX4_take 42 = .ok (.bipush 6, 2) := by decide +kernel
theorem dX4_take_44 : decode cX4_take 44 = .ok (.invokestatic 118, 3) := by decide +kernel
theorem dX4_take_47 : decode cX4_take 47 = .ok (.pop, 1) := by decide +kernel
theorem dX4_take_48 : decode cX4_take 48 = .ok (.iload 6, 2) := by decide +kernel
theorem dX4_take_50 : decode cX4_take 50 = .ok (.ireturn, 1) := by decide +kernel
set_option maxRecDepth 20000 in
theorem ggX4_fill_X4_isSquare : GoodIn wsX4_fill wsX4_isSquare := goodIn_r _ [7, 8, 9, 10, 6, 11, 12, 13, 14, 15, 16, 17, 18, 19, 20, 21, 22, 23, 24, 44, 45, 46, 47, 48, 49, 50, 51, 52, 53, 54, 55, 56, 57] (by decide +kernel) (by decide +kernel)
set_option maxRecDepth 20000 in
theorem gX4_fill_X4_isSquare : GoodIn wsX4_fill (wsV RX4 111 RX4 yX4_isSquare wsX4_isSquare) := goodIn_app (goodIn_of _ (by decide +kernel)) ggX4_fill_X4_isSquare
set_option maxRecDepth 20000 in
theorem ggX4_fill_X4_isIn : GoodIn wsX4_fill wsX4_isIn := goodIn_r _ [15] (by decide +kernel) (by decide +kernel)
set_option maxRecDepth 20000 in
theorem gX4_fill_X4_isIn : GoodIn wsX4_fill (va_wsS RX4 46 yX4_isIn wsX4_isIn) := goodIn_app (goodIn_of _ (by decide +kernel)) ggX4_fill_X4_isIn
set_option maxRecDepth 20000 in
theorem ggX4_fill_X4_fail : GoodIn wsX4_fill wsX4_fail := goodIn_r _ [28, 1, 44, 45, 46, 47, 48, 49, 50, 51, 52, 53, 54, 55, 56, 57] (by decide +kernel) (by decide +kernel)
set_option maxRecDepth 20000 in
theorem gX4_fill_X4_fail : GoodIn wsX4_fill (wsV RX4 65 RX4 yX4_fail wsX4_fail) := goodIn_app (goodIn_of _ (by decide +kernel)) ggX4_fill_X4_fail
set_option maxRecDepth 20000 in
theorem ggX4_fill_X4_take : GoodIn wsX4_fill wsX4_take := goodIn_r _ [32, 33, 34, 35, 36, 37, 38, 39, 6, 40, 41, 42, 43, 44, 45, 46, 47, 48, 49, 50, 51, 52, 53, 54, 55, 56, 57] (by decide +kernel) (by decide +kernel)
set_option maxRecDepth 20000 in
theorem gX4_fill_X4_take : GoodIn wsX4_fill (wsV RX4 122 RX4 yX4_take wsX4_take) := goodIn_app (goodIn_of _ (by decide +kernel)) ggX4_fill_X4_take
theorem dX4_fill_0 : decode cX4_fill 0 = .ok (.aload_n 0, 1) := by decide +kernel
theorem dX4_fill_1 : decode cX4_fill 1 = .ok (.iconst 0, 1) := by decide +kernel
theorem dX4_fill_2 : decode cX4_fill 2 = .ok (.putfield 40, 3) := by decide +kernel
theorem dX4_fill_5 : decode cX4_fill 5 = .ok (.aload_n 0, 1) := by decide +kernel
theorem dX4_fill_6 : decode cX4_fill 6 = .ok (.iload_n 1, 1) := by decide +kernel
theorem dX4_fill_7 : decode cX4_fill 7 = .ok (.iload_n 2, 1) := by decide +kernel
theorem dX4_fill_8 : decode cX4_fill 8 = .ok (.invokevirtual 111, 3) := by decide +kernel
theorem dX4_fill_11 : decode cX4_fill 11 = .ok (.ifCond .eq 12, 3) := by decide +kernel
theorem dX4_fill_14 : decode cX4_fill 14 = .ok (.iload_n 3, 1) := by decide +kernel
theorem dX4_fill_15 : decode cX4_fill 15 = .ok (.iconst 0, 1) := by decide +kernel
theorem dX4_fill_16 : decode cX4_fill 16 = .ok (.iconst 4, 1) := by decide +kernel
theorem dX4_fill_17 : decode cX4_fill 17 = .ok (.invokestatic 46, 3) := by decide +kernel
theorem dX4_fill_20 : decode cX4_fill 20 = .ok (.ifCond .ne 9, 3) := by decide +kernel
theorem dX4_fill_23 : decode cX4_fill 23 = .ok (.aload_n 0, 1) := by decide +kernel
theorem dX4_fill_24 : decode cX4_fill 24 = .ok (.iconst 1, 1) := by decide +kernel
theorem dX4_fill_25 : decode cX4_fill 25 = .ok (.invokevirtual 65, 3) := by decide +kernel
theorem dX4_fill_28 : decode cX4_fill 28 = .ok (.ireturn, 1) := by decide +kernel
theorem dX4_fill_29 : decode cX4_fill 29 = .ok (.iload 4, 2) := by decide +kernel
theorem dX4_fill_31 : decode cX4_fill 31 = .ok (.iconst 1, 1) := by decide +kernel
theorem dX4_fill_32 : decode cX4_fill 32 = .ok (.sipush 300, 3) := by decide +kernel
theorem dX4_fill_35 : decode cX4_fill 35 = .ok (.invokestatic 46, 3) := by decide +kernel
theorem dX4_fill_38 : decode cX4_fill 38 = .ok (.ifCond .ne 9, 3) := by decide +kernel
theorem dX4_fill_41 : decode cX4_fill 41 = .ok (.aload_n 0, 1) := by decide +kernel
theorem dX4_fill_42 : decode cX4_fill 42 = .ok (.iconst 2, 1) := by decide +kernel
theorem dX4_fill_43 : decode cX4_fill 43 = .ok (.invokevirtual 65, 3) := by decide +kernel
theorem dX4_fill_46 : decode cX4_fill 46 = .ok (.ireturn, 1) := by decide +kernel
theorem dX4_fill_47 : decode cX4_fill 47 = .ok (.aload_n 0, 1) := by decide +kernel
theorem dX4_fill_48 : decode cX4_fill 48 = .ok (.aload_n 0, 1) := by decide +kernel
theorem dX4_fill_49 : decode cX4_fill 49 = .ok (.getfield 20, 3) := by decide +kernel
theorem dX4_fill_52 : decode cX4_fill 52 = .ok (.iload_n 3, 1) := by decide +kernel
theorem dX4_fill_53 : decode cX4_fill 53 = .ok (.iload_n 1, 1) := by decide +kernel
theorem dX4_fill_54 : decode cX4_fill 54 = .ok (.iload_n 2, 1) := by decide +kernel
theorem dX4_fill_55 : decode cX4_fill 55 = .ok (.iload 4, 2) := by decide +kernel
theorem dX4_fill_57 : decode cX4_fill 57 = .ok (.invokevirtual 122, 3) := by decide +kernel
theorem dX4_fill_60 : decode cX4_fill 60 = .ok (.ireturn, 1) := by decide +kernel
set_option maxRecDepth 20000 in
theorem ggX4_shift_X4_isSquare : GoodIn wsX4_shift wsX4_isSquare := goodIn_r _ [7, 8, 9, 10, 6, 11, 12, 13, 14, 15, 16, 17, 18, 19, 20, 21, 22, 23, 24, 43, 44, 45, 46, 47, 48, 49, 50, 51, 52, 53, 54, 55, 56] (by decide +kernel) (by decide +kernel)
set_option maxRecDepth 20000 in
theorem gX4_shift_X4_isSquare : GoodIn wsX4_shift (wsV RX4 111 RX4 yX4_isSquare wsX4_isSquare) := goodIn_app (goodIn_of _ (by decide +kernel)) ggX4_shift_X4_isSquare
set_option maxRecDepth 20000 in
theorem ggX4_shift_X4_fail : GoodIn wsX4_shift wsX4_fail := goodIn_r _ [28, 1, 43, 44, 45, 46, 47, 48, 49, 50, 51, 52, 53, 54, 55, 56] (by decide +kernel) (by decide +kernel)
set_option maxRecDepth 20000 in
theorem gX4_shift_X4_fail : GoodIn wsX4_shift (wsV RX4 65 RX4 yX4_fail wsX4_fail) := goodIn_app (goodIn_of _ (by decide +kernel)) ggX4_shift_X4_fail
set_option maxRecDepth 20000 in
theorem ggX4_shift_X4_isIn : GoodIn wsX4_shift wsX4_isIn := goodIn_r _ [15] (by decide +kernel) (by decide +kernel)
set_option maxRecDepth 20000 in
theorem gX4_shift_X4_isIn : GoodIn wsX4_shift (va_wsS RX4 46 yX4_isIn wsX4_isIn) := goodIn_app (goodIn_of _ (by decide +kernel)) ggX4_shift_X4_isIn
set_option maxRecDepth 20000 in
theorem ggX4_shift_X4_take : GoodIn wsX4_shift wsX4_take := goodIn_r _ [32, 2, 33, 34, 35, 36, 37, 38, 6, 39, 40, 41, 42, 43, 44, 45, 46, 47, 48, 49, 50, 51, 52, 53, 54, 55, 56] (by decide +kernel) (by decide +kernel)
set_option maxRecDepth 20000 in
theorem gX4_shift_X4_take : GoodIn wsX4_shift (wsV RX4 122 RX4 yX4_take wsX4_take) := goodIn_app (goodIn_of _ (by decide +kernel)) ggX4_shift_X4_take
theorem dX4_shift_0 : decode cX4_shift 0 = .ok (.aload_n 0, 1) := by decide +kernel
theorem dX4_shift_1 : decode cX4_shift 1 = .ok (.iconst 0, 1) := by decide +kernel
theorem dX4_shift_2 : decode cX4_shift 2 = .ok (.putfield 40, 3) := by decide +kernel
theorem dX4_shift_5 : decode cX4_shift 5 = .ok (.aload_n 0, 1) := by decide +kernel
theorem dX4_shift_6 : decode cX4_shift 6 = .ok (.iload_n 1, 1) := by decide +kernel
theorem dX4_shift_7 : decode cX4_shift 7 = .ok (.iload_n 2, 1) := by decide +kernel
theorem dX4_shift_8 : decode cX4_shift 8 = .ok (.invokevirtual 111, 3) := by decide +kernel
theorem dX4_shift_11 : decode cX4_shift 11 = .ok (.ifCond .eq 12, 3) := by decide +kernel
theorem dX4_shift_14 : decode cX4_shift 14 = .ok (.aload_n 0, 1) := by decide +kernel
theorem dX4_shift_15 : decode cX4_shift 15 = .ok (.iload_n 1, 1) := by decide +kernel
theorem dX4_shift_16 : decode cX4_shift 16 = .ok (.iload_n 3, 1) := by decide +kernel
theorem dX4_shift_17 : decode cX4_shift 17 = .ok (.invokevirtual 111, 3) := by decide +kernel
theorem dX4_shift_20 : decode cX4_shift 20 = .ok (.ifCond .ne 9, 3) := by decide +kernel
theorem dX4_shift_23 : decode cX4_shift 23 = .ok (.aload_n 0, 1) := by decide +kernel
theorem dX4_shift_24 : decode cX4_shift 24 = .ok (.iconst 1, 1) := by decide +kernel
theorem dX4_shift_25 : decode cX4_shift 25 = .ok (.invokevirtual 65, 3) := by decide +kernel
theorem dX4_shift_28 : decode cX4_shift 28 = .ok (.ireturn, 1) := by decide +kernel
theorem dX4_shift_29 : decode cX4_shift 29 = .ok (.iload_n 2, 1) := by decide +kernel
theorem dX4_shift_30 : decode cX4_shift 30 = .ok (.iload_n 3, 1) := by decide +kernel
theorem dX4_shift_31 : decode cX4_shift 31 = .ok (.if_icmp .eq 15, 3) := by decide +kernel
theorem dX4_shift_34 : decode cX4_shift 34 = .ok (.iload 4, 2) := by decide +kernel
theorem dX4_shift_36 : decode cX4_shift 36 = .ok (.iconst 1, 1) := by decide +kernel
theorem dX4_shift_37 : decode cX4_shift 37 = .ok (.sipush 300, 3) := by decide +kernel
theorem dX4_shift_40 : decode cX4_shift 40 = .ok (.invokestatic 46, 3) := by decide +kernel
theorem dX4_shift_43 : decode cX4_shift 43 = .ok (.ifCond .ne 9, 3) := by decide +kernel
theorem dX4_shift_46 : decode cX4_shift 46 = .ok (.aload_n 0, 1) := by decide +kernel
theorem dX4_shift_47 : decode cX4_shift 47 = .ok (.iconst 2, 1) := by decide +kernel
theorem dX4_shift_48 : decode cX4_shift 48 = .ok (.invokevirtual 65, 3) := by decide +kernel
theorem dX4_shift_51 : decode cX4_shift 51 = .ok (.ireturn, 1) := by decide +kernel
theorem dX4_shift_52 : decode cX4_shift 52 = .ok (.aload_n 0, 1) := by decide +kernel
theorem dX4_shift_53 : decode cX4_shift 53 = .ok (.aload_n 0, 1) := by decide +kernel
theorem dX4_shift_54 : decode cX4_shift 54 = .ok (.getfield 27, 3) := by decide +kernel
theorem dX4_shift_57 : decode cX4_shift 57 = .ok (.iload_n 1, 1) := by decide +kernel
theorem dX4_shift_58 : decode cX4_shift 58 = .ok (.aaload, 1) := by decide +kernel
theorem dX4_shift_59 : decode cX4_shift 59 = .ok (.iload_n 2, 1) := by decide +kernel
theorem dX4_shift_60 : decode cX4_shift 60 = .ok (.iload_n 1, 1) := by decide +kernel
theorem dX4_shift_61 : decode cX4_shift 61 = .ok (.iload_n 3, 1) := by decide +kernel
theorem dX4_shift_62 : decode cX4_shift 62 = .ok (.iload 4, 2) := by decide +kernel
theorem dX4_shift_64 : decode cX4_shift 64 = .ok (.invokevirtual 122, 3) := by decide +kernel
theorem dX4_shift_67 : decode cX4_shift 67 = .ok (.ireturn, 1) := by decide +kernel
theorem dX4_warmth_0 : decode cX4_warmth 0 = .ok (.iconst 0, 1) := by decide +kernel
theorem dX4_warmth_1 : decode cX4_warmth 1 = .ok (.istore_n 3, 1) := by decide +kernel
theorem dX4_warmth_2 : decode cX4_warmth 2 = .ok (.iconst 0, 1) := by decide +kernel
theorem dX4_warmth_3 : decode cX4_warmth 3 = .ok (.istore 4, 2) := by decide +kernel
theorem dX4_warmth_5 : decode cX4_warmth 5 = .ok (.iload 4, 2) := by decide +kernel
theorem dX4_warmth_7 : decode cX4_warmth 7 = .ok (.bipush 6, 2) := by decide +kernel
theorem dX4_warmth_9 : decode cX4_warmth 9 = .ok (.if_icmp .ge 32, 3) := by decide +kernel
theorem dX4_warmth_12 : decode cX4_warmth 12 = .ok (.iload_n 3, 1) := by decide +kernel
theorem dX4_warmth_13 : decode cX4_warmth 13 = .ok (.bipush 6, 2) := by decide +kernel
theorem dX4_warmth_15 : decode cX4_warmth 15 = .ok (.iload 4, 2) := by decide +kernel
theorem dX4_warmth_17 : decode cX4_warmth 17 = .ok (.isub, 1) := by decide +kernel
theorem dX4_warmth_18 : decode cX4_warmth 18 = .ok (.aload_n 0, 1) := by decide +kernel
theorem dX4_warmth_19 : decode cX4_warmth 19 = .ok (.getfield 27, 3) := by decide +kernel
theorem dX4_warmth_22 : decode cX4_warmth 22 = .ok (.iload_n 1, 1) := by decide +kernel
theorem dX4_warmth_23 : decode cX4_warmth 23 = .ok (.aaload, 1) := by decide +kernel
theorem dX4_warmth_24 : decode cX4_warmth 24 = .ok (.bipush 6, 2) := by decide +kernel
theorem dX4_warmth_26 : decode cX4_warmth 26 = .ok (.iload_n 2, 1) := by decide +kernel
theorem dX4_warmth_27 : decode cX4_warmth 27 = .ok (.imul, 1) := by decide +kernel
theorem dX4_warmth_28 : decode cX4_warmth 28 = .ok (.iload 4, 2) := by decide +kernel
theorem dX4_warmth_30 : decode cX4_warmth 30 = .ok (.iadd, 1) := by decide +kernel
theorem dX4_warmth_31 : decode cX4_warmth 31 = .ok (.iaload, 1) := by decide +kernel
theorem dX4_warmth_32 : decode cX4_warmth 32 = .ok (.imul, 1) := by decide +kernel
theorem dX4_warmth_33 : decode cX4_warmth 33 = .ok (.iadd, 1) := by decide +kernel
theorem dX4_warmth_34 : decode cX4_warmth 34 = .ok (.istore_n 3, 1) := by decide +kernel
theorem dX4_warmth_35 : decode cX4_warmth 35 = .ok (.iinc 4 1, 3) := by decide +kernel
theorem dX4_warmth_38 : decode cX4_warmth 38 = .ok (.goto (-33), 3) := by decide +kernel
theorem dX4_warmth_41 : decode cX4_warmth 41 = .ok (.sipush 900, 3) := by decide +kernel
theorem dX4_warmth_44 : decode cX4_warmth 44 = .ok (.iload_n 3, 1) := by decide +kernel
theorem dX4_warmth_45 : decode cX4_warmth 45 = .ok (.invokestatic 83, 3) := by decide +kernel
theorem dX4_warmth_48 : decode cX4_warmth 48 = .ok (.ireturn, 1) := by decide +kernel
set_option maxRecDepth 20000 in
theorem ggX4_squareTold_X4_all : GoodIn wsX4_squareTold wsX4_all := goodIn_r _ [5] (by decide +kernel) (by decide +kernel)
set_option maxRecDepth 20000 in
theorem gX4_squareTold_X4_all : GoodIn wsX4_squareTold (va_wsS RX4 76 yX4_all wsX4_all) := goodIn_app (goodIn_of _ (by decide +kernel)) ggX4_squareTold_X4_all
set_option maxRecDepth 20000 in
theorem ggX4_squareTold_X4_warmth : GoodIn wsX4_squareTold wsX4_warmth := goodIn_r _ [9, 1, 10, 11, 12, 13, 32, 33, 34, 35, 36, 37, 38, 39, 40, 41, 42, 43, 44, 45] (by decide +kernel) (by decide +kernel)
set_option maxRecDepth 20000 in
theorem gX4_squareTold_X4_warmth : GoodIn wsX4_squareTold (wsV RX4 126 RX4 yX4_warmth wsX4_warmth) := goodIn_app (goodIn_of _ (by decide +kernel)) ggX4_squareTold_X4_warmth
set_option maxRecDepth 20000 in
theorem ggX4_squareTold_X4_isOpen : GoodIn wsX4_squareTold wsX4_isOpen := goodIn_r _ [17, 18, 19, 20, 21, 4, 22, 23, 24, 25, 26, 27, 28, 29, 30, 31, 32, 33, 34, 35, 36, 37, 38, 39, 40, 41, 42, 43, 44, 45] (by decide +kernel) (by decide +kernel)
set_option maxRecDepth 20000 in
theorem gX4_squareTold_X4_isOpen : GoodIn wsX4_squareTold (wsV RX4 108 RX4 yX4_isOpen wsX4_isOpen) := goodIn_app (goodIn_of _ (by decide +kernel)) ggX4_squareTold_X4_isOpen
theorem dX4_squareTold_0 : decode cX4_squareTold 0 = .ok (.iload_n 3, 1) := by decide +kernel
theorem dX4_squareTold_1 : decode cX4_squareTold 1 = .ok (.tableswitch 68 6 9 #[31, 42, 49, 49], 31) := by decide +kernel
theorem dX4_squareTold_32 : decode cX4_squareTold 32 = .ok (.aload_n 0, 1) := by decide +kernel
theorem dX4_squareTold_33 : decode cX4_squareTold 33 = .ok (.getfield 27, 3) := by decide +kernel
theorem dX4_squareTold_36 : decode cX4_squareTold 36 = .ok (.iload_n 1, 1) := by decide +kernel
theorem dX4_squareTold_37 : decode cX4_squareTold 37 = .ok (.aaload, 1) := by decide +kernel
theorem dX4_squareTold_38 : decode cX4_squareTold 38 = .ok (.iload_n 2, 1) := by decide +kernel
theorem dX4_squareTold_39 : decode cX4_squareTold 39 = .ok (.invokestatic 76, 3) := by decide +kernel
theorem dX4_squareTold_42 : decode cX4_squareTold 42 = .ok (.ireturn, 1) := by decide +kernel
theorem dX4_squareTold_43 : decode cX4_squareTold 43 = .ok (.aload_n 0, 1) := by decide +kernel
theorem dX4_squareTold_44 : decode cX4_squareTold 44 = .ok (.iload_n 1, 1) := by decide +kernel
theorem dX4_squareTold_45 : decode cX4_squareTold 45 = .ok (.iload_n 2, 1) := by decide +kernel
theorem dX4_squareTold_46 : decode cX4_squareTold 46 = .ok (.invokevirtual 126, 3) := by decide +kernel
theorem dX4_squareTold_49 : decode cX4_squareTold 49 = .ok (.ireturn, 1) := by decide +kernel
theorem dX4_squareTold_50 : decode cX4_squareTold 50 = .ok (.aload_n 0, 1) := by decide +kernel
theorem dX4_squareTold_51 : decode cX4_squareTold 51 = .ok (.iload_n 1, 1) := by decide +kernel
theorem dX4_squareTold_52 : decode cX4_squareTold 52 = .ok (.iload_n 2, 1) := by decide +kernel
theorem dX4_squareTold_53 : decode cX4_squareTold 53 = .ok (.iload_n 3, 1) := by decide +kernel
theorem dX4_squareTold_54 : decode cX4_squareTold 54 = .ok (.bipush 8, 2) := by decide +kernel
theorem dX4_squareTold_56 : decode cX4_squareTold 56 = .ok (.isub, 1) := by decide +kernel
theorem dX4_squareTold_57 : decode cX4_squareTold 57 = .ok (.invokevirtual 108, 3) := by decide +kernel
theorem dX4_squareTold_60 : decode cX4_squareTold 60 = .ok (.ifCond .eq 7, 3) := by decide +kernel
theorem dX4_squareTold_63 : decode cX4_squareTold 63 = .ok (.iconst 1, 1) := by decide +kernel
theorem dX4_squareTold_64 : decode cX4_squareTold 64 = .ok (.goto 4, 3) := by decide +kernel
theorem dX4_squareTold_67 : decode cX4_squareTold 67 = .ok (.iconst 0, 1) := by decide +kernel
theorem dX4_squareTold_68 : decode cX4_squareTold 68 = .ok (.ireturn, 1) := by decide +kernel
theorem dX4_squareTold_69 : decode cX4_squareTold 69 = .ok (.aload_n 0, 1) := by decide +kernel
theorem dX4_squareTold_70 : decode cX4_squareTold 70 = .ok (.getfield 27, 3) := by decide +kernel
theorem dX4_squareTold_73 : decode cX4_squareTold 73 = .ok (.iload_n 1, 1) := by decide +kernel
theorem dX4_squareTold_74 : decode cX4_squareTold 74 = .ok (.aaload, 1) := by decide +kernel
theorem dX4_squareTold_75 : decode cX4_squareTold 75 = .ok (.bipush 6, 2) := by decide +kernel
theorem dX4_squareTold_77 : decode cX4_squareTold 77 = .ok (.iload_n 2, 1) := by decide +kernel
theorem dX4_squareTold_78 : decode cX4_squareTold 78 = .ok (.imul, 1) := by decide +kernel
theorem dX4_squareTold_79 : decode cX4_squareTold 79 = .ok (.iload_n 3, 1) := by decide +kernel
theorem dX4_squareTold_80 : decode cX4_squareTold 80 = .ok (.iadd, 1) := by decide +kernel
theorem dX4_squareTold_81 : decode cX4_squareTold 81 = .ok (.iaload, 1) := by decide +kernel
theorem dX4_squareTold_82 : decode cX4_squareTold 82 = .ok (.ireturn, 1) := by decide +kernel
set_option maxRecDepth 20000 in
theorem ggX4_square_X4_isSquare : GoodIn wsX4_square wsX4_isSquare := goodIn_r _ [6, 7, 8, 9, 5, 10, 11, 12, 13, 14, 15, 16, 17, 18, 19, 20, 21, 22, 23, 53, 54, 55, 56, 57, 58, 59, 60, 61, 62, 63, 64, 65, 66] (by decide +kernel) (by decide +kernel)
set_option maxRecDepth 20000 in
theorem gX4_square_X4_isSquare : GoodIn wsX4_square (wsV RX4 111 RX4 yX4_isSquare wsX4_isSquare) := goodIn_app (goodIn_of _ (by decide +kernel)) ggX4_square_X4_isSquare
set_option maxRecDepth 20000 in
theorem ggX4_square_X4_isIn : GoodIn wsX4_square wsX4_isIn := goodIn_r _ [14] (by decide +kernel) (by decide +kernel)
set_option maxRecDepth 20000 in
theorem gX4_square_X4_isIn : GoodIn wsX4_square (va_wsS RX4 46 yX4_isIn wsX4_isIn) := goodIn_app (goodIn_of _ (by decide +kernel)) ggX4_square_X4_isIn
set_option maxRecDepth 20000 in
theorem ggX4_square_X4_squareTold : GoodIn wsX4_square wsX4_squareTold := goodIn_r _ [27, 28, 29, 30, 5, 31, 32, 33, 34, 35, 36, 37, 38, 39, 40, 41, 42, 43, 44, 45, 46, 47, 48, 19, 20, 21, 22, 23, 15, 16, 17, 18, 53, 54, 55, 56, 57, 58, 59, 60, 61, 62, 63, 64, 65, 66] (by decide +kernel) (by decide +kernel)
set_option maxRecDepth 20000 in
theorem gX4_square_X4_squareTold : GoodIn wsX4_square (wsV RX4 129 RX4 yX4_squareTold wsX4_squareTold) := goodIn_app (goodIn_of _ (by decide +kernel)) ggX4_square_X4_squareTold
set_option maxRecDepth 20000 in
theorem ggX4_square_X4_fail : GoodIn wsX4_square wsX4_fail := goodIn_r _ [52, 1, 53, 54, 55, 56, 57, 58, 59, 60, 61, 62, 63, 64, 65, 66] (by decide +kernel) (by decide +kernel)
set_option maxRecDepth 20000 in
theorem gX4_square_X4_fail : GoodIn wsX4_square (wsV RX4 65 RX4 yX4_fail wsX4_fail) := goodIn_app (goodIn_of _ (by decide +kernel)) ggX4_square_X4_fail
theorem dX4_square_0 : decode cX4_square 0 = .ok (.aload_n 0, 1) := by decide +kernel
theorem dX4_square_1 : decode cX4_square 1 = .ok (.iconst 0, 1) := by decide +kernel
theorem dX4_square_2 : decode cX4_square 2 = .ok (.putfield 40, 3) := by decide +kernel
theorem dX4_square_5 : decode cX4_square 5 = .ok (.aload_n 0, 1) := by decide +kernel
theorem dX4_square_6 : decode cX4_square 6 = .ok (.iload_n 1, 1) := by decide +kernel
theorem dX4_square_7 : decode cX4_square 7 = .ok (.iload_n 2, 1) := by decide +kernel
theorem dX4_square_8 : decode cX4_square 8 = .ok (.invokevirtual 111, 3) := by decide +kernel
theorem dX4_square_11 : decode cX4_square 11 = .ok (.ifCond .eq 23, 3) := by decide +kernel
theorem dX4_square_14 : decode cX4_square 14 = .ok (.iload_n 3, 1) := by decide +kernel
theorem dX4_square_15 : decode cX4_square 15 = .ok (.iconst 0, 1) := by decide +kernel
theorem dX4_square_16 : decode cX4_square 16 = .ok (.bipush 9, 2) := by decide +kernel
theorem dX4_square_18 : decode cX4_square 18 = .ok (.invokestatic 46, 3) := by decide +kernel
theorem dX4_square_21 : decode cX4_square 21 = .ok (.ifCond .eq 13, 3) := by decide +kernel
theorem dX4_square_24 : decode cX4_square 24 = .ok (.aload_n 0, 1) := by decide +kernel
theorem dX4_square_25 : decode cX4_square 25 = .ok (.iload_n 1, 1) := by decide +kernel
theorem dX4_square_26 : decode cX4_square 26 = .ok (.iload_n 2, 1) := by decide +kernel
theorem dX4_square_27 : decode cX4_square 27 = .ok (.iload_n 3, 1) := by decide +kernel
theorem dX4_square_28 : decode cX4_square 28 = .ok (.invokevirtual 129, 3) := by decide +kernel
theorem dX4_square_31 : decode cX4_square 31 = .ok (.goto 8, 3) := by decide +kernel
theorem dX4_square_34 : decode cX4_square 34 = .ok (.aload_n 0, 1) := by decide +kernel
theorem dX4_square_35 : decode cX4_square 35 = .ok (.iconst 1, 1) := by decide +kernel
theorem dX4_square_36 : decode cX4_square 36 = .ok (.invokevirtual 65, 3) := by decide +kernel
theorem dX4_square_39 : decode cX4_square 39 = .ok (.ireturn, 1) := by decide +kernel
theorem dX4_feathers_0 : decode cX4_feathers 0 = .ok (.iconst 0, 1) := by decide +kernel
theorem dX4_feathers_1 : decode cX4_feathers 1 = .ok (.istore_n 2, 1) := by decide +kernel
theorem dX4_feathers_2 : decode cX4_feathers 2 = .ok (.aload_n 0, 1) := by decide +kernel
theorem dX4_feathers_3 : decode cX4_feathers 3 = .ok (.getfield 27, 3) := by decide +kernel
theorem dX4_feathers_6 : decode cX4_feathers 6 = .ok (.iload_n 1, 1) := by decide +kernel
theorem dX4_feathers_7 : decode cX4_feathers 7 = .ok (.aaload, 1) := by decide +kernel
theorem dX4_feathers_8 : decode cX4_feathers 8 = .ok (.astore_n 3, 1) := by decide +kernel
theorem dX4_feathers_9 : decode cX4_feathers 9 = .ok (.aload_n 3, 1) := by decide +kernel
theorem dX4_feathers_10 : decode cX4_feathers 10 = .ok (.arraylength, 1) := by decide +kernel
theorem dX4_feathers_11 : decode cX4_feathers 11 = .ok (.istore 4, 2) := by decide +kernel
theorem dX4_feathers_13 : decode cX4_feathers 13 = .ok (.iconst 0, 1) := by decide +kernel
theorem dX4_feathers_14 : decode cX4_feathers 14 = .ok (.istore 5, 2) := by decide +kernel
theorem dX4_feathers_16 : decode cX4_feathers 16 = .ok (.iload 5, 2) := by decide +kernel
theorem dX4_feathers_18 : decode cX4_feathers 18 = .ok (.iload 4, 2) := by decide +kernel
theorem dX4_feathers_20 : decode cX4_feathers 20 = .ok (.if_icmp .ge 20, 3) := by decide +kernel
theorem dX4_feathers_23 : decode cX4_feathers 23 = .ok (.aload_n 3, 1) := by decide +kernel
theorem dX4_feathers_24 : decode cX4_feathers 24 = .ok (.iload 5, 2) := by decide +kernel
theorem dX4_feathers_26 : decode cX4_feathers 26 = .ok (.iaload, 1) := by decide +kernel
theorem dX4_feathers_27 : decode cX4_feathers 27 = .ok (.istore 6, 2) := by decide +kernel
theorem dX4_feathers_29 : decode cX4_feathers 29 = .ok (.iload_n 2, 1) := by decide +kernel
theorem dX4_feathers_30 : decode cX4_feathers 30 = .ok (.iload 6, 2) := by decide +kernel
theorem dX4_feathers_32 : decode cX4_feathers 32 = .ok (.iadd, 1) := by decide +kernel
theorem dX4_feathers_33 : decode cX4_feathers 33 = .ok (.istore_n 2, 1) := by decide +kernel
theorem dX4_feathers_34 : decode cX4_feathers 34 = .ok (.iinc 5 1, 3) := by decide +kernel
theorem dX4_feathers_37 : decode cX4_feathers 37 = .ok (.goto (-21), 3) := by decide +kernel
theorem dX4_feathers_40 : decode cX4_feathers 40 = .ok (.iload_n 2, 1) := by decide +kernel
theorem dX4_feathers_41 : decode cX4_feathers 41 = .ok (.ireturn, 1) := by decide +kernel
set_option maxRecDepth 20000 in
theorem ggX4_coldest_X4_squaresOf : GoodIn wsX4_coldest wsX4_squaresOf := goodIn_r _ [5, 6, 7, 8, 4, 9, 10, 20, 21, 22, 23, 24, 25, 26, 27, 28, 29, 30, 31, 32, 33] (by decide +kernel) (by decide +kernel)
set_option maxRecDepth 20000 in
theorem gX4_coldest_X4_squaresOf : GoodIn wsX4_coldest (wsV RX4 61 RX4 yX4_squaresOf wsX4_squaresOf) := goodIn_app (goodIn_of _ (by decide +kernel)) ggX4_coldest_X4_squaresOf
set_option maxRecDepth 20000 in
theorem ggX4_coldest_X4_warmth : GoodIn wsX4_coldest wsX4_warmth := goodIn_r _ [14, 15, 16, 17, 18, 19, 20, 21, 22, 23, 24, 25, 26, 27, 28, 29, 30, 31, 32, 33] (by decide +kernel) (by decide +kernel)
set_option maxRecDepth 20000 in
theorem gX4_coldest_X4_warmth : GoodIn wsX4_coldest (wsV RX4 126 RX4 yX4_warmth wsX4_warmth) := goodIn_app (goodIn_of _ (by decide +kernel)) ggX4_coldest_X4_warmth
theorem dX4_coldest_0 : decode cX4_coldest 0 = .ok (.iconst 0, 1) := by decide +kernel
theorem dX4_coldest_1 : decode cX4_coldest 1 = .ok (.istore_n 2, 1) := by decide +kernel
theorem dX4_coldest_2 : decode cX4_coldest 2 = .ok (.iconst 1, 1) := by decide +kernel
theorem dX4_coldest_3 : decode cX4_coldest 3 = .ok (.istore_n 3, 1) := by decide +kernel
theorem dX4_coldest_4 : decode cX4_coldest 4 = .ok (.iload_n 3, 1) := by decide +kernel
theorem dX4_coldest_5 : decode cX4_coldest 5 = .ok (.aload_n 0, 1) := by decide +kernel
theorem dX4_coldest_6 : decode cX4_coldest 6 = .ok (.iload_n 1, 1) := by decide +kernel
theorem dX4_coldest_7 : decode cX4_coldest 7 = .ok (.invokevirtual 61, 3) := by decide +kernel
theorem dX4_coldest_10 : decode cX4_coldest 10 = .ok (.if_icmp .ge 26, 3) := by decide +kernel
theorem dX4_coldest_13 : decode cX4_coldest 13 = .ok (.aload_n 0, 1) := by decide +kernel
theorem dX4_coldest_14 : decode cX4_coldest 14 = .ok (.iload_n 1, 1) := by decide +kernel
theorem dX4_coldest_15 : decode cX4_coldest 15 = .ok (.iload_n 3, 1) := by decide +kernel
theorem dX4_coldest_16 : decode cX4_coldest 16 = .ok (.invokevirtual 126, 3) := by decide +kernel
theorem dX4_coldest_19 : decode cX4_coldest 19 = .ok (.aload_n 0, 1) := by decide +kernel
theorem dX4_coldest_20 : decode cX4_coldest 20 = .ok (.iload_n 1, 1) := by decide +kernel
theorem dX4_coldest_21 : decode cX4_coldest 21 = .ok (.iload_n 2, 1) := by decide +kernel
theorem dX4_coldest_22 : decode cX4_coldest 22 = .ok (.invokevirtual 126, 3) := by decide +kernel
theorem dX4_coldest_25 : decode cX4_coldest 25 = .ok (.if_icmp .ge 5, 3) := by decide +kernel
theorem dX4_coldest_28 : decode cX4_coldest 28 = .ok (.iload_n 3, 1) := by decide +kernel
theorem dX4_coldest_29 : decode cX4_coldest 29 = .ok (.istore_n 2, 1) := by decide +kernel
theorem dX4_coldest_30 : decode cX4_coldest 30 = .ok (.iinc 3 1, 3) := by decide +kernel
theorem dX4_coldest_33 : decode cX4_coldest 33 = .ok (.goto (-29), 3) := by decide +kernel
theorem dX4_coldest_36 : decode cX4_coldest 36 = .ok (.iload_n 2, 1) := by decide +kernel
theorem dX4_coldest_37 : decode cX4_coldest 37 = .ok (.ireturn, 1) := by decide +kernel
set_option maxRecDepth 20000 in
theorem ggX4_parts_X4_squaresOf : GoodIn wsX4_parts wsX4_squaresOf := goodIn_r _ [10, 11, 12, 13, 9, 14, 15, 25, 26, 27, 28, 29, 30, 31, 32, 33, 34, 35, 36, 37, 38] (by decide +kernel) (by decide +kernel)
set_option maxRecDepth 20000 in
theorem gX4_parts_X4_squaresOf : GoodIn wsX4_parts (wsV RX4 61 RX4 yX4_squaresOf wsX4_squaresOf) := goodIn_app (goodIn_of _ (by decide +kernel)) ggX4_parts_X4_squaresOf
set_option maxRecDepth 20000 in
theorem ggX4_parts_X4_isOpen : GoodIn wsX4_parts wsX4_isOpen := goodIn_r _ [19, 20, 21, 22, 23, 9, 24, 11, 12, 13, 14, 15, 6, 7, 8, 10, 25, 26, 27, 28, 29, 30, 31, 32, 33, 34, 35, 36, 37, 38] (by decide +kernel) (by decide +kernel)
set_option maxRecDepth 20000 in
theorem gX4_parts_X4_isOpen : GoodIn wsX4_parts (wsV RX4 108 RX4 yX4_isOpen wsX4_isOpen) := goodIn_app (goodIn_of _ (by decide +kernel)) ggX4_parts_X4_isOpen
set_option maxRecDepth 20000 in
theorem ggX4_parts_X4_other : GoodIn wsX4_parts wsX4_other := goodIn_r _ [24, 11, 12, 13, 9, 14, 15, 6, 7, 8, 10, 25, 26, 27, 28, 29, 30, 31, 32, 33, 34, 35, 36, 37, 38] (by decide +kernel) (by decide +kernel)
set_option maxRecDepth 20000 in
theorem gX4_parts_X4_other : GoodIn wsX4_parts (wsV RX4 105 RX4 yX4_other wsX4_other) := goodIn_app (goodIn_of _ (by decide +kernel)) ggX4_parts_X4_other
theorem dX4_parts_0 : decode cX4_parts 0 = .ok (.aload_n 0, 1) := by decide +kernel
theorem dX4_parts_1 : decode cX4_parts 1 = .ok (.iload_n 1, 1) := by decide +kernel
theorem dX4_parts_2 : decode cX4_parts 2 = .ok (.invokevirtual 61, 3) := by decide +kernel
theorem dX4_parts_5 : decode cX4_parts 5 = .ok (.istore_n 2, 1) := by decide +kernel
theorem dX4_parts_6 : decode cX4_parts 6 = .ok (.iconst 0, 1) := by decide +kernel
theorem dX4_parts_7 : decode cX4_parts 7 = .ok (.istore_n 3, 1) := by decide +kernel
theorem dX4_parts_8 : decode cX4_parts 8 = .ok (.iload_n 3, 1) := by decide +kernel
theorem dX4_parts_9 : decode cX4_parts 9 = .ok (.iload_n 2, 1) := by decide +kernel
theorem dX4_parts_10 : decode cX4_parts 10 = .ok (.if_icmp .ge 16, 3) := by decide +kernel
theorem dX4_parts_13 : decode cX4_parts 13 = .ok (.aload_n 0, 1) := by decide +kernel
theorem dX4_parts_14 : decode cX4_parts 14 = .ok (.getfield 37, 3) := by decide +kernel
theorem dX4_parts_17 : decode cX4_parts 17 = .ok (.iload_n 3, 1) := by decide +kernel
theorem dX4_parts_18 : decode cX4_parts 18 = .ok (.iload_n 3, 1) := by decide +kernel
theorem dX4_parts_19 : decode cX4_parts 19 = .ok (.iastore, 1) := by decide +kernel
theorem dX4_parts_20 : decode cX4_parts 20 = .ok (.iinc 3 1, 3) := by decide +kernel
theorem dX4_parts_23 : decode cX4_parts 23 = .ok (.goto (-15), 3) := by decide +kernel
theorem dX4_parts_26 : decode cX4_parts 26 = .ok (.iconst 1, 1) := by decide +kernel
theorem dX4_parts_27 : decode cX4_parts 27 = .ok (.istore_n 3, 1) := by decide +kernel
theorem dX4_parts_28 : decode cX4_parts 28 = .ok (.iload_n 3, 1) := by decide +kernel
theorem dX4_parts_29 : decode cX4_parts 29 = .ok (.ifCond .eq 129, 3) := by decide +kernel
theorem dX4_parts_32 : decode cX4_parts 32 = .ok (.iconst 0, 1) := by decide +kernel
theorem dX4_parts_33 : decode cX4_parts 33 = .ok (.istore_n 3, 1) := by decide +kernel
theorem dX4_parts_34 : decode cX4_parts 34 = .ok (.iconst 0, 1) := by decide +kernel
theorem dX4_parts_35 : decode cX4_parts 35 = .ok (.istore 4, 2) := by decide +kernel
theorem dX4_parts_37 : decode cX4_parts 37 = .ok (.iload 4, 2) := by decide +kernel
theorem dX4_parts_39 : decode cX4_parts 39 = .ok (.iconst 2, 1) := by decide +kernel
theorem dX4_parts_40 : decode cX4_parts 40 = .ok (.iload_n 2, 1) := by decide +kernel
theorem dX4_parts_41 : decode cX4_parts 41 = .ok (.imul, 1) := by decide +kernel
theorem dX4_parts_42 : decode cX4_parts 42 = .ok (.if_icmp .ge 113, 3) := by decide +kernel
theorem dX4_parts_45 : decode cX4_parts 45 = .ok (.aload_n 0, 1) := by decide +kernel
theorem dX4_parts_46 : decode cX4_parts 46 = .ok (.iload_n 1, 1) := by decide +kernel
theorem dX4_parts_47 : decode cX4_parts 47 = .ok (.iload 4, 2) := by decide +kernel
theorem dX4_parts_49 : decode cX4_parts 49 = .ok (.iconst 2, 1) := by decide +kernel
theorem dX4_parts_50 : decode cX4_parts 50 = .ok (.idiv, 1) := by decide +kernel
theorem dX4_parts_51 : decode cX4_parts 51 = .ok (.iload 4, 2) := by decide +kernel
theorem dX4_parts_53 : decode cX4_parts 53 = .ok (.iconst 2, 1) := by decide +kernel
theorem dX4_parts_54 : decode cX4_parts 54 = .ok (.irem, 1) := by decide +kernel
theorem dX4_parts_55 : decode cX4_parts 55 = .ok (.invokevirtual 108, 3) := by decide +kernel
theorem dX4_parts_58 : decode cX4_parts 58 = .ok (.ifCond .ne 6, 3) := by decide +kernel
theorem dX4_parts_61 : decode cX4_parts 61 = .ok (.goto 88, 3) := by decide +kernel
theorem dX4_parts_64 : decode cX4_parts 64 = .ok (.aload_n 0, 1) := by decide +kernel
theorem dX4_parts_65 : decode cX4_parts 65 = .ok (.iload_n 1, 1) := by decide +kernel
theorem dX4_parts_66 : decode cX4_parts 66 = .ok (.iload 4, 2) := by decide +kernel
theorem dX4_parts_68 : decode cX4_parts 68 = .ok (.iconst 2, 1) := by decide +kernel
theorem dX4_parts_69 : decode cX4_parts 69 = .ok (.idiv, 1) := by decide +kernel
theorem dX4_parts_70 : decode cX4_parts 70 = .ok (.iload 4, 2) := by decide +kernel
theorem dX4_parts_72 : decode cX4_parts 72 = .ok (.iconst 2, 1) := by decide +kernel
theorem dX4_parts_73 : decode cX4_parts 73 = .ok (.irem, 1) := by decide +kernel
theorem dX4_parts_74 : decode cX4_parts 74 = .ok (.invokevirtual 105, 3) := by decide +kernel
theorem dX4_parts_77 : decode cX4_parts 77 = .ok (.istore 5, 2) := by decide +kernel
theorem dX4_parts_79 : decode cX4_parts 79 = .ok (.aload_n 0, 1) := by decide +kernel
theorem dX4_parts_80 : decode cX4_parts 80 = .ok (.getfield 37, 3) := by decide +kernel
theorem dX4_parts_83 : decode cX4_parts 83 = .ok (.iload 4, 2) := by decide +kernel
theorem dX4_parts_85 : decode cX4_parts 85 = .ok (.iconst 2, 1) := by decide +kernel
theorem dX4_parts_86 : decode cX4_parts 86 = .ok (.idiv, 1) := by decide +kernel
theorem dX4_parts_87 : decode cX4_parts 87 = .ok (.iaload, 1) := by decide +kernel
theorem dX4_parts_88 : decode cX4_parts 88 = .ok (.aload_n 0, 1) := by decide +kernel
theorem dX4_parts_89 : decode cX4_parts 89 = .ok (.getfield 37, 3) := by decide +kernel
theorem dX4_parts_92 : decode cX4_parts 92 = .ok (.iload 5, 2) := by decide +kernel
theorem dX4_parts_94 : decode cX4_parts 94 = .ok (.iaload, 1) := by decide +kernel
theorem dX4_parts_95 : decode cX4_parts 95 = .ok (.invokestatic 83, 3) := by decide +kernel
theorem dX4_parts_98 : decode cX4_parts 98 = .ok (.istore 6, 2) := by decide +kernel
theorem dX4_parts_100 : decode cX4_parts 100 = .ok (.iload_n 3, 1) := by decide +kernel
theorem dX4_parts_101 : decode cX4_parts 101 = .ok (.ifCond .ne 22, 3) := by decide +kernel
theorem dX4_parts_104 : decode cX4_parts 104 = .ok (.aload_n 0, 1) := by decide +kernel
theorem dX4_parts_105 : decode cX4_parts 105 = .ok (.getfield 37, 3) := by decide +kernel
theorem dX4_parts_108 : decode cX4_parts 108 = .ok (.iload 4, 2) := by decide +kernel
theorem dX4_parts_110 : decode cX4_parts 110 = .ok (.iconst 2, 1) := by decide +kernel
theorem dX4_parts_111 : decode cX4_parts 111 = .ok (.idiv, 1) := by decide +kernel
theorem dX4_parts_112 : decode cX4_parts 112 = .ok (.iaload, 1) := by decide +kernel
theorem dX4_parts_113 : decode cX4_parts 113 = .ok (.aload_n 0, 1) := by decide +kernel
theorem dX4_parts_114 : decode cX4_parts 114 = .ok (.getfield 37, 3) := by decide +kernel
theorem dX4_parts_117 : decode cX4_parts 117 = .ok (.iload 5, 2) := by decide +kernel
theorem dX4_parts_119 : decode cX4_parts 119 = .ok (.iaload, 1) := by decide +kernel
theorem dX4_parts_120 : decode cX4_parts 120 = .ok (.if_icmp .eq 7, 3) := by decide +kernel
theorem dX4_parts_123 : decode cX4_parts 123 = .ok (.iconst 1, 1) := by decide +kernel
theorem dX4_parts_124 : decode cX4_parts 124 = .ok (.goto 4, 3) := by decide +kernel
theorem dX4_parts_127 : decode cX4_parts 127 = .ok (.iconst 0, 1) := by decide +kernel
theorem dX4_parts_128 : decode cX4_parts 128 = .ok (.istore_n 3, 1) := by decide +kernel
theorem dX4_parts_129 : decode cX4_parts 129 = .ok (.aload_n 0, 1) := by decide +kernel
theorem dX4_parts_130 : decode cX4_parts 130 = .ok (.getfield 37, 3) := by decide +kernel
theorem dX4_parts_133 : decode cX4_parts 133 = .ok (.iload 4, 2) := by decide +kernel
theorem dX4_parts_135 : decode cX4_parts 135 = .ok (.iconst 2, 1) := by decide +kernel
theorem dX4_parts_136 : decode cX4_parts 136 = .ok (.idiv, 1) := by decide +kernel
theorem dX4_parts_137 : decode cX4_parts 137 = .ok (.iload 6, 2) := by decide +kernel
theorem dX4_parts_139 : decode cX4_parts 139 = .ok (.iastore, 1) := by decide +kernel
theorem dX4_parts_140 : decode cX4_parts 140 = .ok (.aload_n 0, 1) := by decide +kernel
theorem dX4_parts_141 : decode cX4_parts 141 = .ok (.getfield 37, 3) := by decide +kernel
theorem dX4_parts_144 : decode cX4_parts 144 = .ok (.iload 5, 2) := by decide +kernel
theorem dX4_parts_146 : decode cX4_parts 146 = .ok (.iload 6, 2) := by decide +kernel
theorem dX4_parts_148 : decode cX4_parts 148 = .ok (.iastore, 1) := by decide +kernel
theorem dX4_parts_149 : decode cX4_parts 149 = .ok (.iinc 4 1, 3) := by decide +kernel
theorem dX4_parts_152 : decode cX4_parts 152 = .ok (.goto (-115), 3) := by decide +kernel
theorem dX4_parts_155 : decode cX4_parts 155 = .ok (.goto (-127), 3) := by decide +kernel
theorem dX4_parts_158 : decode cX4_parts 158 = .ok (.iconst 0, 1) := by decide +kernel
theorem dX4_parts_159 : decode cX4_parts 159 = .ok (.istore 4, 2) := by decide +kernel
theorem dX4_parts_161 : decode cX4_parts 161 = .ok (.iconst 0, 1) := by decide +kernel
theorem dX4_parts_162 : decode cX4_parts 162 = .ok (.istore 5, 2) := by decide +kernel
theorem dX4_parts_164 : decode cX4_parts 164 = .ok (.iload 5, 2) := by decide +kernel
theorem dX4_parts_166 : decode cX4_parts 166 = .ok (.iload_n 2, 1) := by decide +kernel
theorem dX4_parts_167 : decode cX4_parts 167 = .ok (.if_icmp .ge 31, 3) := by decide +kernel
theorem dX4_parts_170 : decode cX4_parts 170 = .ok (.iload 4, 2) := by decide +kernel
theorem dX4_parts_172 : decode cX4_parts 172 = .ok (.aload_n 0, 1) := by decide +kernel
theorem dX4_parts_173 : decode cX4_parts 173 = .ok (.getfield 37, 3) := by decide +kernel
theorem dX4_parts_176 : decode cX4_parts 176 = .ok (.iload 5, 2) := by decide +kernel
theorem dX4_parts_178 : decode cX4_parts 178 = .ok (.iaload, 1) := by decide +kernel
theorem dX4_parts_179 : decode cX4_parts 179 = .ok (.iload 5, 2) := by decide +kernel
theorem dX4_parts_181 : decode cX4_parts 181 = .ok (.if_icmp .ne 7, 3) := by decide +kernel
theorem dX4_parts_184 : decode cX4_parts 184 = .ok (.iconst 1, 1) := by decide +kernel
theorem dX4_parts_185 : decode cX4_parts 185 = .ok (.goto 4, 3) := by decide +kernel
theorem dX4_parts_188 : decode cX4_parts 188 = .ok (.iconst 0, 1) := by decide +kernel
theorem dX4_parts_189 : decode cX4_parts 189 = .ok (.iadd, 1) := by decide +kernel
theorem dX4_parts_190 : decode cX4_parts 190 = .ok (.istore 4, 2) := by decide +kernel
theorem dX4_parts_192 : decode cX4_parts 192 = .ok (.iinc 5 1, 3) := by decide +kernel
theorem dX4_parts_195 : decode cX4_parts 195 = .ok (.goto (-31), 3) := by decide +kernel
theorem dX4_parts_198 : decode cX4_parts 198 = .ok (.iload 4, 2) := by decide +kernel
theorem dX4_parts_200 : decode cX4_parts 200 = .ok (.ireturn, 1) := by decide +kernel
set_option maxRecDepth 20000 in
theorem ggX4_tickTold_X4_feathers : GoodIn wsX4_tickTold wsX4_feathers := goodIn_r _ [5, 6, 46, 47, 48, 49, 50, 51, 52, 53, 54, 55, 56, 57, 58, 59] (by decide +kernel) (by decide +kernel)
set_option maxRecDepth 20000 in
theorem gX4_tickTold_X4_feathers : GoodIn wsX4_tickTold (wsV RX4 132 RX4 yX4_feathers wsX4_feathers) := goodIn_app (goodIn_of _ (by decide +kernel)) ggX4_tickTold_X4_feathers
set_option maxRecDepth 20000 in
theorem ggX4_tickTold_X4_squaresOf : GoodIn wsX4_tickTold wsX4_squaresOf := goodIn_r _ [10, 11, 12, 13, 4, 14, 15, 46, 47, 48, 49, 50, 51, 52, 53, 54, 55, 56, 57, 58, 59] (by decide +kernel) (by decide +kernel)
set_option maxRecDepth 20000 in
theorem gX4_tickTold_X4_squaresOf : GoodIn wsX4_tickTold (wsV RX4 61 RX4 yX4_squaresOf wsX4_squaresOf) := goodIn_app (goodIn_of _ (by decide +kernel)) ggX4_tickTold_X4_squaresOf
set_option maxRecDepth 20000 in
theorem ggX4_tickTold_X4_warmth : GoodIn wsX4_tickTold wsX4_warmth := goodIn_r _ [19, 6, 20, 21, 22, 23, 46, 47, 48, 49, 50, 51, 52, 53, 54, 55, 56, 57, 58, 59] (by decide +kernel) (by decide +kernel)
set_option maxRecDepth 20000 in
theorem gX4_tickTold_X4_warmth : GoodIn wsX4_tickTold (wsV RX4 126 RX4 yX4_warmth wsX4_warmth) := goodIn_app (goodIn_of _ (by decide +kernel)) ggX4_tickTold_X4_warmth
set_option maxRecDepth 20000 in
theorem ggX4_tickTold_X4_coldest : GoodIn wsX4_tickTold wsX4_coldest := goodIn_r _ [27, 7, 8, 9, 4, 10, 11, 12, 13, 14, 15, 16, 17, 18, 19, 6, 20, 21, 22, 23, 46, 47, 48, 49, 50, 51, 52, 53, 54, 55, 56, 57, 58, 59] (by decide +kernel) (by decide +kernel)
set_option maxRecDepth 20000 in
theorem gX4_tickTold_X4_coldest : GoodIn wsX4_tickTold (wsV RX4 135 RX4 yX4_coldest wsX4_coldest) := goodIn_app (goodIn_of _ (by decide +kernel)) ggX4_tickTold_X4_coldest
set_option maxRecDepth 20000 in
theorem ggX4_tickTold_X4_open : GoodIn wsX4_tickTold wsX4_open := goodIn_r _ [31, 7, 8, 9, 4, 10, 11, 12, 13, 14, 15, 32, 33, 34, 35, 36, 37, 38, 39, 40, 46, 47, 48, 49, 50, 51, 52, 53, 54, 55, 56, 57, 58, 59] (by decide +kernel) (by decide +kernel)
set_option maxRecDepth 20000 in
theorem gX4_tickTold_X4_open : GoodIn wsX4_tickTold (wsV RX4 115 RX4 yX4_open wsX4_open) := goodIn_app (goodIn_of _ (by decide +kernel)) ggX4_tickTold_X4_open
set_option maxRecDepth 20000 in
theorem ggX4_tickTold_X4_parts : GoodIn wsX4_tickTold wsX4_parts := goodIn_r _ [44, 45, 20, 21, 22, 23, 7, 8, 9, 4, 10, 11, 12, 13, 14, 15, 32, 33, 34, 35, 36, 37, 38, 39, 40, 46, 47, 48, 49, 50, 51, 52, 53, 54, 55, 56, 57, 58, 59] (by decide +kernel) (by decide +kernel)
set_option maxRecDepth 20000 in
theorem gX4_tickTold_X4_parts : GoodIn wsX4_tickTold (wsV RX4 138 RX4 yX4_parts wsX4_parts) := goodIn_app (goodIn_of _ (by decide +kernel)) ggX4_tickTold_X4_parts
set_option maxRecDepth 20000 in
theorem ggX4_tickTold_X4_ti : GoodIn wsX4_tickTold wsX4_ti := goodIn_r _ [14, 15, 46, 47, 48, 49, 50, 51, 52, 53, 54, 55, 56, 57, 58, 59] (by decide +kernel) (by decide +kernel)
set_option maxRecDepth 20000 in
theorem gX4_tickTold_X4_ti : GoodIn wsX4_tickTold (wsV RX4 53 RX4 yX4_ti wsX4_ti) := goodIn_app (goodIn_of _ (by decide +kernel)) ggX4_tickTold_X4_ti
theorem dX4_tickTold_0 : decode cX4_tickTold 0 = .ok (.iconst 0, 1) := by decide +kernel
theorem dX4_tickTold_1 : decode cX4_tickTold 1 = .ok (.istore_n 3, 1) := by decide +kernel
theorem dX4_tickTold_2 : decode cX4_tickTold 2 = .ok (.iload_n 2, 1) := by decide +kernel
theorem dX4_tickTold_3 : decode cX4_tickTold 3 = .ok (.tableswitch 103 3 8 #[37, 43, 74, 85, 91, 97], 37) := by decide +kernel
theorem dX4_tickTold_40 : decode cX4_tickTold 40 = .ok (.aload_n 0, 1) := by decide +kernel
theorem dX4_tickTold_41 : decode cX4_tickTold 41 = .ok (.iload_n 1, 1) := by decide +kernel
theorem dX4_tickTold_42 : decode cX4_tickTold 42 = .ok (.invokevirtual 132, 3) := by decide +kernel
theorem dX4_tickTold_45 : decode cX4_tickTold 45 = .ok (.ireturn, 1) := by decide +kernel
theorem dX4_tickTold_46 : decode cX4_tickTold 46 = .ok (.iconst 0, 1) := by decide +kernel
theorem dX4_tickTold_47 : decode cX4_tickTold 47 = .ok (.istore 4, 2) := by decide +kernel
theorem dX4_tickTold_49 : decode cX4_tickTold 49 = .ok (.iload 4, 2) := by decide +kernel
theorem dX4_tickTold_51 : decode cX4_tickTold 51 = .ok (.aload_n 0, 1) := by decide +kernel
theorem dX4_tickTold_52 : decode cX4_tickTold 52 = .ok (.iload_n 1, 1) := by decide +kernel
theorem dX4_tickTold_53 : decode cX4_tickTold 53 = .ok (.invokevirtual 61, 3) := by decide +kernel
theorem dX4_tickTold_56 : decode cX4_tickTold 56 = .ok (.if_icmp .ge 19, 3) := by decide +kernel
theorem dX4_tickTold_59 : decode cX4_tickTold 59 = .ok (.iload_n 3, 1) := by decide +kernel
theorem dX4_tickTold_60 : decode cX4_tickTold 60 = .ok (.aload_n 0, 1) := by decide +kernel
theorem dX4_tickTold_61 : decode cX4_tickTold 61 = .ok (.iload_n 1, 1) := by decide +kernel
theorem dX4_tickTold_62 : decode cX4_tickTold 62 = .ok (.iload 4, 2) := by decide +kernel
theorem dX4_tickTold_64 : decode cX4_tickTold 64 = .ok (.invokevirtual 126, 3) := by decide +kernel
theorem dX4_tickTold_67 : decode cX4_tickTold 67 = .ok (.iadd, 1) := by decide +kernel
theorem dX4_tickTold_68 : decode cX4_tickTold 68 = .ok (.istore_n 3, 1) := by decide +kernel
theorem dX4_tickTold_69 : decode cX4_tickTold 69 = .ok (.iinc 4 1, 3) := by decide +kernel
theorem dX4_tickTold_72 : decode cX4_tickTold 72 = .ok (.goto (-23), 3) := by decide +kernel
theorem dX4_tickTold_75 : decode cX4_tickTold 75 = .ok (.iload_n 3, 1) := by decide +kernel
theorem dX4_tickTold_76 : decode cX4_tickTold 76 = .ok (.ireturn, 1) := by decide +kernel
theorem dX4_tickTold_77 : decode cX4_tickTold 77 = .ok (.aload_n 0, 1) := by decide +kernel
theorem dX4_tickTold_78 : decode cX4_tickTold 78 = .ok (.iload_n 1, 1) := by decide +kernel
theorem dX4_tickTold_79 : decode cX4_tickTold 79 = .ok (.aload_n 0, 1) := by decide +kernel
theorem dX4_tickTold_80 : decode cX4_tickTold 80 = .ok (.iload_n 1, 1) := by decide +kernel
theorem dX4_tickTold_81 : decode cX4_tickTold 81 = .ok (.invokevirtual 135, 3) := by decide +kernel
theorem dX4_tickTold_84 : decode cX4_tickTold 84 = .ok (.invokevirtual 126, 3) := by decide +kernel
theorem dX4_tickTold_87 : decode cX4_tickTold 87 = .ok (.ireturn, 1) := by decide +kernel
theorem dX4_tickTold_88 : decode cX4_tickTold 88 = .ok (.aload_n 0, 1) := by decide +kernel
theorem dX4_tickTold_89 : decode cX4_tickTold 89 = .ok (.iload_n 1, 1) := by decide +kernel
theorem dX4_tickTold_90 : decode cX4_tickTold 90 = .ok (.invokevirtual 135, 3) := by decide +kernel
theorem dX4_tickTold_93 : decode cX4_tickTold 93 = .ok (.ireturn, 1) := by decide +kernel
theorem dX4_tickTold_94 : decode cX4_tickTold 94 = .ok (.aload_n 0, 1) := by decide +kernel
theorem dX4_tickTold_95 : decode cX4_tickTold 95 = .ok (.iload_n 1, 1) := by decide +kernel
theorem dX4_tickTold_96 : decode cX4_tickTold 96 = .ok (.invokevirtual 115, 3) := by decide +kernel
theorem dX4_tickTold_99 : decode cX4_tickTold 99 = .ok (.ireturn, 1) := by decide +kernel
theorem dX4_tickTold_100 : decode cX4_tickTold 100 = .ok (.aload_n 0, 1) := by decide +kernel
theorem dX4_tickTold_101 : decode cX4_tickTold 101 = .ok (.iload_n 1, 1) := by decide +kernel
theorem dX4_tickTold_102 : decode cX4_tickTold 102 = .ok (.invokevirtual 138, 3) := by decide +kernel
theorem dX4_tickTold_105 : decode cX4_tickTold 105 = .ok (.ireturn, 1) := by decide +kernel
theorem dX4_tickTold_106 : decode cX4_tickTold 106 = .ok (.aload_n 0, 1) := by decide +kernel
theorem dX4_tickTold_107 : decode cX4_tickTold 107 = .ok (.iload_n 1, 1) := by decide +kernel
theorem dX4_tickTold_108 : decode cX4_tickTold 108 = .ok (.iload_n 2, 1) := by decide +kernel
theorem dX4_tickTold_109 : decode cX4_tickTold 109 = .ok (.invokevirtual 53, 3) := by decide +kernel
theorem dX4_tickTold_112 : decode cX4_tickTold 112 = .ok (.ireturn, 1) := by decide +kernel
set_option maxRecDepth 20000 in
theorem ggX4_tick_X4_isTick : GoodIn wsX4_tick wsX4_isTick := goodIn_r _ [6, 7, 8, 9, 5, 10, 63, 64, 65, 66, 67, 68, 69, 70, 71, 72, 73, 74, 75, 76] (by decide +kernel) (by decide +kernel)
set_option maxRecDepth 20000 in
theorem gX4_tick_X4_isTick : GoodIn wsX4_tick (wsV RX4 57 RX4 yX4_isTick wsX4_isTick) := goodIn_app (goodIn_of _ (by decide +kernel)) ggX4_tick_X4_isTick
set_option maxRecDepth 20000 in
theorem ggX4_tick_X4_isIn : GoodIn wsX4_tick wsX4_isIn := goodIn_r _ [10] (by decide +kernel) (by decide +kernel)
set_option maxRecDepth 20000 in
theorem gX4_tick_X4_isIn : GoodIn wsX4_tick (va_wsS RX4 46 yX4_isIn wsX4_isIn) := goodIn_app (goodIn_of _ (by decide +kernel)) ggX4_tick_X4_isIn
set_option maxRecDepth 20000 in
theorem ggX4_tick_X4_tickTold : GoodIn wsX4_tick wsX4_tickTold := goodIn_r _ [14, 15, 16, 17, 5, 18, 19, 20, 21, 22, 23, 24, 25, 26, 27, 28, 29, 30, 31, 32, 33, 34, 35, 36, 37, 38, 39, 40, 41, 42, 43, 44, 45, 46, 47, 48, 49, 50, 51, 52, 53, 54, 55, 56, 57, 58, 63, 64, 65, 66, 67, 68, 69, 70, 71, 72, 73, 74, 75, 76] (by decide +kernel) (by decide +kernel)
set_option maxRecDepth 20000 in
theorem gX4_tick_X4_tickTold : GoodIn wsX4_tick (wsV RX4 141 RX4 yX4_tickTold wsX4_tickTold) := goodIn_app (goodIn_of _ (by decide +kernel)) ggX4_tick_X4_tickTold
set_option maxRecDepth 20000 in
theorem ggX4_tick_X4_fail : GoodIn wsX4_tick wsX4_fail := goodIn_r _ [62, 1, 63, 64, 65, 66, 67, 68, 69, 70, 71, 72, 73, 74, 75, 76] (by decide +kernel) (by decide +kernel)
set_option maxRecDepth 20000 in
theorem gX4_tick_X4_fail : GoodIn wsX4_tick (wsV RX4 65 RX4 yX4_fail wsX4_fail) := goodIn_app (goodIn_of _ (by decide +kernel)) ggX4_tick_X4_fail
theorem dX4_tick_0 : decode cX4_tick 0 = .ok (.aload_n 0, 1) := by decide +kernel
theorem dX4_tick_1 : decode cX4_tick 1 = .ok (.iconst 0, 1) := by decide +kernel
theorem dX4_tick_2 : decode cX4_tick 2 = .ok (.putfield 40, 3) := by decide +kernel
theorem dX4_tick_5 : decode cX4_tick 5 = .ok (.aload_n 0, 1) := by decide +kernel
theorem dX4_tick_6 : decode cX4_tick 6 = .ok (.iload_n 1, 1) := by decide +kernel
theorem dX4_tick_7 : decode cX4_tick 7 = .ok (.invokevirtual 57, 3) := by decide +kernel
theorem dX4_tick_10 : decode cX4_tick 10 = .ok (.ifCond .eq 22, 3) := by decide +kernel
theorem dX4_tick_13 : decode cX4_tick 13 = .ok (.iload_n 2, 1) := by decide +kernel
theorem dX4_tick_14 : decode cX4_tick 14 = .ok (.iconst 0, 1) := by decide +kernel
theorem dX4_tick_15 : decode cX4_tick 15 = .ok (.bipush 8, 2) := by decide +kernel
theorem dX4_tick_17 : decode cX4_tick 17 = .ok (.invokestatic 46, 3) := by decide +kernel
theorem dX4_tick_20 : decode cX4_tick 20 = .ok (.ifCond .eq 12, 3) := by decide +kernel
theorem dX4_tick_23 : decode cX4_tick 23 = .ok (.aload_n 0, 1) := by decide +kernel
theorem dX4_tick_24 : decode cX4_tick 24 = .ok (.iload_n 1, 1) := by decide +kernel
theorem dX4_tick_25 : decode cX4_tick 25 = .ok (.iload_n 2, 1) := by decide +kernel
theorem dX4_tick_26 : decode cX4_tick 26 = .ok (.invokevirtual 141, 3) := by decide +kernel
theorem dX4_tick_29 : decode cX4_tick 29 = .ok (.goto 8, 3) := by decide +kernel
theorem dX4_tick_32 : decode cX4_tick 32 = .ok (.aload_n 0, 1) := by decide +kernel
theorem dX4_tick_33 : decode cX4_tick 33 = .ok (.iconst 1, 1) := by decide +kernel
theorem dX4_tick_34 : decode cX4_tick 34 = .ok (.invokevirtual 65, 3) := by decide +kernel
theorem dX4_tick_37 : decode cX4_tick 37 = .ok (.ireturn, 1) := by decide +kernel
set_option maxRecDepth 20000 in
theorem ggX4_nightOf_X4_ti : GoodIn wsX4_nightOf wsX4_ti := goodIn_r _ [6, 7, 31, 32, 33, 34, 35, 36, 37, 38, 39, 40, 41, 42, 43, 44] (by decide +kernel) (by decide +kernel)
set_option maxRecDepth 20000 in
theorem gX4_nightOf_X4_ti : GoodIn wsX4_nightOf (wsV RX4 53 RX4 yX4_ti wsX4_ti) := goodIn_app (goodIn_of _ (by decide +kernel)) ggX4_nightOf_X4_ti
set_option maxRecDepth 20000 in
theorem ggX4_nightOf_X4_squaresOf : GoodIn wsX4_nightOf wsX4_squaresOf := goodIn_r _ [11, 2, 3, 4, 5, 6, 7, 31, 32, 33, 34, 35, 36, 37, 38, 39, 40, 41, 42, 43, 44] (by decide +kernel) (by decide +kernel)
set_option maxRecDepth 20000 in
theorem gX4_nightOf_X4_squaresOf : GoodIn wsX4_nightOf (wsV RX4 61 RX4 yX4_squaresOf wsX4_squaresOf) := goodIn_app (goodIn_of _ (by decide +kernel)) ggX4_nightOf_X4_squaresOf
set_option maxRecDepth 20000 in
theorem ggX4_nightOf_X4_isOpen : GoodIn wsX4_nightOf wsX4_isOpen := goodIn_r _ [15, 16, 17, 18, 19, 5, 20, 2, 3, 4, 6, 7, 8, 9, 10, 11, 31, 32, 33, 34, 35, 36, 37, 38, 39, 40, 41, 42, 43, 44] (by decide +kernel) (by decide +kernel)
set_option maxRecDepth 20000 in
theorem gX4_nightOf_X4_isOpen : GoodIn wsX4_nightOf (wsV RX4 108 RX4 yX4_isOpen wsX4_isOpen) := goodIn_app (goodIn_of _ (by decide +kernel)) ggX4_nightOf_X4_isOpen
set_option maxRecDepth 20000 in
theorem ggX4_nightOf_X4_other : GoodIn wsX4_nightOf wsX4_other := goodIn_r _ [20, 2, 3, 4, 5, 6, 7, 8, 9, 10, 11, 31, 32, 33, 34, 35, 36, 37, 38, 39, 40, 41, 42, 43, 44] (by decide +kernel) (by decide +kernel)
set_option maxRecDepth 20000 in
theorem gX4_nightOf_X4_other : GoodIn wsX4_nightOf (wsV RX4 105 RX4 yX4_other wsX4_other) := goodIn_app (goodIn_of _ (by decide +kernel)) ggX4_nightOf_X4_other
set_option maxRecDepth 20000 in
theorem ggX4_nightOf_X4_all : GoodIn wsX4_nightOf wsX4_all := goodIn_r _ [23] (by decide +kernel) (by decide +kernel)
set_option maxRecDepth 20000 in
theorem gX4_nightOf_X4_all : GoodIn wsX4_nightOf (va_wsS RX4 76 yX4_all wsX4_all) := goodIn_app (goodIn_of _ (by decide +kernel)) ggX4_nightOf_X4_all
set_option maxRecDepth 20000 in
theorem ggX4_nightOf_X4_move : GoodIn wsX4_nightOf wsX4_move := goodIn_r _ [26, 27, 28, 29, 30] (by decide +kernel) (by decide +kernel)
set_option maxRecDepth 20000 in
theorem gX4_nightOf_X4_move : GoodIn wsX4_nightOf (va_wsS RX4 118 yX4_move wsX4_move) := goodIn_app (goodIn_of _ (by decide +kernel)) ggX4_nightOf_X4_move
theorem dX4_nightOf_0 : decode cX4_nightOf 0 = .ok (.iconst 0, 1) := by decide +kernel
theorem dX4_nightOf_1 : decode cX4_nightOf 1 = .ok (.istore_n 2, 1) := by decide +kernel
theorem dX4_nightOf_2 : decode cX4_nightOf 2 = .ok (.aload_n 0, 1) := by decide +kernel
theorem dX4_nightOf_3 : decode cX4_nightOf 3 = .ok (.getfield 27, 3) := by decide +kernel
theorem dX4_nightOf_6 : decode cX4_nightOf 6 = .ok (.iload_n 1, 1) := by decide +kernel
theorem dX4_nightOf_7 : decode cX4_nightOf 7 = .ok (.aaload, 1) := by decide +kernel
theorem dX4_nightOf_8 : decode cX4_nightOf 8 = .ok (.astore_n 3, 1) := by decide +kernel
theorem dX4_nightOf_9 : decode cX4_nightOf 9 = .ok (.iconst 0, 1) := by decide +kernel
theorem dX4_nightOf_10 : decode cX4_nightOf 10 = .ok (.istore 4, 2) := by decide +kernel
theorem dX4_nightOf_12 : decode cX4_nightOf 12 = .ok (.iload 4, 2) := by decide +kernel
theorem dX4_nightOf_14 : decode cX4_nightOf 14 = .ok (.aload_n 3, 1) := by decide +kernel
theorem dX4_nightOf_15 : decode cX4_nightOf 15 = .ok (.arraylength, 1) := by decide +kernel
theorem dX4_nightOf_16 : decode cX4_nightOf 16 = .ok (.if_icmp .ge 59, 3) := by decide +kernel
theorem dX4_nightOf_19 : decode cX4_nightOf 19 = .ok (.iconst 2, 1) := by decide +kernel
theorem dX4_nightOf_20 : decode cX4_nightOf 20 = .ok (.iload 4, 2) := by decide +kernel
theorem dX4_nightOf_22 : decode cX4_nightOf 22 = .ok (.bipush 6, 2) := by decide +kernel
theorem dX4_nightOf_24 : decode cX4_nightOf 24 = .ok (.irem, 1) := by decide +kernel
theorem dX4_nightOf_25 : decode cX4_nightOf 25 = .ok (.imul, 1) := by decide +kernel
theorem dX4_nightOf_26 : decode cX4_nightOf 26 = .ok (.aload_n 0, 1) := by decide +kernel
theorem dX4_nightOf_27 : decode cX4_nightOf 27 = .ok (.iload_n 1, 1) := by decide +kernel
theorem dX4_nightOf_28 : decode cX4_nightOf 28 = .ok (.iconst 2, 1) := by decide +kernel
theorem dX4_nightOf_29 : decode cX4_nightOf 29 = .ok (.invokevirtual 53, 3) := by decide +kernel
theorem dX4_nightOf_32 : decode cX4_nightOf 32 = .ok (.isub, 1) := by decide +kernel
theorem dX4_nightOf_33 : decode cX4_nightOf 33 = .ok (.istore 5, 2) := by decide +kernel
theorem dX4_nightOf_35 : decode cX4_nightOf 35 = .ok (.iload 5, 2) := by decide +kernel
theorem dX4_nightOf_37 : decode cX4_nightOf 37 = .ok (.ifCond .gt 6, 3) := by decide +kernel
theorem dX4_nightOf_40 : decode cX4_nightOf 40 = .ok (.goto 29, 3) := by decide +kernel
theorem dX4_nightOf_43 : decode cX4_nightOf 43 = .ok (.aload_n 3, 1) := by decide +kernel
theorem dX4_nightOf_44 : decode cX4_nightOf 44 = .ok (.iload 4, 2) := by decide +kernel
theorem dX4_nightOf_46 : decode cX4_nightOf 46 = .ok (.iaload, 1) := by decide +kernel
theorem dX4_nightOf_47 : decode cX4_nightOf 47 = .ok (.iload 5, 2) := by decide +kernel
theorem dX4_nightOf_49 : decode cX4_nightOf 49 = .ok (.imul, 1) := by decide +kernel
theorem dX4_nightOf_50 : decode cX4_nightOf 50 = .ok (.bipush 30, 2) := by decide +kernel
theorem dX4_nightOf_52 : decode cX4_nightOf 52 = .ok (.idiv, 1) := by decide +kernel
theorem dX4_nightOf_53 : decode cX4_nightOf 53 = .ok (.istore 6, 2) := by decide +kernel
theorem dX4_nightOf_55 : decode cX4_nightOf 55 = .ok (.aload_n 3, 1) := by decide +kernel
theorem dX4_nightOf_56 : decode cX4_nightOf 56 = .ok (.iload 4, 2) := by decide +kernel
theorem dX4_nightOf_58 : decode cX4_nightOf 58 = .ok (.dup2, 1) := by decide +kernel
theorem dX4_nightOf_59 : decode cX4_nightOf 59 = .ok (.iaload, 1) := by decide +kernel
theorem dX4_nightOf_60 : decode cX4_nightOf 60 = .ok (.iload 6, 2) := by decide +kernel
theorem dX4_nightOf_62 : decode cX4_nightOf 62 = .ok (.isub, 1) := by decide +kernel
theorem dX4_nightOf_63 : decode cX4_nightOf 63 = .ok (.iastore, 1) := by decide +kernel
theorem dX4_nightOf_64 : decode cX4_nightOf 64 = .ok (.iload_n 2, 1) := by decide +kernel
theorem dX4_nightOf_65 : decode cX4_nightOf 65 = .ok (.iload 6, 2) := by decide +kernel
theorem dX4_nightOf_67 : decode cX4_nightOf 67 = .ok (.iadd, 1) := by decide +kernel
theorem dX4_nightOf_68 : decode cX4_nightOf 68 = .ok (.istore_n 2, 1) := by decide +kernel
theorem dX4_nightOf_69 : decode cX4_nightOf 69 = .ok (.iinc 4 1, 3) := by decide +kernel
theorem dX4_nightOf_72 : decode cX4_nightOf 72 = .ok (.goto (-60), 3) := by decide +kernel
theorem dX4_nightOf_75 : decode cX4_nightOf 75 = .ok (.iconst 0, 1) := by decide +kernel
theorem dX4_nightOf_76 : decode cX4_nightOf 76 = .ok (.istore 4, 2) := by decide +kernel
theorem dX4_nightOf_78 : decode cX4_nightOf 78 = .ok (.iload 4, 2) := by decide +kernel
theorem dX4_nightOf_80 : decode cX4_nightOf 80 = .ok (.iconst 2, 1) := by decide +kernel
theorem dX4_nightOf_81 : decode cX4_nightOf 81 = .ok (.aload_n 0, 1) := by decide +kernel
theorem dX4_nightOf_82 : decode cX4_nightOf 82 = .ok (.iload_n 1, 1) := by decide +kernel
theorem dX4_nightOf_83 : decode cX4_nightOf 83 = .ok (.invokevirtual 61, 3) := by decide +kernel
theorem dX4_nightOf_86 : decode cX4_nightOf 86 = .ok (.imul, 1) := by decide +kernel
theorem dX4_nightOf_87 : decode cX4_nightOf 87 = .ok (.if_icmp .ge 103, 3) := by decide +kernel
theorem dX4_nightOf_90 : decode cX4_nightOf 90 = .ok (.aload_n 0, 1) := by decide +kernel
theorem dX4_nightOf_91 : decode cX4_nightOf 91 = .ok (.iload_n 1, 1) := by decide +kernel
theorem dX4_nightOf_92 : decode cX4_nightOf 92 = .ok (.iload 4, 2) := by decide +kernel
theorem dX4_nightOf_94 : decode cX4_nightOf 94 = .ok (.iconst 2, 1) := by decide +kernel
theorem dX4_nightOf_95 : decode cX4_nightOf 95 = .ok (.idiv, 1) := by decide +kernel
theorem dX4_nightOf_96 : decode cX4_nightOf 96 = .ok (.iload 4, 2) := by decide +kernel
theorem dX4_nightOf_98 : decode cX4_nightOf 98 = .ok (.iconst 2, 1) := by decide +kernel
theorem dX4_nightOf_99 : decode cX4_nightOf 99 = .ok (.irem, 1) := by decide +kernel
theorem dX4_nightOf_100 : decode cX4_nightOf 100 = .ok (.invokevirtual 108, 3) := by decide +kernel
theorem dX4_nightOf_103 : decode cX4_nightOf 103 = .ok (.ifCond .ne 6, 3) := by decide +kernel
theorem dX4_nightOf_106 : decode cX4_nightOf 106 = .ok (.goto 78, 3) := by decide +kernel
theorem dX4_nightOf_109 : decode cX4_nightOf 109 = .ok (.iload 4, 2) := by decide +kernel
theorem dX4_nightOf_111 : decode cX4_nightOf 111 = .ok (.iconst 2, 1) := by decide +kernel
theorem dX4_nightOf_112 : decode cX4_nightOf 112 = .ok (.idiv, 1) := by decide +kernel
theorem dX4_nightOf_113 : decode cX4_nightOf 113 = .ok (.istore 5, 2) := by decide +kernel
theorem dX4_nightOf_115 : decode cX4_nightOf 115 = .ok (.aload_n 0, 1) := by decide +kernel
theorem dX4_nightOf_116 : decode cX4_nightOf 116 = .ok (.iload_n 1, 1) := by decide +kernel
theorem dX4_nightOf_117 : decode cX4_nightOf 117 = .ok (.iload 5, 2) := by decide +kernel
theorem dX4_nightOf_119 : decode cX4_nightOf 119 = .ok (.iload 4, 2) := by decide +kernel
theorem dX4_nightOf_121 : decode cX4_nightOf 121 = .ok (.iconst 2, 1) := by decide +kernel
theorem dX4_nightOf_122 : decode cX4_nightOf 122 = .ok (.irem, 1) := by decide +kernel
theorem dX4_nightOf_123 : decode cX4_nightOf 123 = .ok (.invokevirtual 105, 3) := by decide +kernel
theorem dX4_nightOf_126 : decode cX4_nightOf 126 = .ok (.istore 6, 2) := by decide +kernel
theorem dX4_nightOf_128 : decode cX4_nightOf 128 = .ok (.aload_n 3, 1) := by decide +kernel
theorem dX4_nightOf_129 : decode cX4_nightOf 129 = .ok (.iload 5, 2) := by decide +kernel
theorem dX4_nightOf_131 : decode cX4_nightOf 131 = .ok (.invokestatic 76, 3) := by decide +kernel
theorem dX4_nightOf_134 : decode cX4_nightOf 134 = .ok (.aload_n 3, 1) := by decide +kernel
theorem dX4_nightOf_135 : decode cX4_nightOf 135 = .ok (.iload 6, 2) := by decide +kernel
theorem dX4_nightOf_137 : decode cX4_nightOf 137 = .ok (.invokestatic 76, 3) := by decide +kernel
theorem dX4_nightOf_140 : decode cX4_nightOf 140 = .ok (.isub, 1) := by decide +kernel
theorem dX4_nightOf_141 : decode cX4_nightOf 141 = .ok (.istore 7, 2) := by decide +kernel
theorem dX4_nightOf_143 : decode cX4_nightOf 143 = .ok (.iload 7, 2) := by decide +kernel
theorem dX4_nightOf_145 : decode cX4_nightOf 145 = .ok (.ifCond .le 22, 3) := by decide +kernel
theorem dX4_nightOf_148 : decode cX4_nightOf 148 = .ok (.aload_n 3, 1) := by decide +kernel
theorem dX4_nightOf_149 : decode cX4_nightOf 149 = .ok (.iload 5, 2) := by decide +kernel
theorem dX4_nightOf_151 : decode cX4_nightOf 151 = .ok (.aload_n 3, 1) := by decide +kernel
theorem dX4_nightOf_152 : decode cX4_nightOf 152 = .ok (.iload 6, 2) := by decide +kernel
theorem dX4_nightOf_154 : decode cX4_nightOf 154 = .ok (.iload 7, 2) := by decide +kernel
theorem dX4_nightOf_156 : decode cX4_nightOf 156 = .ok (.bipush 8, 2) := by decide +kernel
theorem dX4_nightOf_158 : decode cX4_nightOf 158 = .ok (.idiv, 1) := by decide +kernel
theorem dX4_nightOf_159 : decode cX4_nightOf 159 = .ok (.iconst 2, 1) := by decide +kernel
theorem dX4_nightOf_160 : decode cX4_nightOf 160 = .ok (.invokestatic 118, 3) := by decide +kernel
theorem dX4_nightOf_163 : decode cX4_nightOf 163 = .ok (.pop, 1) := by decide +kernel
theorem dX4_nightOf_164 : decode cX4_nightOf 164 = .ok (.goto 20, 3) := by decide +kernel
theorem dX4_nightOf_167 : decode cX4_nightOf 167 = .ok (.aload_n 3, 1) := by decide +kernel
theorem dX4_nightOf_168 : decode cX4_nightOf 168 = .ok (.iload 6, 2) := by decide +kernel
theorem dX4_nightOf_170 : decode cX4_nightOf 170 = .ok (.aload_n 3, 1) := by decide +kernel
theorem dX4_nightOf_171 : decode cX4_nightOf 171 = .ok (.iload 5, 2) := by decide +kernel
theorem dX4_nightOf_173 : decode cX4_nightOf 173 = .ok (.iload 7, 2) := by decide +kernel
theorem dX4_nightOf_175 : decode cX4_nightOf 175 = .ok (.ineg, 1) := by decide +kernel
theorem dX4_nightOf_176 : decode cX4_nightOf 176 = .ok (.bipush 8, 2) := by decide +kernel
theorem dX4_nightOf_178 : decode cX4_nightOf 178 = .ok (.idiv, 1) := by decide +kernel
theorem dX4_nightOf_179 : decode cX4_nightOf 179 = .ok (.iconst 2, 1) := by decide +kernel
theorem dX4_nightOf_180 : decode cX4_nightOf 180 = .ok (.invokestatic 118, 3) := by decide +kernel
theorem dX4_nightOf_183 : decode cX4_nightOf 183 = .ok (.pop, 1) := by decide +kernel
theorem dX4_nightOf_184 : decode cX4_nightOf 184 = .ok (.iinc 4 1, 3) := by decide +kernel
theorem dX4_nightOf_187 : decode cX4_nightOf 187 = .ok (.goto (-109), 3) := by decide +kernel
theorem dX4_nightOf_190 : decode cX4_nightOf 190 = .ok (.iload_n 2, 1) := by decide +kernel
theorem dX4_nightOf_191 : decode cX4_nightOf 191 = .ok (.ireturn, 1) := by decide +kernel
set_option maxRecDepth 20000 in
theorem ggX4_pass_X4_isIn : GoodIn wsX4_pass wsX4_isIn := goodIn_r _ [8] (by decide +kernel) (by decide +kernel)
set_option maxRecDepth 20000 in
theorem gX4_pass_X4_isIn : GoodIn wsX4_pass (va_wsS RX4 46 yX4_isIn wsX4_isIn) := goodIn_app (goodIn_of _ (by decide +kernel)) ggX4_pass_X4_isIn
set_option maxRecDepth 20000 in
theorem ggX4_pass_X4_fail : GoodIn wsX4_pass wsX4_fail := goodIn_r _ [12, 1, 46, 47, 48, 49, 50, 51, 52, 53, 54, 55, 56, 57, 58, 59] (by decide +kernel) (by decide +kernel)
set_option maxRecDepth 20000 in
theorem gX4_pass_X4_fail : GoodIn wsX4_pass (wsV RX4 65 RX4 yX4_fail wsX4_fail) := goodIn_app (goodIn_of _ (by decide +kernel)) ggX4_pass_X4_fail
set_option maxRecDepth 20000 in
theorem ggX4_pass_X4_nightOf : GoodIn wsX4_pass wsX4_nightOf := goodIn_r _ [16, 17, 18, 19, 20, 7, 21, 22, 23, 24, 25, 26, 27, 28, 29, 30, 31, 32, 33, 34, 35, 36, 37, 38, 39, 40, 41, 42, 43, 44, 45, 46, 47, 48, 49, 50, 51, 52, 53, 54, 55, 56, 57, 58, 59] (by decide +kernel) (by decide +kernel)
set_option maxRecDepth 20000 in
theorem gX4_pass_X4_nightOf : GoodIn wsX4_pass (wsV RX4 144 RX4 yX4_nightOf wsX4_nightOf) := goodIn_app (goodIn_of _ (by decide +kernel)) ggX4_pass_X4_nightOf
theorem dX4_pass_0 : decode cX4_pass 0 = .ok (.aload_n 0, 1) := by decide +kernel
theorem dX4_pass_1 : decode cX4_pass 1 = .ok (.iconst 0, 1) := by decide +kernel
theorem dX4_pass_2 : decode cX4_pass 2 = .ok (.putfield 40, 3) := by decide +kernel
theorem dX4_pass_5 : decode cX4_pass 5 = .ok (.iload_n 1, 1) := by decide +kernel
theorem dX4_pass_6 : decode cX4_pass 6 = .ok (.iconst 1, 1) := by decide +kernel
theorem dX4_pass_7 : decode cX4_pass 7 = .ok (.sipush 200, 3) := by decide +kernel
theorem dX4_pass_10 : decode cX4_pass 10 = .ok (.invokestatic 46, 3) := by decide +kernel
theorem dX4_pass_13 : decode cX4_pass 13 = .ok (.ifCond .ne 9, 3) := by decide +kernel
theorem dX4_pass_16 : decode cX4_pass 16 = .ok (.aload_n 0, 1) := by decide +kernel
theorem dX4_pass_17 : decode cX4_pass 17 = .ok (.iconst 1, 1) := by decide +kernel
theorem dX4_pass_18 : decode cX4_pass 18 = .ok (.invokevirtual 65, 3) := by decide +kernel
theorem dX4_pass_21 : decode cX4_pass 21 = .ok (.ireturn, 1) := by decide +kernel
theorem dX4_pass_22 : decode cX4_pass 22 = .ok (.iconst 0, 1) := by decide +kernel
theorem dX4_pass_23 : decode cX4_pass 23 = .ok (.istore_n 2, 1) := by decide +kernel
theorem dX4_pass_24 : decode cX4_pass 24 = .ok (.iconst 0, 1) := by decide +kernel
theorem dX4_pass_25 : decode cX4_pass 25 = .ok (.istore_n 3, 1) := by decide +kernel
theorem dX4_pass_26 : decode cX4_pass 26 = .ok (.iload_n 3, 1) := by decide +kernel
theorem dX4_pass_27 : decode cX4_pass 27 = .ok (.iload_n 1, 1) := by decide +kernel
theorem dX4_pass_28 : decode cX4_pass 28 = .ok (.if_icmp .ge 36, 3) := by decide +kernel
theorem dX4_pass_31 : decode cX4_pass 31 = .ok (.iconst 0, 1) := by decide +kernel
theorem dX4_pass_32 : decode cX4_pass 32 = .ok (.istore 4, 2) := by decide +kernel
theorem dX4_pass_34 : decode cX4_pass 34 = .ok (.iload 4, 2) := by decide +kernel
theorem dX4_pass_36 : decode cX4_pass 36 = .ok (.aload_n 0, 1) := by decide +kernel
theorem dX4_pass_37 : decode cX4_pass 37 = .ok (.getfield 50, 3) := by decide +kernel
theorem dX4_pass_40 : decode cX4_pass 40 = .ok (.if_icmp .ge 18, 3) := by decide +kernel
theorem dX4_pass_43 : decode cX4_pass 43 = .ok (.iload_n 2, 1) := by decide +kernel
theorem dX4_pass_44 : decode cX4_pass 44 = .ok (.aload_n 0, 1) := by decide +kernel
theorem dX4_pass_45 : decode cX4_pass 45 = .ok (.iload 4, 2) := by decide +kernel
theorem dX4_pass_47 : decode cX4_pass 47 = .ok (.invokevirtual 144, 3) := by decide +kernel
theorem dX4_pass_50 : decode cX4_pass 50 = .ok (.iadd, 1) := by decide +kernel
theorem dX4_pass_51 : decode cX4_pass 51 = .ok (.istore_n 2, 1) := by decide +kernel
theorem dX4_pass_52 : decode cX4_pass 52 = .ok (.iinc 4 1, 3) := by decide +kernel
theorem dX4_pass_55 : decode cX4_pass 55 = .ok (.goto (-21), 3) := by decide +kernel
theorem dX4_pass_58 : decode cX4_pass 58 = .ok (.iinc 3 1, 3) := by decide +kernel
theorem dX4_pass_61 : decode cX4_pass 61 = .ok (.goto (-35), 3) := by decide +kernel
theorem dX4_pass_64 : decode cX4_pass 64 = .ok (.aload_n 0, 1) := by decide +kernel
theorem dX4_pass_65 : decode cX4_pass 65 = .ok (.dup, 1) := by decide +kernel
theorem dX4_pass_66 : decode cX4_pass 66 = .ok (.getfield 147, 3) := by decide +kernel
theorem dX4_pass_69 : decode cX4_pass 69 = .ok (.iload_n 1, 1) := by decide +kernel
theorem dX4_pass_70 : decode cX4_pass 70 = .ok (.iadd, 1) := by decide +kernel
theorem dX4_pass_71 : decode cX4_pass 71 = .ok (.putfield 147, 3) := by decide +kernel
theorem dX4_pass_74 : decode cX4_pass 74 = .ok (.aload_n 0, 1) := by decide +kernel
theorem dX4_pass_75 : decode cX4_pass 75 = .ok (.dup, 1) := by decide +kernel
theorem dX4_pass_76 : decode cX4_pass 76 = .ok (.getfield 150, 3) := by decide +kernel
theorem dX4_pass_79 : decode cX4_pass 79 = .ok (.iload_n 2, 1) := by decide +kernel
theorem dX4_pass_80 : decode cX4_pass 80 = .ok (.iadd, 1) := by decide +kernel
theorem dX4_pass_81 : decode cX4_pass 81 = .ok (.putfield 150, 3) := by decide +kernel
theorem dX4_pass_84 : decode cX4_pass 84 = .ok (.iload_n 2, 1) := by decide +kernel
theorem dX4_pass_85 : decode cX4_pass 85 = .ok (.ireturn, 1) := by decide +kernel
set_option maxRecDepth 20000 in
theorem ggX4_counted_X4_feathers : GoodIn wsX4_counted wsX4_feathers := goodIn_r _ [13, 14, 15, 16, 17, 18, 19, 20, 21, 22, 23, 24, 25, 26, 27, 28] (by decide +kernel) (by decide +kernel)
set_option maxRecDepth 20000 in
theorem gX4_counted_X4_feathers : GoodIn wsX4_counted (wsV RX4 132 RX4 yX4_feathers wsX4_feathers) := goodIn_app (goodIn_of _ (by decide +kernel)) ggX4_counted_X4_feathers
theorem dX4_counted_0 : decode cX4_counted 0 = .ok (.iconst 0, 1) := by decide +kernel
theorem dX4_counted_1 : decode cX4_counted 1 = .ok (.istore_n 2, 1) := by decide +kernel
theorem dX4_counted_2 : decode cX4_counted 2 = .ok (.iload_n 1, 1) := by decide +kernel
theorem dX4_counted_3 : decode cX4_counted 3 = .ok (.tableswitch 172 0 7 #[45, 50, 55, 60, 98, 136, 162, 167], 45) := by decide +kernel
theorem dX4_counted_48 : decode cX4_counted 48 = .ok (.aload_n 0, 1) := by decide +kernel
theorem dX4_counted_49 : decode cX4_counted 49 = .ok (.getfield 147, 3) := by decide +kernel
theorem dX4_counted_52 : decode cX4_counted 52 = .ok (.ireturn, 1) := by decide +kernel
theorem dX4_counted_53 : decode cX4_counted 53 = .ok (.aload_n 0, 1) := by decide +kernel
theorem dX4_counted_54 : decode cX4_counted 54 = .ok (.getfield 43, 3) := by decide +kernel
theorem dX4_counted_57 : decode cX4_counted 57 = .ok (.ireturn, 1) := by decide +kernel
theorem dX4_counted_58 : decode cX4_counted 58 = .ok (.aload_n 0, 1) := by decide +kernel
theorem dX4_counted_59 : decode cX4_counted 59 = .ok (.getfield 50, 3) := by decide +kernel
theorem dX4_counted_62 : decode cX4_counted 62 = .ok (.ireturn, 1) := by decide +kernel
theorem dX4_counted_63 : decode cX4_counted 63 = .ok (.aload_n 0, 1) := by decide +kernel
theorem dX4_counted_64 : decode cX4_counted 64 = .ok (.getfield 9, 3) := by decide +kernel
theorem dX4_counted_67 : decode cX4_counted 67 = .ok (.astore_n 3, 1) := by decide +kernel
theorem dX4_counted_68 : decode cX4_counted 68 = .ok (.aload_n 3, 1) := by decide +kernel
theorem dX4_counted_69 : decode cX4_counted 69 = .ok (.arraylength, 1) := by decide +kernel
theorem dX4_counted_70 : decode cX4_counted 70 = .ok (.istore 4, 2) := by decide +kernel
theorem dX4_counted_72 : decode cX4_counted 72 = .ok (.iconst 0, 1) := by decide +kernel
theorem dX4_counted_73 : decode cX4_counted 73 = .ok (.istore 5, 2) := by decide +kernel
theorem dX4_counted_75 : decode cX4_counted 75 = .ok (.iload 5, 2) := by decide +kernel
theorem dX4_counted_77 : decode cX4_counted 77 = .ok (.iload 4, 2) := by decide +kernel
theorem dX4_counted_79 : decode cX4_counted 79 = .ok (.if_icmp .ge 20, 3) := by decide +kernel
theorem dX4_counted_82 : decode cX4_counted 82 = .ok (.aload_n 3, 1) := by decide +kernel
theorem dX4_counted_83 : decode cX4_counted 83 = .ok (.iload 5, 2) := by decide +kernel
theorem dX4_counted_85 : decode cX4_counted 85 = .ok (.iaload, 1) := by decide +kernel
theorem dX4_counted_86 : decode cX4_counted 86 = .ok (.istore 6, 2) := by decide +kernel
theorem dX4_counted_88 : decode cX4_counted 88 = .ok (.iload_n 2, 1) := by decide +kernel
theorem dX4_counted_89 : decode cX4_counted 89 = .ok (.iload 6, 2) := by decide +kernel
theorem dX4_counted_91 : decode cX4_counted 91 = .ok (.iadd, 1) := by decide +kernel
theorem dX4_counted_92 : decode cX4_counted 92 = .ok (.istore_n 2, 1) := by decide +kernel
theorem dX4_counted_93 : decode cX4_counted 93 = .ok (.iinc 5 1, 3) := by decide +kernel
theorem dX4_counted_96 : decode cX4_counted 96 = .ok (.goto (-21), 3) := by decide +kernel
theorem dX4_counted_99 : decode cX4_counted 99 = .ok (.iload_n 2, 1) := by decide +kernel
theorem dX4_counted_100 : decode cX4_counted 100 = .ok (.ireturn, 1) := by decide +kernel
theorem dX4_counted_101 : decode cX4_counted 101 = .ok (.aload_n 0, 1) := by decide +kernel
theorem dX4_counted_102 : decode cX4_counted 102 = .ok (.getfield 20, 3) := by decide +kernel
theorem dX4_counted_105 : decode cX4_counted 105 = .ok (.astore_n 3, 1) := by decide +kernel
theorem dX4_counted_106 : decode cX4_counted 106 = .ok (.aload_n 3, 1) := by decide +kernel
theorem dX4_counted_107 : decode cX4_counted 107 = .ok (.arraylength, 1) := by decide +kernel
theorem dX4_counted_108 : decode cX4_counted 108 = .ok (.istore 4, 2) := by decide +kernel
theorem dX4_counted_110 : decode cX4_counted 110 = .ok (.iconst 0, 1) := by decide +kernel
theorem dX4_counted_111 : decode cX4_counted 111 = .ok (.istore 5, 2) := by decide +kernel
theorem dX4_counted_113 : decode cX4_counted 113 = .ok (.iload 5, 2) := by decide +kernel
theorem dX4_counted_115 : decode cX4_counted 115 = .ok (.iload 4, 2) := by decide +kernel
theorem dX4_counted_117 : decode cX4_counted 117 = .ok (.if_icmp .ge 20, 3) := by decide +kernel
theorem dX4_counted_120 : decode cX4_counted 120 = .ok (.aload_n 3, 1) := by decide +kernel
theorem dX4_counted_121 : decode cX4_counted 121 = .ok (.iload 5, 2) := by decide +kernel
theorem dX4_counted_123 : decode cX4_counted 123 = .ok (.iaload, 1) := by decide +kernel
theorem dX4_counted_124 : decode cX4_counted 124 = .ok (.istore 6, 2) := by decide +kernel
theorem dX4_counted_126 : decode cX4_counted 126 = .ok (.iload_n 2, 1) := by decide +kernel
theorem dX4_counted_127 : decode cX4_counted 127 = .ok (.iload 6, 2) := by decide +kernel
theorem dX4_counted_129 : decode cX4_counted 129 = .ok (.iadd, 1) := by decide +kernel
theorem dX4_counted_130 : decode cX4_counted 130 = .ok (.istore_n 2, 1) := by decide +kernel
theorem dX4_counted_131 : decode cX4_counted 131 = .ok (.iinc 5 1, 3) := by decide +kernel
theorem dX4_counted_134 : decode cX4_counted 134 = .ok (.goto (-21), 3) := by decide +kernel
theorem dX4_counted_137 : decode cX4_counted 137 = .ok (.iload_n 2, 1) := by decide +kernel
theorem dX4_counted_138 : decode cX4_counted 138 = .ok (.ireturn, 1) := by decide +kernel
theorem dX4_counted_139 : decode cX4_counted 139 = .ok (.iconst 0, 1) := by decide +kernel
theorem dX4_counted_140 : decode cX4_counted 140 = .ok (.istore_n 3, 1) := by decide +kernel
theorem dX4_counted_141 : decode cX4_counted 141 = .ok (.iload_n 3, 1) := by decide +kernel
theorem dX4_counted_142 : decode cX4_counted 142 = .ok (.aload_n 0, 1) := by decide +kernel
theorem dX4_counted_143 : decode cX4_counted 143 = .ok (.getfield 50, 3) := by decide +kernel
theorem dX4_counted_146 : decode cX4_counted 146 = .ok (.if_icmp .ge 17, 3) := by decide +kernel
theorem dX4_counted_149 : decode cX4_counted 149 = .ok (.iload_n 2, 1) := by decide +kernel
theorem dX4_counted_150 : decode cX4_counted 150 = .ok (.aload_n 0, 1) := by decide +kernel
theorem dX4_counted_151 : decode cX4_counted 151 = .ok (.iload_n 3, 1) := by decide +kernel
theorem dX4_counted_152 : decode cX4_counted 152 = .ok (.invokevirtual 132, 3) := by decide +kernel
theorem dX4_counted_155 : decode cX4_counted 155 = .ok (.iadd, 1) := by decide +kernel
theorem dX4_counted_156 : decode cX4_counted 156 = .ok (.istore_n 2, 1) := by decide +kernel
theorem dX4_counted_157 : decode cX4_counted 157 = .ok (.iinc 3 1, 3) := by decide +kernel
theorem dX4_counted_160 : decode cX4_counted 160 = .ok (.goto (-19), 3) := by decide +kernel
theorem dX4_counted_163 : decode cX4_counted 163 = .ok (.iload_n 2, 1) := by decide +kernel
theorem dX4_counted_164 : decode cX4_counted 164 = .ok (.ireturn, 1) := by decide +kernel
theorem dX4_counted_165 : decode cX4_counted 165 = .ok (.aload_n 0, 1) := by decide +kernel
theorem dX4_counted_166 : decode cX4_counted 166 = .ok (.getfield 93, 3) := by decide +kernel
theorem dX4_counted_169 : decode cX4_counted 169 = .ok (.ireturn, 1) := by decide +kernel
theorem dX4_counted_170 : decode cX4_counted 170 = .ok (.aload_n 0, 1) := by decide +kernel
theorem dX4_counted_171 : decode cX4_counted 171 = .ok (.getfield 150, 3) := by decide +kernel
theorem dX4_counted_174 : decode cX4_counted 174 = .ok (.ireturn, 1) := by decide +kernel
theorem dX4_counted_175 : decode cX4_counted 175 = .ok (.aload_n 0, 1) := by decide +kernel
theorem dX4_counted_176 : decode cX4_counted 176 = .ok (.getfield 16, 3) := by decide +kernel
theorem dX4_counted_179 : decode cX4_counted 179 = .ok (.ireturn, 1) := by decide +kernel
set_option maxRecDepth 20000 in
theorem ggX4_count_X4_isIn : GoodIn wsX4_count wsX4_isIn := goodIn_r _ [5] (by decide +kernel) (by decide +kernel)
set_option maxRecDepth 20000 in
theorem gX4_count_X4_isIn : GoodIn wsX4_count (va_wsS RX4 46 yX4_isIn wsX4_isIn) := goodIn_app (goodIn_of _ (by decide +kernel)) ggX4_count_X4_isIn
set_option maxRecDepth 20000 in
theorem ggX4_count_X4_counted : GoodIn wsX4_count wsX4_counted := goodIn_r _ [9, 10, 11, 12, 13, 14, 15, 16, 17, 18, 19, 20, 4, 21, 22, 27, 28, 29, 30, 31, 32, 33, 34, 35, 36, 37, 38, 39, 40] (by decide +kernel) (by decide +kernel)
set_option maxRecDepth 20000 in
theorem gX4_count_X4_counted : GoodIn wsX4_count (wsV RX4 153 RX4 yX4_counted wsX4_counted) := goodIn_app (goodIn_of _ (by decide +kernel)) ggX4_count_X4_counted
set_option maxRecDepth 20000 in
theorem ggX4_count_X4_fail : GoodIn wsX4_count wsX4_fail := goodIn_r _ [26, 1, 27, 28, 29, 30, 31, 32, 33, 34, 35, 36, 37, 38, 39, 40] (by decide +kernel) (by decide +kernel)
set_option maxRecDepth 20000 in
theorem gX4_count_X4_fail : GoodIn wsX4_count (wsV RX4 65 RX4 yX4_fail wsX4_fail) := goodIn_app (goodIn_of _ (by decide +kernel)) ggX4_count_X4_fail
theorem dX4_count_0 : decode cX4_count 0 = .ok (.aload_n 0, 1) := by decide +kernel
theorem dX4_count_1 : decode cX4_count 1 = .ok (.iconst 0, 1) := by decide +kernel
theorem dX4_count_2 : decode cX4_count 2 = .ok (.putfield 40, 3) := by decide +kernel
theorem dX4_count_5 : decode cX4_count 5 = .ok (.iload_n 1, 1) := by decide +kernel
theorem dX4_count_6 : decode cX4_count 6 = .ok (.iconst 0, 1) := by decide +kernel
theorem dX4_count_7 : decode cX4_count 7 = .ok (.bipush 8, 2) := by decide +kernel
theorem dX4_count_9 : decode cX4_count 9 = .ok (.invokestatic 46, 3) := by decide +kernel
theorem dX4_count_12 : decode cX4_count 12 = .ok (.ifCond .eq 11, 3) := by decide +kernel
theorem dX4_count_15 : decode cX4_count 15 = .ok (.aload_n 0, 1) := by decide +kernel
theorem dX4_count_16 : decode cX4_count 16 = .ok (.iload_n 1, 1) := by decide +kernel
theorem dX4_count_17 : decode cX4_count 17 = .ok (.invokevirtual 153, 3) := by decide +kernel
theorem dX4_count_20 : decode cX4_count 20 = .ok (.goto 8, 3) := by decide +kernel
theorem dX4_count_23 : decode cX4_count 23 = .ok (.aload_n 0, 1) := by decide +kernel
theorem dX4_count_24 : decode cX4_count 24 = .ok (.iconst 1, 1) := by decide +kernel
theorem dX4_count_25 : decode cX4_count 25 = .ok (.invokevirtual 65, 3) := by decide +kernel
theorem dX4_count_28 : decode cX4_count 28 = .ok (.ireturn, 1) := by decide +kernel
theorem dX4_bringBack_0 : decode cX4_bringBack 0 = .ok (.aload_n 2, 1) := by decide +kernel
theorem dX4_bringBack_1 : decode cX4_bringBack 1 = .ok (.iconst 0, 1) := by decide +kernel
theorem dX4_bringBack_2 : decode cX4_bringBack 2 = .ok (.aload_n 0, 1) := by decide +kernel
theorem dX4_bringBack_3 : decode cX4_bringBack 3 = .ok (.getfield 27, 3) := by decide +kernel
theorem dX4_bringBack_6 : decode cX4_bringBack 6 = .ok (.iload_n 1, 1) := by decide +kernel
theorem dX4_bringBack_7 : decode cX4_bringBack 7 = .ok (.aaload, 1) := by decide +kernel
theorem dX4_bringBack_8 : decode cX4_bringBack 8 = .ok (.iconst 0, 1) := by decide +kernel
theorem dX4_bringBack_9 : decode cX4_bringBack 9 = .ok (.aload_n 2, 1) := by decide +kernel
theorem dX4_bringBack_10 : decode cX4_bringBack 10 = .ok (.arraylength, 1) := by decide +kernel
theorem dX4_bringBack_11 : decode cX4_bringBack 11 = .ok (.invokestatic 99, 3) := by decide +kernel
theorem dX4_bringBack_14 : decode cX4_bringBack 14 = .ok (.return_, 1) := by decide +kernel
set_option maxRecDepth 20000 in
theorem ggX4_foresee_X4_isTick : GoodIn wsX4_foresee wsX4_isTick := goodIn_r _ [13, 14, 15, 16, 12, 17, 87, 88, 89, 90, 91, 92, 93, 94, 95, 96, 97, 98, 99, 100] (by decide +kernel) (by decide +kernel)
set_option maxRecDepth 20000 in
theorem gX4_foresee_X4_isTick : GoodIn wsX4_foresee (wsV RX4 57 RX4 yX4_isTick wsX4_isTick) := goodIn_app (goodIn_of _ (by decide +kernel)) ggX4_foresee_X4_isTick
set_option maxRecDepth 20000 in
theorem ggX4_foresee_X4_isIn : GoodIn wsX4_foresee wsX4_isIn := goodIn_r _ [17] (by decide +kernel) (by decide +kernel)
set_option maxRecDepth 20000 in
theorem gX4_foresee_X4_isIn : GoodIn wsX4_foresee (va_wsS RX4 46 yX4_isIn wsX4_isIn) := goodIn_app (goodIn_of _ (by decide +kernel)) ggX4_foresee_X4_isIn
set_option maxRecDepth 20000 in
theorem ggX4_foresee_X4_fail : GoodIn wsX4_foresee wsX4_fail := goodIn_r _ [21, 1, 87, 88, 89, 90, 91, 92, 93, 94, 95, 96, 97, 98, 99, 100] (by decide +kernel) (by decide +kernel)
set_option maxRecDepth 20000 in
theorem gX4_foresee_X4_fail : GoodIn wsX4_foresee (wsV RX4 65 RX4 yX4_fail wsX4_fail) := goodIn_app (goodIn_of _ (by decide +kernel)) ggX4_foresee_X4_fail
set_option maxRecDepth 20000 in
theorem ggX4_foresee_X4_nightOf : GoodIn wsX4_foresee wsX4_nightOf := goodIn_r _ [25, 2, 26, 27, 28, 12, 29, 30, 31, 32, 33, 34, 35, 36, 37, 38, 39, 40, 41, 42, 43, 44, 45, 46, 47, 48, 49, 50, 51, 52, 53, 87, 88, 89, 90, 91, 92, 93, 94, 95, 96, 97, 98, 99, 100] (by decide +kernel) (by decide +kernel)
set_option maxRecDepth 20000 in
theorem gX4_foresee_X4_nightOf : GoodIn wsX4_foresee (wsV RX4 144 RX4 yX4_nightOf wsX4_nightOf) := goodIn_app (goodIn_of _ (by decide +kernel)) ggX4_foresee_X4_nightOf
set_option maxRecDepth 20000 in
theorem ggX4_foresee_X4_feathers : GoodIn wsX4_foresee wsX4_feathers := goodIn_r _ [57, 2, 87, 88, 89, 90, 91, 92, 93, 94, 95, 96, 97, 98, 99, 100] (by decide +kernel) (by decide +kernel)
set_option maxRecDepth 20000 in
theorem gX4_foresee_X4_feathers : GoodIn wsX4_foresee (wsV RX4 132 RX4 yX4_feathers wsX4_feathers) := goodIn_app (goodIn_of _ (by decide +kernel)) ggX4_foresee_X4_feathers
set_option maxRecDepth 20000 in
theorem ggX4_foresee_X4_tickTold : GoodIn wsX4_foresee wsX4_tickTold := goodIn_r _ [61, 54, 55, 56, 12, 57, 2, 31, 32, 33, 34, 26, 27, 28, 29, 30, 62, 63, 64, 65, 50, 51, 52, 53, 66, 67, 68, 69, 70, 71, 72, 73, 35, 36, 37, 38, 39, 40, 41, 42, 43, 74, 75, 76, 77, 78, 87, 88, 89, 90, 91, 92, 93, 94, 95, 96, 97, 98, 99, 100] (by decide +kernel) (by decide +kernel)
set_option maxRecDepth 20000 in
theorem gX4_foresee_X4_tickTold : GoodIn wsX4_foresee (wsV RX4 141 RX4 yX4_tickTold wsX4_tickTold) := goodIn_app (goodIn_of _ (by decide +kernel)) ggX4_foresee_X4_tickTold
set_option maxRecDepth 20000 in
theorem ggX4_foresee_X4_bringBack : GoodIn wsX4_foresee wsX4_bringBack := goodIn_r _ [82, 2, 83, 84, 85, 86, 87, 88, 89, 90, 91, 92, 93, 94, 95, 96, 97, 98, 99, 100] (by decide +kernel) (by decide +kernel)
set_option maxRecDepth 20000 in
theorem gX4_foresee_X4_bringBack : GoodIn wsX4_foresee (wsV RX4 160 RX4 yX4_bringBack wsX4_bringBack) := goodIn_app (goodIn_of _ (by decide +kernel)) ggX4_foresee_X4_bringBack
theorem dX4_foresee_0 : decode cX4_foresee 0 = .ok (.aload_n 0, 1) := by decide +kernel
theorem dX4_foresee_1 : decode cX4_foresee 1 = .ok (.iconst 0, 1) := by decide +kernel
theorem dX4_foresee_2 : decode cX4_foresee 2 = .ok (.putfield 40, 3) := by decide +kernel
theorem dX4_foresee_5 : decode cX4_foresee 5 = .ok (.aload_n 0, 1) := by decide +kernel
theorem dX4_foresee_6 : decode cX4_foresee 6 = .ok (.iload_n 1, 1) := by decide +kernel
theorem dX4_foresee_7 : decode cX4_foresee 7 = .ok (.invokevirtual 57, 3) := by decide +kernel
theorem dX4_foresee_10 : decode cX4_foresee 10 = .ok (.ifCond .eq 12, 3) := by decide +kernel
theorem dX4_foresee_13 : decode cX4_foresee 13 = .ok (.iload_n 3, 1) := by decide +kernel
theorem dX4_foresee_14 : decode cX4_foresee 14 = .ok (.iconst 0, 1) := by decide +kernel
theorem dX4_foresee_15 : decode cX4_foresee 15 = .ok (.iconst 2, 1) := by decide +kernel
theorem dX4_foresee_16 : decode cX4_foresee 16 = .ok (.invokestatic 46, 3) := by decide +kernel
theorem dX4_foresee_19 : decode cX4_foresee 19 = .ok (.ifCond .ne 9, 3) := by decide +kernel
theorem dX4_foresee_22 : decode cX4_foresee 22 = .ok (.aload_n 0, 1) := by decide +kernel
theorem dX4_foresee_23 : decode cX4_foresee 23 = .ok (.iconst 1, 1) := by decide +kernel
theorem dX4_foresee_24 : decode cX4_foresee 24 = .ok (.invokevirtual 65, 3) := by decide +kernel
theorem dX4_foresee_27 : decode cX4_foresee 27 = .ok (.ireturn, 1) := by decide +kernel
theorem dX4_foresee_28 : decode cX4_foresee 28 = .ok (.iload_n 2, 1) := by decide +kernel
theorem dX4_foresee_29 : decode cX4_foresee 29 = .ok (.iconst 1, 1) := by decide +kernel
theorem dX4_foresee_30 : decode cX4_foresee 30 = .ok (.sipush 200, 3) := by decide +kernel
theorem dX4_foresee_33 : decode cX4_foresee 33 = .ok (.invokestatic 46, 3) := by decide +kernel
theorem dX4_foresee_36 : decode cX4_foresee 36 = .ok (.ifCond .ne 9, 3) := by decide +kernel
theorem dX4_foresee_39 : decode cX4_foresee 39 = .ok (.aload_n 0, 1) := by decide +kernel
theorem dX4_foresee_40 : decode cX4_foresee 40 = .ok (.iconst 2, 1) := by decide +kernel
theorem dX4_foresee_41 : decode cX4_foresee 41 = .ok (.invokevirtual 65, 3) := by decide +kernel
theorem dX4_foresee_44 : decode cX4_foresee 44 = .ok (.ireturn, 1) := by decide +kernel
theorem dX4_foresee_45 : decode cX4_foresee 45 = .ok (.aload_n 0, 1) := by decide +kernel
theorem dX4_foresee_46 : decode cX4_foresee 46 = .ok (.getfield 27, 3) := by decide +kernel
theorem dX4_foresee_49 : decode cX4_foresee 49 = .ok (.iload_n 1, 1) := by decide +kernel
theorem dX4_foresee_50 : decode cX4_foresee 50 = .ok (.aaload, 1) := by decide +kernel
theorem dX4_foresee_51 : decode cX4_foresee 51 = .ok (.invokevirtual 156, 3) := by decide +kernel
theorem dX4_foresee_54 : decode cX4_foresee 54 = .ok (.checkcast 26, 3) := by decide +kernel
theorem dX4_foresee_57 : decode cX4_foresee 57 = .ok (.astore 4, 2) := by decide +kernel
theorem dX4_foresee_59 : decode cX4_foresee 59 = .ok (.iconst 0, 1) := by decide +kernel
theorem dX4_foresee_60 : decode cX4_foresee 60 = .ok (.istore 5, 2) := by decide +kernel
theorem dX4_foresee_62 : decode cX4_foresee 62 = .ok (.iload 5, 2) := by decide +kernel
theorem dX4_foresee_64 : decode cX4_foresee 64 = .ok (.iload_n 2, 1) := by decide +kernel
theorem dX4_foresee_65 : decode cX4_foresee 65 = .ok (.if_icmp .ge 15, 3) := by decide +kernel
theorem dX4_foresee_68 : decode cX4_foresee 68 = .ok (.aload_n 0, 1) := by decide +kernel
theorem dX4_foresee_69 : decode cX4_foresee 69 = .ok (.iload_n 1, 1) := by decide +kernel
theorem dX4_foresee_70 : decode cX4_foresee 70 = .ok (.invokevirtual 144, 3) := by decide +kernel
theorem dX4_foresee_73 : decode cX4_foresee 73 = .ok (.pop, 1) := by decide +kernel
theorem dX4_foresee_74 : decode cX4_foresee 74 = .ok (.iinc 5 1, 3) := by decide +kernel
theorem dX4_foresee_77 : decode cX4_foresee 77 = .ok (.goto (-15), 3) := by decide +kernel
theorem dX4_foresee_80 : decode cX4_foresee 80 = .ok (.iload_n 3, 1) := by decide +kernel
theorem dX4_foresee_81 : decode cX4_foresee 81 = .ok (.ifCond .ne 11, 3) := by decide +kernel
theorem dX4_foresee_84 : decode cX4_foresee 84 = .ok (.aload_n 0, 1) := by decide +kernel
theorem dX4_foresee_85 : decode cX4_foresee 85 = .ok (.iload_n 1, 1) := by decide +kernel
theorem dX4_foresee_86 : decode cX4_foresee 86 = .ok (.invokevirtual 132, 3) := by decide +kernel
theorem dX4_foresee_89 : decode cX4_foresee 89 = .ok (.goto 11, 3) := by decide +kernel
theorem dX4_foresee_92 : decode cX4_foresee 92 = .ok (.aload_n 0, 1) := by decide +kernel
theorem dX4_foresee_93 : decode cX4_foresee 93 = .ok (.iload_n 1, 1) := by decide +kernel
theorem dX4_foresee_94 : decode cX4_foresee 94 = .ok (.iconst 4, 1) := by decide +kernel
theorem dX4_foresee_95 : decode cX4_foresee 95 = .ok (.iload_n 3, 1) := by decide +kernel
theorem dX4_foresee_96 : decode cX4_foresee 96 = .ok (.iadd, 1) := by decide +kernel
theorem dX4_foresee_97 : decode cX4_foresee 97 = .ok (.invokevirtual 141, 3) := by decide +kernel
theorem dX4_foresee_100 : decode cX4_foresee 100 = .ok (.istore 5, 2) := by decide +kernel
theorem dX4_foresee_102 : decode cX4_foresee 102 = .ok (.aload_n 0, 1) := by decide +kernel
theorem dX4_foresee_103 : decode cX4_foresee 103 = .ok (.iload_n 1, 1) := by decide +kernel
theorem dX4_foresee_104 : decode cX4_foresee 104 = .ok (.aload 4, 2) := by decide +kernel
theorem dX4_foresee_106 : decode cX4_foresee 106 = .ok (.invokevirtual 160, 3) := by decide +kernel
theorem dX4_foresee_109 : decode cX4_foresee 109 = .ok (.iload 5, 2) := by decide +kernel
theorem dX4_foresee_111 : decode cX4_foresee 111 = .ok (.ireturn, 1) := by decide +kernel
set_option maxRecDepth 20000 in
theorem ggX4_lasts_X4_isTick : GoodIn wsX4_lasts wsX4_isTick := goodIn_r _ [13, 14, 15, 16, 12, 17, 87, 88, 89, 90, 91, 92, 93, 94, 95, 96, 97, 98, 99, 100] (by decide +kernel) (by decide +kernel)
set_option maxRecDepth 20000 in
theorem gX4_lasts_X4_isTick : GoodIn wsX4_lasts (wsV RX4 57 RX4 yX4_isTick wsX4_isTick) := goodIn_app (goodIn_of _ (by decide +kernel)) ggX4_lasts_X4_isTick
set_option maxRecDepth 20000 in
theorem ggX4_lasts_X4_fail : GoodIn wsX4_lasts wsX4_fail := goodIn_r _ [21, 1, 87, 88, 89, 90, 91, 92, 93, 94, 95, 96, 97, 98, 99, 100] (by decide +kernel) (by decide +kernel)
set_option maxRecDepth 20000 in
theorem gX4_lasts_X4_fail : GoodIn wsX4_lasts (wsV RX4 65 RX4 yX4_fail wsX4_fail) := goodIn_app (goodIn_of _ (by decide +kernel)) ggX4_lasts_X4_fail
set_option maxRecDepth 20000 in
theorem ggX4_lasts_X4_isIn : GoodIn wsX4_lasts wsX4_isIn := goodIn_r _ [17] (by decide +kernel) (by decide +kernel)
set_option maxRecDepth 20000 in
theorem gX4_lasts_X4_isIn : GoodIn wsX4_lasts (va_wsS RX4 46 yX4_isIn wsX4_isIn) := goodIn_app (goodIn_of _ (by decide +kernel)) ggX4_lasts_X4_isIn
set_option maxRecDepth 20000 in
theorem ggX4_lasts_X4_tickTold : GoodIn wsX4_lasts wsX4_tickTold := goodIn_r _ [25, 26, 27, 28, 12, 29, 2, 30, 31, 32, 33, 34, 35, 36, 37, 38, 39, 40, 41, 42, 43, 44, 45, 46, 47, 48, 49, 50, 51, 52, 53, 54, 55, 56, 57, 58, 59, 60, 61, 62, 63, 64, 65, 66, 67, 68, 87, 88, 89, 90, 91, 92, 93, 94, 95, 96, 97, 98, 99, 100] (by decide +kernel) (by decide +kernel)
set_option maxRecDepth 20000 in
theorem gX4_lasts_X4_tickTold : GoodIn wsX4_lasts (wsV RX4 141 RX4 yX4_tickTold wsX4_tickTold) := goodIn_app (goodIn_of _ (by decide +kernel)) ggX4_lasts_X4_tickTold
set_option maxRecDepth 20000 in
theorem ggX4_lasts_X4_nightOf : GoodIn wsX4_lasts wsX4_nightOf := goodIn_r _ [72, 2, 34, 35, 36, 12, 37, 38, 30, 31, 32, 33, 55, 56, 57, 58, 59, 60, 61, 62, 63, 73, 74, 75, 76, 77, 78, 43, 44, 45, 46, 87, 88, 89, 90, 91, 92, 93, 94, 95, 96, 97, 98, 99, 100] (by decide +kernel) (by decide +kernel)
set_option maxRecDepth 20000 in
theorem gX4_lasts_X4_nightOf : GoodIn wsX4_lasts (wsV RX4 144 RX4 yX4_nightOf wsX4_nightOf) := goodIn_app (goodIn_of _ (by decide +kernel)) ggX4_lasts_X4_nightOf
set_option maxRecDepth 20000 in
theorem ggX4_lasts_X4_bringBack : GoodIn wsX4_lasts wsX4_bringBack := goodIn_r _ [82, 2, 83, 84, 85, 86, 87, 88, 89, 90, 91, 92, 93, 94, 95, 96, 97, 98, 99, 100] (by decide +kernel) (by decide +kernel)
set_option maxRecDepth 20000 in
theorem gX4_lasts_X4_bringBack : GoodIn wsX4_lasts (wsV RX4 160 RX4 yX4_bringBack wsX4_bringBack) := goodIn_app (goodIn_of _ (by decide +kernel)) ggX4_lasts_X4_bringBack
theorem dX4_lasts_0 : decode cX4_lasts 0 = .ok (.aload_n 0, 1) := by decide +kernel
theorem dX4_lasts_1 : decode cX4_lasts 1 = .ok (.iconst 0, 1) := by decide +kernel
theorem dX4_lasts_2 : decode cX4_lasts 2 = .ok (.putfield 40, 3) := by decide +kernel
theorem dX4_lasts_5 : decode cX4_lasts 5 = .ok (.aload_n 0, 1) := by decide +kernel
theorem dX4_lasts_6 : decode cX4_lasts 6 = .ok (.iload_n 1, 1) := by decide +kernel
theorem dX4_lasts_7 : decode cX4_lasts 7 = .ok (.invokevirtual 57, 3) := by decide +kernel
theorem dX4_lasts_10 : decode cX4_lasts 10 = .ok (.ifCond .ne 9, 3) := by decide +kernel
theorem dX4_lasts_13 : decode cX4_lasts 13 = .ok (.aload_n 0, 1) := by decide +kernel
theorem dX4_lasts_14 : decode cX4_lasts 14 = .ok (.iconst 1, 1) := by decide +kernel
theorem dX4_lasts_15 : decode cX4_lasts 15 = .ok (.invokevirtual 65, 3) := by decide +kernel
theorem dX4_lasts_18 : decode cX4_lasts 18 = .ok (.ireturn, 1) := by decide +kernel
theorem dX4_lasts_19 : decode cX4_lasts 19 = .ok (.iload_n 2, 1) := by decide +kernel
theorem dX4_lasts_20 : decode cX4_lasts 20 = .ok (.iconst 0, 1) := by decide +kernel
theorem dX4_lasts_21 : decode cX4_lasts 21 = .ok (.sipush 900, 3) := by decide +kernel
theorem dX4_lasts_24 : decode cX4_lasts 24 = .ok (.invokestatic 46, 3) := by decide +kernel
theorem dX4_lasts_27 : decode cX4_lasts 27 = .ok (.ifCond .ne 9, 3) := by decide +kernel
theorem dX4_lasts_30 : decode cX4_lasts 30 = .ok (.aload_n 0, 1) := by decide +kernel
theorem dX4_lasts_31 : decode cX4_lasts 31 = .ok (.iconst 2, 1) := by decide +kernel
theorem dX4_lasts_32 : decode cX4_lasts 32 = .ok (.invokevirtual 65, 3) := by decide +kernel
theorem dX4_lasts_35 : decode cX4_lasts 35 = .ok (.ireturn, 1) := by decide +kernel
theorem dX4_lasts_36 : decode cX4_lasts 36 = .ok (.aload_n 0, 1) := by decide +kernel
theorem dX4_lasts_37 : decode cX4_lasts 37 = .ok (.getfield 27, 3) := by decide +kernel
theorem dX4_lasts_40 : decode cX4_lasts 40 = .ok (.iload_n 1, 1) := by decide +kernel
theorem dX4_lasts_41 : decode cX4_lasts 41 = .ok (.aaload, 1) := by decide +kernel
theorem dX4_lasts_42 : decode cX4_lasts 42 = .ok (.invokevirtual 156, 3) := by decide +kernel
theorem dX4_lasts_45 : decode cX4_lasts 45 = .ok (.checkcast 26, 3) := by decide +kernel
theorem dX4_lasts_48 : decode cX4_lasts 48 = .ok (.astore_n 3, 1) := by decide +kernel
theorem dX4_lasts_49 : decode cX4_lasts 49 = .ok (.iconst 0, 1) := by decide +kernel
theorem dX4_lasts_50 : decode cX4_lasts 50 = .ok (.istore 4, 2) := by decide +kernel
theorem dX4_lasts_52 : decode cX4_lasts 52 = .ok (.iload 4, 2) := by decide +kernel
theorem dX4_lasts_54 : decode cX4_lasts 54 = .ok (.sipush 200, 3) := by decide +kernel
theorem dX4_lasts_57 : decode cX4_lasts 57 = .ok (.if_icmp .ge 25, 3) := by decide +kernel
theorem dX4_lasts_60 : decode cX4_lasts 60 = .ok (.aload_n 0, 1) := by decide +kernel
theorem dX4_lasts_61 : decode cX4_lasts 61 = .ok (.iload_n 1, 1) := by decide +kernel
theorem dX4_lasts_62 : decode cX4_lasts 62 = .ok (.iconst 5, 1) := by decide +kernel
theorem dX4_lasts_63 : decode cX4_lasts 63 = .ok (.invokevirtual 141, 3) := by decide +kernel
theorem dX4_lasts_66 : decode cX4_lasts 66 = .ok (.iload_n 2, 1) := by decide +kernel
theorem dX4_lasts_67 : decode cX4_lasts 67 = .ok (.if_icmp .lt 15, 3) := by decide +kernel
theorem dX4_lasts_70 : decode cX4_lasts 70 = .ok (.aload_n 0, 1) := by decide +kernel
theorem dX4_lasts_71 : decode cX4_lasts 71 = .ok (.iload_n 1, 1) := by decide +kernel
theorem dX4_lasts_72 : decode cX4_lasts 72 = .ok (.invokevirtual 144, 3) := by decide +kernel
theorem dX4_lasts_75 : decode cX4_lasts 75 = .ok (.pop, 1) := by decide +kernel
theorem dX4_lasts_76 : decode cX4_lasts 76 = .ok (.iinc 4 1, 3) := by decide +kernel
theorem dX4_lasts_79 : decode cX4_lasts 79 = .ok (.goto (-27), 3) := by decide +kernel
theorem dX4_lasts_82 : decode cX4_lasts 82 = .ok (.aload_n 0, 1) := by decide +kernel
theorem dX4_lasts_83 : decode cX4_lasts 83 = .ok (.iload_n 1, 1) := by decide +kernel
theorem dX4_lasts_84 : decode cX4_lasts 84 = .ok (.iconst 5, 1) := by decide +kernel
theorem dX4_lasts_85 : decode cX4_lasts 85 = .ok (.invokevirtual 141, 3) := by decide +kernel
theorem dX4_lasts_88 : decode cX4_lasts 88 = .ok (.iload_n 2, 1) := by decide +kernel
theorem dX4_lasts_89 : decode cX4_lasts 89 = .ok (.if_icmp .lt 6, 3) := by decide +kernel
theorem dX4_lasts_92 : decode cX4_lasts 92 = .ok (.iconst (-1), 1) := by decide +kernel
theorem dX4_lasts_93 : decode cX4_lasts 93 = .ok (.istore 4, 2) := by decide +kernel
theorem dX4_lasts_95 : decode cX4_lasts 95 = .ok (.aload_n 0, 1) := by decide +kernel
theorem dX4_lasts_96 : decode cX4_lasts 96 = .ok (.iload_n 1, 1) := by decide +kernel
theorem dX4_lasts_97 : decode cX4_lasts 97 = .ok (.aload_n 3, 1) := by decide +kernel
theorem dX4_lasts_98 : decode cX4_lasts 98 = .ok (.invokevirtual 160, 3) := by decide +kernel
theorem dX4_lasts_101 : decode cX4_lasts 101 = .ok (.iload 4, 2) := by decide +kernel
theorem dX4_lasts_103 : decode cX4_lasts 103 = .ok (.ireturn, 1) := by decide +kernel
set_option maxRecDepth 20000 in
theorem ggX4_coldBehind_X4_nightOf : GoodIn wsX4_coldBehind wsX4_nightOf := goodIn_r _ [5, 6, 7, 8, 9, 4, 10, 11, 12, 13, 14, 15, 16, 17, 18, 19, 20, 21, 22, 23, 24, 25, 26, 27, 28, 29, 30, 31, 32, 33, 34, 68, 69, 70, 71, 72, 73, 74, 75, 76, 77, 78, 79, 80, 81] (by decide +kernel) (by decide +kernel)
set_option maxRecDepth 20000 in
theorem gX4_coldBehind_X4_nightOf : GoodIn wsX4_coldBehind (wsV RX4 144 RX4 yX4_nightOf wsX4_nightOf) := goodIn_app (goodIn_of _ (by decide +kernel)) ggX4_coldBehind_X4_nightOf
set_option maxRecDepth 20000 in
theorem ggX4_coldBehind_X4_tickTold : GoodIn wsX4_coldBehind wsX4_tickTold := goodIn_r _ [38, 39, 40, 41, 4, 42, 6, 12, 13, 14, 15, 7, 8, 9, 10, 11, 43, 44, 45, 46, 31, 32, 33, 34, 47, 48, 49, 50, 51, 52, 53, 54, 16, 17, 18, 19, 20, 21, 22, 23, 24, 55, 56, 57, 58, 59, 68, 69, 70, 71, 72, 73, 74, 75, 76, 77, 78, 79, 80, 81] (by decide +kernel) (by decide +kernel)
set_option maxRecDepth 20000 in
theorem gX4_coldBehind_X4_tickTold : GoodIn wsX4_coldBehind (wsV RX4 141 RX4 yX4_tickTold wsX4_tickTold) := goodIn_app (goodIn_of _ (by decide +kernel)) ggX4_coldBehind_X4_tickTold
set_option maxRecDepth 20000 in
theorem ggX4_coldBehind_X4_bringBack : GoodIn wsX4_coldBehind wsX4_bringBack := goodIn_r _ [63, 6, 64, 65, 66, 67, 68, 69, 70, 71, 72, 73, 74, 75, 76, 77, 78, 79, 80, 81] (by decide +kernel) (by decide +kernel)
set_option maxRecDepth 20000 in
theorem gX4_coldBehind_X4_bringBack : GoodIn wsX4_coldBehind (wsV RX4 160 RX4 yX4_bringBack wsX4_bringBack) := goodIn_app (goodIn_of _ (by decide +kernel)) ggX4_coldBehind_X4_bringBack
theorem dX4_coldBehind_0 : decode cX4_coldBehind 0 = .ok (.iconst 0, 1) := by decide +kernel
theorem dX4_coldBehind_1 : decode cX4_coldBehind 1 = .ok (.istore 4, 2) := by decide +kernel
theorem dX4_coldBehind_3 : decode cX4_coldBehind 3 = .ok (.iload 4, 2) := by decide +kernel
theorem dX4_coldBehind_5 : decode cX4_coldBehind 5 = .ok (.iload_n 2, 1) := by decide +kernel
theorem dX4_coldBehind_6 : decode cX4_coldBehind 6 = .ok (.if_icmp .ge 15, 3) := by decide +kernel
theorem dX4_coldBehind_9 : decode cX4_coldBehind 9 = .ok (.aload_n 0, 1) := by decide +kernel
theorem dX4_coldBehind_10 : decode cX4_coldBehind 10 = .ok (.iload_n 1, 1) := by decide +kernel
theorem dX4_coldBehind_11 : decode cX4_coldBehind 11 = .ok (.invokevirtual 144, 3) := by decide +kernel
theorem dX4_coldBehind_14 : decode cX4_coldBehind 14 = .ok (.pop, 1) := by decide +kernel
theorem dX4_coldBehind_15 : decode cX4_coldBehind 15 = .ok (.iinc 4 1, 3) := by decide +kernel
theorem dX4_coldBehind_18 : decode cX4_coldBehind 18 = .ok (.goto (-15), 3) := by decide +kernel
theorem dX4_coldBehind_21 : decode cX4_coldBehind 21 = .ok (.aload_n 0, 1) := by decide +kernel
theorem dX4_coldBehind_22 : decode cX4_coldBehind 22 = .ok (.iload_n 1, 1) := by decide +kernel
theorem dX4_coldBehind_23 : decode cX4_coldBehind 23 = .ok (.iconst 5, 1) := by decide +kernel
theorem dX4_coldBehind_24 : decode cX4_coldBehind 24 = .ok (.invokevirtual 141, 3) := by decide +kernel
theorem dX4_coldBehind_27 : decode cX4_coldBehind 27 = .ok (.istore 4, 2) := by decide +kernel
theorem dX4_coldBehind_29 : decode cX4_coldBehind 29 = .ok (.aload_n 0, 1) := by decide +kernel
theorem dX4_coldBehind_30 : decode cX4_coldBehind 30 = .ok (.iload_n 1, 1) := by decide +kernel
theorem dX4_coldBehind_31 : decode cX4_coldBehind 31 = .ok (.aload_n 3, 1) := by decide +kernel
theorem dX4_coldBehind_32 : decode cX4_coldBehind 32 = .ok (.invokevirtual 160, 3) := by decide +kernel
theorem dX4_coldBehind_35 : decode cX4_coldBehind 35 = .ok (.iload 4, 2) := by decide +kernel
theorem dX4_coldBehind_37 : decode cX4_coldBehind 37 = .ok (.ireturn, 1) := by decide +kernel
set_option maxRecDepth 20000 in
theorem ggX4_advise_X4_isTick : GoodIn wsX4_advise wsX4_isTick := goodIn_r _ [14, 15, 16, 17, 13, 18, 91, 92, 93, 94, 95, 96, 97, 98, 99, 100, 101, 102, 103, 104] (by decide +kernel) (by decide +kernel)
set_option maxRecDepth 20000 in
theorem gX4_advise_X4_isTick : GoodIn wsX4_advise (wsV RX4 57 RX4 yX4_isTick wsX4_isTick) := goodIn_app (goodIn_of _ (by decide +kernel)) ggX4_advise_X4_isTick
set_option maxRecDepth 20000 in
theorem ggX4_advise_X4_fail : GoodIn wsX4_advise wsX4_fail := goodIn_r _ [22, 1, 91, 92, 93, 94, 95, 96, 97, 98, 99, 100, 101, 102, 103, 104] (by decide +kernel) (by decide +kernel)
set_option maxRecDepth 20000 in
theorem gX4_advise_X4_fail : GoodIn wsX4_advise (wsV RX4 65 RX4 yX4_fail wsX4_fail) := goodIn_app (goodIn_of _ (by decide +kernel)) ggX4_advise_X4_fail
set_option maxRecDepth 20000 in
theorem ggX4_advise_X4_isIn : GoodIn wsX4_advise wsX4_isIn := goodIn_r _ [18] (by decide +kernel) (by decide +kernel)
set_option maxRecDepth 20000 in
theorem gX4_advise_X4_isIn : GoodIn wsX4_advise (va_wsS RX4 46 yX4_isIn wsX4_isIn) := goodIn_app (goodIn_of _ (by decide +kernel)) ggX4_advise_X4_isIn
set_option maxRecDepth 20000 in
theorem ggX4_advise_X4_coldBehind : GoodIn wsX4_advise wsX4_coldBehind := goodIn_r _ [26, 27, 28, 29, 13, 30, 2, 31, 32, 33, 34, 35, 36, 37, 38, 39, 40, 41, 42, 43, 9, 44, 45, 46, 47, 48, 49, 50, 51, 52, 53, 54, 55, 56, 57, 58, 59, 60, 61, 62, 63, 64, 65, 66, 67, 68, 69, 70, 71, 72, 73, 74, 75, 76, 77, 78, 79, 80, 81, 82, 83, 84, 85, 86, 87, 88, 89, 90, 91, 92, 93, 94, 95, 96, 97, 98, 99, 100, 101, 102, 103, 104] (by decide +kernel) (by decide +kernel)
set_option maxRecDepth 20000 in
theorem gX4_advise_X4_coldBehind : GoodIn wsX4_advise (wsV RX4 164 RX4 yX4_coldBehind wsX4_coldBehind) := goodIn_app (goodIn_of _ (by decide +kernel)) ggX4_advise_X4_coldBehind
set_option maxRecDepth 20000 in
theorem ggX4_advise_X4_squaresOf : GoodIn wsX4_advise wsX4_squaresOf := goodIn_r _ [39, 31, 32, 33, 13, 34, 35, 91, 92, 93, 94, 95, 96, 97, 98, 99, 100, 101, 102, 103, 104] (by decide +kernel) (by decide +kernel)
set_option maxRecDepth 20000 in
theorem gX4_advise_X4_squaresOf : GoodIn wsX4_advise (wsV RX4 61 RX4 yX4_squaresOf wsX4_squaresOf) := goodIn_app (goodIn_of _ (by decide +kernel)) ggX4_advise_X4_squaresOf
set_option maxRecDepth 20000 in
theorem ggX4_advise_X4_isOpen : GoodIn wsX4_advise wsX4_isOpen := goodIn_r _ [43, 9, 44, 45, 46, 13, 47, 31, 32, 33, 34, 35, 36, 37, 38, 39, 91, 92, 93, 94, 95, 96, 97, 98, 99, 100, 101, 102, 103, 104] (by decide +kernel) (by decide +kernel)
set_option maxRecDepth 20000 in
theorem gX4_advise_X4_isOpen : GoodIn wsX4_advise (wsV RX4 108 RX4 yX4_isOpen wsX4_isOpen) := goodIn_app (goodIn_of _ (by decide +kernel)) ggX4_advise_X4_isOpen
theorem dX4_advise_0 : decode cX4_advise 0 = .ok (.aload_n 0, 1) := by decide +kernel
theorem dX4_advise_1 : decode cX4_advise 1 = .ok (.iconst 0, 1) := by decide +kernel
theorem dX4_advise_2 : decode cX4_advise 2 = .ok (.putfield 40, 3) := by decide +kernel
theorem dX4_advise_5 : decode cX4_advise 5 = .ok (.aload_n 0, 1) := by decide +kernel
theorem dX4_advise_6 : decode cX4_advise 6 = .ok (.iload_n 1, 1) := by decide +kernel
theorem dX4_advise_7 : decode cX4_advise 7 = .ok (.invokevirtual 57, 3) := by decide +kernel
theorem dX4_advise_10 : decode cX4_advise 10 = .ok (.ifCond .ne 9, 3) := by decide +kernel
theorem dX4_advise_13 : decode cX4_advise 13 = .ok (.aload_n 0, 1) := by decide +kernel
theorem dX4_advise_14 : decode cX4_advise 14 = .ok (.iconst 1, 1) := by decide +kernel
theorem dX4_advise_15 : decode cX4_advise 15 = .ok (.invokevirtual 65, 3) := by decide +kernel
theorem dX4_advise_18 : decode cX4_advise 18 = .ok (.ireturn, 1) := by decide +kernel
theorem dX4_advise_19 : decode cX4_advise 19 = .ok (.iload_n 2, 1) := by decide +kernel
theorem dX4_advise_20 : decode cX4_advise 20 = .ok (.iconst 1, 1) := by decide +kernel
theorem dX4_advise_21 : decode cX4_advise 21 = .ok (.bipush 60, 2) := by decide +kernel
theorem dX4_advise_23 : decode cX4_advise 23 = .ok (.invokestatic 46, 3) := by decide +kernel
theorem dX4_advise_26 : decode cX4_advise 26 = .ok (.ifCond .ne 9, 3) := by decide +kernel
theorem dX4_advise_29 : decode cX4_advise 29 = .ok (.aload_n 0, 1) := by decide +kernel
theorem dX4_advise_30 : decode cX4_advise 30 = .ok (.iconst 2, 1) := by decide +kernel
theorem dX4_advise_31 : decode cX4_advise 31 = .ok (.invokevirtual 65, 3) := by decide +kernel
theorem dX4_advise_34 : decode cX4_advise 34 = .ok (.ireturn, 1) := by decide +kernel
theorem dX4_advise_35 : decode cX4_advise 35 = .ok (.aload_n 0, 1) := by decide +kernel
theorem dX4_advise_36 : decode cX4_advise 36 = .ok (.getfield 27, 3) := by decide +kernel
theorem dX4_advise_39 : decode cX4_advise 39 = .ok (.iload_n 1, 1) := by decide +kernel
theorem dX4_advise_40 : decode cX4_advise 40 = .ok (.aaload, 1) := by decide +kernel
theorem dX4_advise_41 : decode cX4_advise 41 = .ok (.invokevirtual 156, 3) := by decide +kernel
theorem dX4_advise_44 : decode cX4_advise 44 = .ok (.checkcast 26, 3) := by decide +kernel
theorem dX4_advise_47 : decode cX4_advise 47 = .ok (.astore_n 3, 1) := by decide +kernel
theorem dX4_advise_48 : decode cX4_advise 48 = .ok (.iconst (-1), 1) := by decide +kernel
theorem dX4_advise_49 : decode cX4_advise 49 = .ok (.istore 4, 2) := by decide +kernel
theorem dX4_advise_51 : decode cX4_advise 51 = .ok (.aload_n 0, 1) := by decide +kernel
theorem dX4_advise_52 : decode cX4_advise 52 = .ok (.iload_n 1, 1) := by decide +kernel
theorem dX4_advise_53 : decode cX4_advise 53 = .ok (.iload_n 2, 1) := by decide +kernel
theorem dX4_advise_54 : decode cX4_advise 54 = .ok (.aload_n 3, 1) := by decide +kernel
theorem dX4_advise_55 : decode cX4_advise 55 = .ok (.invokevirtual 164, 3) := by decide +kernel
theorem dX4_advise_58 : decode cX4_advise 58 = .ok (.istore 5, 2) := by decide +kernel
theorem dX4_advise_60 : decode cX4_advise 60 = .ok (.iconst 0, 1) := by decide +kernel
theorem dX4_advise_61 : decode cX4_advise 61 = .ok (.istore 6, 2) := by decide +kernel
theorem dX4_advise_63 : decode cX4_advise 63 = .ok (.iload 6, 2) := by decide +kernel
theorem dX4_advise_65 : decode cX4_advise 65 = .ok (.iconst 2, 1) := by decide +kernel
theorem dX4_advise_66 : decode cX4_advise 66 = .ok (.aload_n 0, 1) := by decide +kernel
theorem dX4_advise_67 : decode cX4_advise 67 = .ok (.iload_n 1, 1) := by decide +kernel
theorem dX4_advise_68 : decode cX4_advise 68 = .ok (.invokevirtual 61, 3) := by decide +kernel
theorem dX4_advise_71 : decode cX4_advise 71 = .ok (.imul, 1) := by decide +kernel
theorem dX4_advise_72 : decode cX4_advise 72 = .ok (.if_icmp .ge 75, 3) := by decide +kernel
theorem dX4_advise_75 : decode cX4_advise 75 = .ok (.aload_n 0, 1) := by decide +kernel
theorem dX4_advise_76 : decode cX4_advise 76 = .ok (.iload_n 1, 1) := by decide +kernel
theorem dX4_advise_77 : decode cX4_advise 77 = .ok (.iload 6, 2) := by decide +kernel
theorem dX4_advise_79 : decode cX4_advise 79 = .ok (.iconst 2, 1) := by decide +kernel
theorem dX4_advise_80 : decode cX4_advise 80 = .ok (.idiv, 1) := by decide +kernel
theorem dX4_advise_81 : decode cX4_advise 81 = .ok (.iload 6, 2) := by decide +kernel
theorem dX4_advise_83 : decode cX4_advise 83 = .ok (.iconst 2, 1) := by decide +kernel
theorem dX4_advise_84 : decode cX4_advise 84 = .ok (.irem, 1) := by decide +kernel
theorem dX4_advise_85 : decode cX4_advise 85 = .ok (.invokevirtual 108, 3) := by decide +kernel
theorem dX4_advise_88 : decode cX4_advise 88 = .ok (.ifCond .ne 6, 3) := by decide +kernel
theorem dX4_advise_91 : decode cX4_advise 91 = .ok (.goto 50, 3) := by decide +kernel
theorem dX4_advise_94 : decode cX4_advise 94 = .ok (.aload_n 0, 1) := by decide +kernel
theorem dX4_advise_95 : decode cX4_advise 95 = .ok (.getfield 33, 3) := by decide +kernel
theorem dX4_advise_98 : decode cX4_advise 98 = .ok (.iload_n 1, 1) := by decide +kernel
theorem dX4_advise_99 : decode cX4_advise 99 = .ok (.aaload, 1) := by decide +kernel
theorem dX4_advise_100 : decode cX4_advise 100 = .ok (.iload 6, 2) := by decide +kernel
theorem dX4_advise_102 : decode cX4_advise 102 = .ok (.iconst 1, 1) := by decide +kernel
theorem dX4_advise_103 : decode cX4_advise 103 = .ok (.bastore, 1) := by decide +kernel
theorem dX4_advise_104 : decode cX4_advise 104 = .ok (.aload_n 0, 1) := by decide +kernel
theorem dX4_advise_105 : decode cX4_advise 105 = .ok (.iload_n 1, 1) := by decide +kernel
theorem dX4_advise_106 : decode cX4_advise 106 = .ok (.iload_n 2, 1) := by decide +kernel
theorem dX4_advise_107 : decode cX4_advise 107 = .ok (.aload_n 3, 1) := by decide +kernel
theorem dX4_advise_108 : decode cX4_advise 108 = .ok (.invokevirtual 164, 3) := by decide +kernel
theorem dX4_advise_111 : decode cX4_advise 111 = .ok (.istore 7, 2) := by decide +kernel
theorem dX4_advise_113 : decode cX4_advise 113 = .ok (.aload_n 0, 1) := by decide +kernel
theorem dX4_advise_114 : decode cX4_advise 114 = .ok (.getfield 33, 3) := by decide +kernel
theorem dX4_advise_117 : decode cX4_advise 117 = .ok (.iload_n 1, 1) := by decide +kernel
theorem dX4_advise_118 : decode cX4_advise 118 = .ok (.aaload, 1) := by decide +kernel
theorem dX4_advise_119 : decode cX4_advise 119 = .ok (.iload 6, 2) := by decide +kernel
theorem dX4_advise_121 : decode cX4_advise 121 = .ok (.iconst 0, 1) := by decide +kernel
theorem dX4_advise_122 : decode cX4_advise 122 = .ok (.bastore, 1) := by decide +kernel
theorem dX4_advise_123 : decode cX4_advise 123 = .ok (.iload 7, 2) := by decide +kernel
theorem dX4_advise_125 : decode cX4_advise 125 = .ok (.iload 5, 2) := by decide +kernel
theorem dX4_advise_127 : decode cX4_advise 127 = .ok (.if_icmp .gt 6, 3) := by decide +kernel
theorem dX4_advise_130 : decode cX4_advise 130 = .ok (.goto 11, 3) := by decide +kernel
theorem dX4_advise_133 : decode cX4_advise 133 = .ok (.iload 6, 2) := by decide +kernel
theorem dX4_advise_135 : decode cX4_advise 135 = .ok (.istore 4, 2) := by decide +kernel
theorem dX4_advise_137 : decode cX4_advise 137 = .ok (.iload 7, 2) := by decide +kernel
theorem dX4_advise_139 : decode cX4_advise 139 = .ok (.istore 5, 2) := by decide +kernel
theorem dX4_advise_141 : decode cX4_advise 141 = .ok (.iinc 6 1, 3) := by decide +kernel
theorem dX4_advise_144 : decode cX4_advise 144 = .ok (.goto (-81), 3) := by decide +kernel
theorem dX4_advise_147 : decode cX4_advise 147 = .ok (.iload 4, 2) := by decide +kernel
theorem dX4_advise_149 : decode cX4_advise 149 = .ok (.ireturn, 1) := by decide +kernel
set_option maxRecDepth 20000 in
theorem ggX4_filled_X4_counted : GoodIn wsX4_filled wsX4_counted := goodIn_r _ [6, 7, 8, 9, 10, 11, 12, 13, 14, 15, 16, 17, 5, 18, 19, 20, 21, 22, 23, 24, 25, 26, 27, 28, 29, 30, 31, 32, 33] (by decide +kernel) (by decide +kernel)
set_option maxRecDepth 20000 in
theorem gX4_filled_X4_counted : GoodIn wsX4_filled (wsV RX4 153 RX4 yX4_counted wsX4_counted) := goodIn_app (goodIn_of _ (by decide +kernel)) ggX4_filled_X4_counted
theorem dX4_filled_0 : decode cX4_filled 0 = .ok (.aload_n 0, 1) := by decide +kernel
theorem dX4_filled_1 : decode cX4_filled 1 = .ok (.iconst 0, 1) := by decide +kernel
theorem dX4_filled_2 : decode cX4_filled 2 = .ok (.putfield 40, 3) := by decide +kernel
theorem dX4_filled_5 : decode cX4_filled 5 = .ok (.aload_n 0, 1) := by decide +kernel
theorem dX4_filled_6 : decode cX4_filled 6 = .ok (.iconst 3, 1) := by decide +kernel
theorem dX4_filled_7 : decode cX4_filled 7 = .ok (.invokevirtual 153, 3) := by decide +kernel
theorem dX4_filled_10 : decode cX4_filled 10 = .ok (.aload_n 0, 1) := by decide +kernel
theorem dX4_filled_11 : decode cX4_filled 11 = .ok (.iconst 4, 1) := by decide +kernel
theorem dX4_filled_12 : decode cX4_filled 12 = .ok (.invokevirtual 153, 3) := by decide +kernel
theorem dX4_filled_15 : decode cX4_filled 15 = .ok (.iadd, 1) := by decide +kernel
theorem dX4_filled_16 : decode cX4_filled 16 = .ok (.aload_n 0, 1) := by decide +kernel
theorem dX4_filled_17 : decode cX4_filled 17 = .ok (.iconst 5, 1) := by decide +kernel
theorem dX4_filled_18 : decode cX4_filled 18 = .ok (.invokevirtual 153, 3) := by decide +kernel
theorem dX4_filled_21 : decode cX4_filled 21 = .ok (.iadd, 1) := by decide +kernel
theorem dX4_filled_22 : decode cX4_filled 22 = .ok (.istore_n 1, 1) := by decide +kernel
theorem dX4_filled_23 : decode cX4_filled 23 = .ok (.iload_n 1, 1) := by decide +kernel
theorem dX4_filled_24 : decode cX4_filled 24 = .ok (.ifCond .ne 7, 3) := by decide +kernel
theorem dX4_filled_27 : decode cX4_filled 27 = .ok (.dconst 0, 1) := by decide +kernel
theorem dX4_filled_28 : decode cX4_filled 28 = .ok (.goto 12, 3) := by decide +kernel
theorem dX4_filled_31 : decode cX4_filled 31 = .ok (.aload_n 0, 1) := by decide +kernel
theorem dX4_filled_32 : decode cX4_filled 32 = .ok (.iconst 5, 1) := by decide +kernel
theorem dX4_filled_33 : decode cX4_filled 33 = .ok (.invokevirtual 153, 3) := by decide +kernel
theorem dX4_filled_36 : decode cX4_filled 36 = .ok (.i2d, 1) := by decide +kernel
theorem dX4_filled_37 : decode cX4_filled 37 = .ok (.iload_n 1, 1) := by decide +kernel
theorem dX4_filled_38 : decode cX4_filled 38 = .ok (.i2d, 1) := by decide +kernel
theorem dX4_filled_39 : decode cX4_filled 39 = .ok (.ddiv, 1) := by decide +kernel
theorem dX4_filled_40 : decode cX4_filled 40 = .ok (.dreturn, 1) := by decide +kernel
set_option maxRecDepth 20000 in
theorem ggX4_digest_X4_counted : GoodIn wsX4_digest wsX4_counted := goodIn_r _ [10, 11, 4, 5, 12, 13, 14, 15, 16, 17, 18, 19, 9, 20, 21, 81, 82, 83, 84, 85, 86, 87, 88, 89, 90, 91, 92, 93, 94] (by decide +kernel) (by decide +kernel)
set_option maxRecDepth 20000 in
theorem gX4_digest_X4_counted : GoodIn wsX4_digest (wsV RX4 153 RX4 yX4_counted wsX4_counted) := goodIn_app (goodIn_of _ (by decide +kernel)) ggX4_digest_X4_counted
set_option maxRecDepth 20000 in
theorem ggX4_digest_X4_sackTold : GoodIn wsX4_digest wsX4_sackTold := goodIn_r _ [25, 12, 26, 27, 28, 9, 29, 81, 82, 83, 84, 85, 86, 87, 88, 89, 90, 91, 92, 93, 94] (by decide +kernel) (by decide +kernel)
set_option maxRecDepth 20000 in
theorem gX4_digest_X4_sackTold : GoodIn wsX4_digest (wsV RX4 80 RX4 yX4_sackTold wsX4_sackTold) := goodIn_app (goodIn_of _ (by decide +kernel)) ggX4_digest_X4_sackTold
set_option maxRecDepth 20000 in
theorem ggX4_digest_X4_chamberTold : GoodIn wsX4_digest wsX4_chamberTold := goodIn_r _ [33, 13, 27, 28, 9, 29, 81, 82, 83, 84, 85, 86, 87, 88, 89, 90, 91, 92, 93, 94] (by decide +kernel) (by decide +kernel)
set_option maxRecDepth 20000 in
theorem gX4_digest_X4_chamberTold : GoodIn wsX4_digest (wsV RX4 96 RX4 yX4_chamberTold wsX4_chamberTold) := goodIn_app (goodIn_of _ (by decide +kernel)) ggX4_digest_X4_chamberTold
set_option maxRecDepth 20000 in
theorem ggX4_digest_X4_tickTold : GoodIn wsX4_digest wsX4_tickTold := goodIn_r _ [37, 17, 18, 19, 9, 20, 21, 38, 39, 40, 41, 42, 43, 44, 45, 46, 47, 48, 49, 50, 51, 52, 53, 54, 55, 56, 57, 58, 59, 60, 61, 62, 63, 64, 65, 66, 67, 68, 69, 70, 71, 72, 73, 74, 75, 76, 81, 82, 83, 84, 85, 86, 87, 88, 89, 90, 91, 92, 93, 94] (by decide +kernel) (by decide +kernel)
set_option maxRecDepth 20000 in
theorem gX4_digest_X4_tickTold : GoodIn wsX4_digest (wsV RX4 141 RX4 yX4_tickTold wsX4_tickTold) := goodIn_app (goodIn_of _ (by decide +kernel)) ggX4_digest_X4_tickTold
set_option maxRecDepth 20000 in
theorem ggX4_digest_X4_squaresOf : GoodIn wsX4_digest wsX4_squaresOf := goodIn_r _ [41, 42, 43, 44, 9, 45, 46, 81, 82, 83, 84, 85, 86, 87, 88, 89, 90, 91, 92, 93, 94] (by decide +kernel) (by decide +kernel)
set_option maxRecDepth 20000 in
theorem gX4_digest_X4_squaresOf : GoodIn wsX4_digest (wsV RX4 61 RX4 yX4_squaresOf wsX4_squaresOf) := goodIn_app (goodIn_of _ (by decide +kernel)) ggX4_digest_X4_squaresOf
set_option maxRecDepth 20000 in
theorem ggX4_digest_X4_squareTold : GoodIn wsX4_digest wsX4_squareTold := goodIn_r _ [80, 21, 27, 28, 9, 29, 47, 48, 49, 50, 51, 52, 53, 54, 63, 64, 65, 66, 67, 68, 69, 70, 71, 42, 43, 44, 45, 46, 38, 39, 40, 41, 81, 82, 83, 84, 85, 86, 87, 88, 89, 90, 91, 92, 93, 94] (by decide +kernel) (by decide +kernel)
set_option maxRecDepth 20000 in
theorem gX4_digest_X4_squareTold : GoodIn wsX4_digest (wsV RX4 129 RX4 yX4_squareTold wsX4_squareTold) := goodIn_app (goodIn_of _ (by decide +kernel)) ggX4_digest_X4_squareTold
theorem dX4_digest_0 : decode cX4_digest 0 = .ok (.aload_n 0, 1) := by decide +kernel
theorem dX4_digest_1 : decode cX4_digest 1 = .ok (.iconst 0, 1) := by decide +kernel
theorem dX4_digest_2 : decode cX4_digest 2 = .ok (.putfield 40, 3) := by decide +kernel
theorem dX4_digest_5 : decode cX4_digest 5 = .ok (.ldc2_w 168, 3) := by decide +kernel
theorem dX4_digest_8 : decode cX4_digest 8 = .ok (.lstore_n 1, 1) := by decide +kernel
theorem dX4_digest_9 : decode cX4_digest 9 = .ok (.iconst 0, 1) := by decide +kernel
theorem dX4_digest_10 : decode cX4_digest 10 = .ok (.istore_n 3, 1) := by decide +kernel
theorem dX4_digest_11 : decode cX4_digest 11 = .ok (.iload_n 3, 1) := by decide +kernel
theorem dX4_digest_12 : decode cX4_digest 12 = .ok (.bipush 9, 2) := by decide +kernel
theorem dX4_digest_14 : decode cX4_digest 14 = .ok (.if_icmp .ge 22, 3) := by decide +kernel
theorem dX4_digest_17 : decode cX4_digest 17 = .ok (.lload_n 1, 1) := by decide +kernel
theorem dX4_digest_18 : decode cX4_digest 18 = .ok (.ldc2_w 170, 3) := by decide +kernel
theorem dX4_digest_21 : decode cX4_digest 21 = .ok (.lmul, 1) := by decide +kernel
theorem dX4_digest_22 : decode cX4_digest 22 = .ok (.aload_n 0, 1) := by decide +kernel
theorem dX4_digest_23 : decode cX4_digest 23 = .ok (.iload_n 3, 1) := by decide +kernel
theorem dX4_digest_24 : decode cX4_digest 24 = .ok (.invokevirtual 153, 3) := by decide +kernel
theorem dX4_digest_27 : decode cX4_digest 27 = .ok (.i2l, 1) := by decide +kernel
theorem dX4_digest_28 : decode cX4_digest 28 = .ok (.ladd, 1) := by decide +kernel
theorem dX4_digest_29 : decode cX4_digest 29 = .ok (.lstore_n 1, 1) := by decide +kernel
theorem dX4_digest_30 : decode cX4_digest 30 = .ok (.iinc 3 1, 3) := by decide +kernel
theorem dX4_digest_33 : decode cX4_digest 33 = .ok (.goto (-22), 3) := by decide +kernel
theorem dX4_digest_36 : decode cX4_digest 36 = .ok (.iconst 0, 1) := by decide +kernel
theorem dX4_digest_37 : decode cX4_digest 37 = .ok (.istore_n 3, 1) := by decide +kernel
theorem dX4_digest_38 : decode cX4_digest 38 = .ok (.iload_n 3, 1) := by decide +kernel
theorem dX4_digest_39 : decode cX4_digest 39 = .ok (.aload_n 0, 1) := by decide +kernel
theorem dX4_digest_40 : decode cX4_digest 40 = .ok (.getfield 43, 3) := by decide +kernel
theorem dX4_digest_43 : decode cX4_digest 43 = .ok (.if_icmp .ge 40, 3) := by decide +kernel
theorem dX4_digest_46 : decode cX4_digest 46 = .ok (.iconst 0, 1) := by decide +kernel
theorem dX4_digest_47 : decode cX4_digest 47 = .ok (.istore 4, 2) := by decide +kernel
theorem dX4_digest_49 : decode cX4_digest 49 = .ok (.iload 4, 2) := by decide +kernel
theorem dX4_digest_51 : decode cX4_digest 51 = .ok (.bipush 8, 2) := by decide +kernel
theorem dX4_digest_53 : decode cX4_digest 53 = .ok (.if_icmp .ge 24, 3) := by decide +kernel
theorem dX4_digest_56 : decode cX4_digest 56 = .ok (.lload_n 1, 1) := by decide +kernel
theorem dX4_digest_57 : decode cX4_digest 57 = .ok (.ldc2_w 170, 3) := by decide +kernel
theorem dX4_digest_60 : decode cX4_digest 60 = .ok (.lmul, 1) := by decide +kernel
theorem dX4_digest_61 : decode cX4_digest 61 = .ok (.aload_n 0, 1) := by decide +kernel
theorem dX4_digest_62 : decode cX4_digest 62 = .ok (.iload_n 3, 1) := by decide +kernel
theorem dX4_digest_63 : decode cX4_digest 63 = .ok (.iload 4, 2) := by decide +kernel
theorem dX4_digest_65 : decode cX4_digest 65 = .ok (.invokevirtual 80, 3) := by decide +kernel
theorem dX4_digest_68 : decode cX4_digest 68 = .ok (.i2l, 1) := by decide +kernel
theorem dX4_digest_69 : decode cX4_digest 69 = .ok (.ladd, 1) := by decide +kernel
theorem dX4_digest_70 : decode cX4_digest 70 = .ok (.lstore_n 1, 1) := by decide +kernel
theorem dX4_digest_71 : decode cX4_digest 71 = .ok (.iinc 4 1, 3) := by decide +kernel
theorem dX4_digest_74 : decode cX4_digest 74 = .ok (.goto (-25), 3) := by decide +kernel
theorem dX4_digest_77 : decode cX4_digest 77 = .ok (.iinc 3 1, 3) := by decide +kernel
theorem dX4_digest_80 : decode cX4_digest 80 = .ok (.goto (-42), 3) := by decide +kernel
theorem dX4_digest_83 : decode cX4_digest 83 = .ok (.iconst 0, 1) := by decide +kernel
theorem dX4_digest_84 : decode cX4_digest 84 = .ok (.istore_n 3, 1) := by decide +kernel
theorem dX4_digest_85 : decode cX4_digest 85 = .ok (.iload_n 3, 1) := by decide +kernel
theorem dX4_digest_86 : decode cX4_digest 86 = .ok (.iconst 5, 1) := by decide +kernel
theorem dX4_digest_87 : decode cX4_digest 87 = .ok (.if_icmp .ge 40, 3) := by decide +kernel
theorem dX4_digest_90 : decode cX4_digest 90 = .ok (.iconst 0, 1) := by decide +kernel
theorem dX4_digest_91 : decode cX4_digest 91 = .ok (.istore 4, 2) := by decide +kernel
theorem dX4_digest_93 : decode cX4_digest 93 = .ok (.iload 4, 2) := by decide +kernel
theorem dX4_digest_95 : decode cX4_digest 95 = .ok (.bipush 9, 2) := by decide +kernel
theorem dX4_digest_97 : decode cX4_digest 97 = .ok (.if_icmp .ge 24, 3) := by decide +kernel
theorem dX4_digest_100 : decode cX4_digest 100 = .ok (.lload_n 1, 1) := by decide +kernel
theorem dX4_digest_101 : decode cX4_digest 101 = .ok (.ldc2_w 170, 3) := by decide +kernel
theorem dX4_digest_104 : decode cX4_digest 104 = .ok (.lmul, 1) := by decide +kernel
theorem dX4_digest_105 : decode cX4_digest 105 = .ok (.aload_n 0, 1) := by decide +kernel
theorem dX4_digest_106 : decode cX4_digest 106 = .ok (.iload_n 3, 1) := by decide +kernel
theorem dX4_digest_107 : decode cX4_digest 107 = .ok (.iload 4, 2) := by decide +kernel
theorem dX4_digest_109 : decode cX4_digest 109 = .ok (.invokevirtual 96, 3) := by decide +kernel
theorem dX4_digest_112 : decode cX4_digest 112 = .ok (.i2l, 1) := by decide +kernel
theorem dX4_digest_113 : decode cX4_digest 113 = .ok (.ladd, 1) := by decide +kernel
theorem dX4_digest_114 : decode cX4_digest 114 = .ok (.lstore_n 1, 1) := by decide +kernel
theorem dX4_digest_115 : decode cX4_digest 115 = .ok (.iinc 4 1, 3) := by decide +kernel
theorem dX4_digest_118 : decode cX4_digest 118 = .ok (.goto (-25), 3) := by decide +kernel
theorem dX4_digest_121 : decode cX4_digest 121 = .ok (.iinc 3 1, 3) := by decide +kernel
theorem dX4_digest_124 : decode cX4_digest 124 = .ok (.goto (-39), 3) := by decide +kernel
theorem dX4_digest_127 : decode cX4_digest 127 = .ok (.iconst 0, 1) := by decide +kernel
theorem dX4_digest_128 : decode cX4_digest 128 = .ok (.istore_n 3, 1) := by decide +kernel
theorem dX4_digest_129 : decode cX4_digest 129 = .ok (.iload_n 3, 1) := by decide +kernel
theorem dX4_digest_130 : decode cX4_digest 130 = .ok (.aload_n 0, 1) := by decide +kernel
theorem dX4_digest_131 : decode cX4_digest 131 = .ok (.getfield 50, 3) := by decide +kernel
theorem dX4_digest_134 : decode cX4_digest 134 = .ok (.if_icmp .ge 92, 3) := by decide +kernel
theorem dX4_digest_137 : decode cX4_digest 137 = .ok (.iconst 0, 1) := by decide +kernel
theorem dX4_digest_138 : decode cX4_digest 138 = .ok (.istore 4, 2) := by decide +kernel
theorem dX4_digest_140 : decode cX4_digest 140 = .ok (.iload 4, 2) := by decide +kernel
theorem dX4_digest_142 : decode cX4_digest 142 = .ok (.bipush 9, 2) := by decide +kernel
theorem dX4_digest_144 : decode cX4_digest 144 = .ok (.if_icmp .ge 24, 3) := by decide +kernel
theorem dX4_digest_147 : decode cX4_digest 147 = .ok (.lload_n 1, 1) := by decide +kernel
theorem dX4_digest_148 : decode cX4_digest 148 = .ok (.ldc2_w 170, 3) := by decide +kernel
theorem dX4_digest_151 : decode cX4_digest 151 = .ok (.lmul, 1) := by decide +kernel
theorem dX4_digest_152 : decode cX4_digest 152 = .ok (.aload_n 0, 1) := by decide +kernel
theorem dX4_digest_153 : decode cX4_digest 153 = .ok (.iload_n 3, 1) := by decide +kernel
theorem dX4_digest_154 : decode cX4_digest 154 = .ok (.iload 4, 2) := by decide +kernel
theorem dX4_digest_156 : decode cX4_digest 156 = .ok (.invokevirtual 141, 3) := by decide +kernel
theorem dX4_digest_159 : decode cX4_digest 159 = .ok (.i2l, 1) := by decide +kernel
theorem dX4_digest_160 : decode cX4_digest 160 = .ok (.ladd, 1) := by decide +kernel
theorem dX4_digest_161 : decode cX4_digest 161 = .ok (.lstore_n 1, 1) := by decide +kernel
theorem dX4_digest_162 : decode cX4_digest 162 = .ok (.iinc 4 1, 3) := by decide +kernel
theorem dX4_digest_165 : decode cX4_digest 165 = .ok (.goto (-25), 3) := by decide +kernel
theorem dX4_digest_168 : decode cX4_digest 168 = .ok (.iconst 0, 1) := by decide +kernel
theorem dX4_digest_169 : decode cX4_digest 169 = .ok (.istore 4, 2) := by decide +kernel
theorem dX4_digest_171 : decode cX4_digest 171 = .ok (.iload 4, 2) := by decide +kernel
theorem dX4_digest_173 : decode cX4_digest 173 = .ok (.aload_n 0, 1) := by decide +kernel
theorem dX4_digest_174 : decode cX4_digest 174 = .ok (.iload_n 3, 1) := by decide +kernel
theorem dX4_digest_175 : decode cX4_digest 175 = .ok (.invokevirtual 61, 3) := by decide +kernel
theorem dX4_digest_178 : decode cX4_digest 178 = .ok (.if_icmp .ge 42, 3) := by decide +kernel
theorem dX4_digest_181 : decode cX4_digest 181 = .ok (.iconst 0, 1) := by decide +kernel
theorem dX4_digest_182 : decode cX4_digest 182 = .ok (.istore 5, 2) := by decide +kernel
theorem dX4_digest_184 : decode cX4_digest 184 = .ok (.iload 5, 2) := by decide +kernel
theorem dX4_digest_186 : decode cX4_digest 186 = .ok (.bipush 10, 2) := by decide +kernel
theorem dX4_digest_188 : decode cX4_digest 188 = .ok (.if_icmp .ge 26, 3) := by decide +kernel
theorem dX4_digest_191 : decode cX4_digest 191 = .ok (.lload_n 1, 1) := by decide +kernel
theorem dX4_digest_192 : decode cX4_digest 192 = .ok (.ldc2_w 170, 3) := by decide +kernel
theorem dX4_digest_195 : decode cX4_digest 195 = .ok (.lmul, 1) := by decide +kernel
theorem dX4_digest_196 : decode cX4_digest 196 = .ok (.aload_n 0, 1) := by decide +kernel
theorem dX4_digest_197 : decode cX4_digest 197 = .ok (.iload_n 3, 1) := by decide +kernel
theorem dX4_digest_198 : decode cX4_digest 198 = .ok (.iload 4, 2) := by decide +kernel
theorem dX4_digest_200 : decode cX4_digest 200 = .ok (.iload 5, 2) := by decide +kernel
theorem dX4_digest_202 : decode cX4_digest 202 = .ok (.invokevirtual 129, 3) := by decide +kernel
theorem dX4_digest_205 : decode cX4_digest 205 = .ok (.i2l, 1) := by decide +kernel
theorem dX4_digest_206 : decode cX4_digest 206 = .ok (.ladd, 1) := by decide +kernel
theorem dX4_digest_207 : decode cX4_digest 207 = .ok (.lstore_n 1, 1) := by decide +kernel
theorem dX4_digest_208 : decode cX4_digest 208 = .ok (.iinc 5 1, 3) := by decide +kernel
theorem dX4_digest_211 : decode cX4_digest 211 = .ok (.goto (-27), 3) := by decide +kernel
theorem dX4_digest_214 : decode cX4_digest 214 = .ok (.iinc 4 1, 3) := by decide +kernel
theorem dX4_digest_217 : decode cX4_digest 217 = .ok (.goto (-46), 3) := by decide +kernel
theorem dX4_digest_220 : decode cX4_digest 220 = .ok (.iinc 3 1, 3) := by decide +kernel
theorem dX4_digest_223 : decode cX4_digest 223 = .ok (.goto (-94), 3) := by decide +kernel
theorem dX4_digest_226 : decode cX4_digest 226 = .ok (.lload_n 1, 1) := by decide +kernel
theorem dX4_digest_227 : decode cX4_digest 227 = .ok (.lreturn, 1) := by decide +kernel
