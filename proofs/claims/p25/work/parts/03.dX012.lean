theorem dX0_init_0 : decode cX0_init 0 = .ok (.aload_n 0, 1) := by decide +kernel
theorem dX0_init_1 : decode cX0_init 1 = .ok (.invokespecial 3, 3) := by decide +kernel
theorem dX0_init_4 : decode cX0_init 4 = .ok (.aload_n 0, 1) := by decide +kernel
theorem dX0_init_5 : decode cX0_init 5 = .ok (.bipush 6, 2) := by decide +kernel
theorem dX0_init_7 : decode cX0_init 7 = .ok (.newarray .int, 2) := by decide +kernel
theorem dX0_init_9 : decode cX0_init 9 = .ok (.putfield 9, 3) := by decide +kernel
theorem dX0_init_12 : decode cX0_init 12 = .ok (.return_, 1) := by decide +kernel
theorem dX0_of_0 : decode cX0_of 0 = .ok (.iload_n 1, 1) := by decide +kernel
theorem dX0_of_1 : decode cX0_of 1 = .ok (.ifCond .lt 21, 3) := by decide +kernel
theorem dX0_of_4 : decode cX0_of 4 = .ok (.iload_n 1, 1) := by decide +kernel
theorem dX0_of_5 : decode cX0_of 5 = .ok (.aload_n 0, 1) := by decide +kernel
theorem dX0_of_6 : decode cX0_of 6 = .ok (.getfield 9, 3) := by decide +kernel
theorem dX0_of_9 : decode cX0_of 9 = .ok (.arraylength, 1) := by decide +kernel
theorem dX0_of_10 : decode cX0_of 10 = .ok (.if_icmp .ge 12, 3) := by decide +kernel
theorem dX0_of_13 : decode cX0_of 13 = .ok (.aload_n 0, 1) := by decide +kernel
theorem dX0_of_14 : decode cX0_of 14 = .ok (.getfield 9, 3) := by decide +kernel
theorem dX0_of_17 : decode cX0_of 17 = .ok (.iload_n 1, 1) := by decide +kernel
theorem dX0_of_18 : decode cX0_of 18 = .ok (.iaload, 1) := by decide +kernel
theorem dX0_of_19 : decode cX0_of 19 = .ok (.goto 4, 3) := by decide +kernel
theorem dX0_of_22 : decode cX0_of 22 = .ok (.iconst 0, 1) := by decide +kernel
theorem dX0_of_23 : decode cX0_of 23 = .ok (.ireturn, 1) := by decide +kernel
theorem dX0_change_0 : decode cX0_change 0 = .ok (.iload_n 1, 1) := by decide +kernel
theorem dX0_change_1 : decode cX0_change 1 = .ok (.ifCond .lt 32, 3) := by decide +kernel
theorem dX0_change_4 : decode cX0_change 4 = .ok (.iload_n 1, 1) := by decide +kernel
theorem dX0_change_5 : decode cX0_change 5 = .ok (.aload_n 0, 1) := by decide +kernel
theorem dX0_change_6 : decode cX0_change 6 = .ok (.getfield 9, 3) := by decide +kernel
theorem dX0_change_9 : decode cX0_change 9 = .ok (.arraylength, 1) := by decide +kernel
theorem dX0_change_10 : decode cX0_change 10 = .ok (.if_icmp .ge 23, 3) := by decide +kernel
theorem dX0_change_13 : decode cX0_change 13 = .ok (.aload_n 0, 1) := by decide +kernel
theorem dX0_change_14 : decode cX0_change 14 = .ok (.getfield 9, 3) := by decide +kernel
theorem dX0_change_17 : decode cX0_change 17 = .ok (.iload_n 1, 1) := by decide +kernel
theorem dX0_change_18 : decode cX0_change 18 = .ok (.dup2, 1) := by decide +kernel
theorem dX0_change_19 : decode cX0_change 19 = .ok (.iaload, 1) := by decide +kernel
theorem dX0_change_20 : decode cX0_change 20 = .ok (.iload_n 2, 1) := by decide +kernel
theorem dX0_change_21 : decode cX0_change 21 = .ok (.iadd, 1) := by decide +kernel
theorem dX0_change_22 : decode cX0_change 22 = .ok (.iastore, 1) := by decide +kernel
theorem dX0_change_23 : decode cX0_change 23 = .ok (.aload_n 0, 1) := by decide +kernel
theorem dX0_change_24 : decode cX0_change 24 = .ok (.dup, 1) := by decide +kernel
theorem dX0_change_25 : decode cX0_change 25 = .ok (.getfield 15, 3) := by decide +kernel
theorem dX0_change_28 : decode cX0_change 28 = .ok (.iload_n 2, 1) := by decide +kernel
theorem dX0_change_29 : decode cX0_change 29 = .ok (.iadd, 1) := by decide +kernel
theorem dX0_change_30 : decode cX0_change 30 = .ok (.putfield 15, 3) := by decide +kernel
theorem dX0_change_33 : decode cX0_change 33 = .ok (.return_, 1) := by decide +kernel
set_option maxRecDepth 20000 in
theorem ggX0_become_X0_of : GoodIn wsX0_become wsX0_of := goodIn_r _ [5, 6, 12, 13] (by decide +kernel) (by decide +kernel)
set_option maxRecDepth 20000 in
theorem gX0_become_X0_of : GoodIn wsX0_become (wsV RX0 19 RX0 yX0_of wsX0_of) := goodIn_app (goodIn_of _ (by decide +kernel)) ggX0_become_X0_of
set_option maxRecDepth 20000 in
theorem ggX0_become_X0_change : GoodIn wsX0_become wsX0_change := goodIn_r _ [10, 6, 11, 12, 13] (by decide +kernel) (by decide +kernel)
set_option maxRecDepth 20000 in
theorem gX0_become_X0_change : GoodIn wsX0_become (wsV RX0 23 RX0 yX0_change wsX0_change) := goodIn_app (goodIn_of _ (by decide +kernel)) ggX0_become_X0_change
theorem dX0_become_0 : decode cX0_become 0 = .ok (.iconst 0, 1) := by decide +kernel
theorem dX0_become_1 : decode cX0_become 1 = .ok (.istore_n 2, 1) := by decide +kernel
theorem dX0_become_2 : decode cX0_become 2 = .ok (.iload_n 2, 1) := by decide +kernel
theorem dX0_become_3 : decode cX0_become 3 = .ok (.bipush 6, 2) := by decide +kernel
theorem dX0_become_5 : decode cX0_become 5 = .ok (.if_icmp .ge 25, 3) := by decide +kernel
theorem dX0_become_8 : decode cX0_become 8 = .ok (.aload_n 0, 1) := by decide +kernel
theorem dX0_become_9 : decode cX0_become 9 = .ok (.iload_n 2, 1) := by decide +kernel
theorem dX0_become_10 : decode cX0_become 10 = .ok (.aload_n 1, 1) := by decide +kernel
theorem dX0_become_11 : decode cX0_become 11 = .ok (.iload_n 2, 1) := by decide +kernel
theorem dX0_become_12 : decode cX0_become 12 = .ok (.invokevirtual 19, 3) := by decide +kernel
theorem dX0_become_15 : decode cX0_become 15 = .ok (.aload_n 0, 1) := by decide +kernel
theorem dX0_become_16 : decode cX0_become 16 = .ok (.iload_n 2, 1) := by decide +kernel
theorem dX0_become_17 : decode cX0_become 17 = .ok (.invokevirtual 19, 3) := by decide +kernel
theorem dX0_become_20 : decode cX0_become 20 = .ok (.isub, 1) := by decide +kernel
theorem dX0_become_21 : decode cX0_become 21 = .ok (.invokevirtual 23, 3) := by decide +kernel
theorem dX0_become_24 : decode cX0_become 24 = .ok (.iinc 2 1, 3) := by decide +kernel
theorem dX0_become_27 : decode cX0_become 27 = .ok (.goto (-25), 3) := by decide +kernel
theorem dX0_become_30 : decode cX0_become 30 = .ok (.return_, 1) := by decide +kernel
set_option maxRecDepth 20000 in
theorem ggX0_moveTo_X0_of : GoodIn wsX0_moveTo wsX0_of := goodIn_r _ [9, 10, 16, 17] (by decide +kernel) (by decide +kernel)
set_option maxRecDepth 20000 in
theorem gX0_moveTo_X0_of : GoodIn wsX0_moveTo (wsV RX0 19 RX0 yX0_of wsX0_of) := goodIn_app (goodIn_of _ (by decide +kernel)) ggX0_moveTo_X0_of
set_option maxRecDepth 20000 in
theorem ggX0_moveTo_X0_change : GoodIn wsX0_moveTo wsX0_change := goodIn_r _ [14, 10, 15, 16, 17] (by decide +kernel) (by decide +kernel)
set_option maxRecDepth 20000 in
theorem gX0_moveTo_X0_change : GoodIn wsX0_moveTo (wsV RX0 23 RX0 yX0_change wsX0_change) := goodIn_app (goodIn_of _ (by decide +kernel)) ggX0_moveTo_X0_change
theorem dX0_moveTo_0 : decode cX0_moveTo 0 = .ok (.iconst 0, 1) := by decide +kernel
theorem dX0_moveTo_1 : decode cX0_moveTo 1 = .ok (.istore 4, 2) := by decide +kernel
theorem dX0_moveTo_3 : decode cX0_moveTo 3 = .ok (.iconst 0, 1) := by decide +kernel
theorem dX0_moveTo_4 : decode cX0_moveTo 4 = .ok (.istore 5, 2) := by decide +kernel
theorem dX0_moveTo_6 : decode cX0_moveTo 6 = .ok (.iload 5, 2) := by decide +kernel
theorem dX0_moveTo_8 : decode cX0_moveTo 8 = .ok (.iload_n 3, 1) := by decide +kernel
theorem dX0_moveTo_9 : decode cX0_moveTo 9 = .ok (.if_icmp .ge 48, 3) := by decide +kernel
theorem dX0_moveTo_12 : decode cX0_moveTo 12 = .ok (.aload_n 0, 1) := by decide +kernel
theorem dX0_moveTo_13 : decode cX0_moveTo 13 = .ok (.iload 5, 2) := by decide +kernel
theorem dX0_moveTo_15 : decode cX0_moveTo 15 = .ok (.invokevirtual 19, 3) := by decide +kernel
theorem dX0_moveTo_18 : decode cX0_moveTo 18 = .ok (.iload_n 2, 1) := by decide +kernel
theorem dX0_moveTo_19 : decode cX0_moveTo 19 = .ok (.iload 4, 2) := by decide +kernel
theorem dX0_moveTo_21 : decode cX0_moveTo 21 = .ok (.isub, 1) := by decide +kernel
theorem dX0_moveTo_22 : decode cX0_moveTo 22 = .ok (.invokestatic 27, 3) := by decide +kernel
theorem dX0_moveTo_25 : decode cX0_moveTo 25 = .ok (.istore 6, 2) := by decide +kernel
theorem dX0_moveTo_27 : decode cX0_moveTo 27 = .ok (.aload_n 0, 1) := by decide +kernel
theorem dX0_moveTo_28 : decode cX0_moveTo 28 = .ok (.iload 5, 2) := by decide +kernel
theorem dX0_moveTo_30 : decode cX0_moveTo 30 = .ok (.iload 6, 2) := by decide +kernel
theorem dX0_moveTo_32 : decode cX0_moveTo 32 = .ok (.ineg, 1) := by decide +kernel
theorem dX0_moveTo_33 : decode cX0_moveTo 33 = .ok (.invokevirtual 23, 3) := by decide +kernel
theorem dX0_moveTo_36 : decode cX0_moveTo 36 = .ok (.aload_n 1, 1) := by decide +kernel
theorem dX0_moveTo_37 : decode cX0_moveTo 37 = .ok (.iload 5, 2) := by decide +kernel
theorem dX0_moveTo_39 : decode cX0_moveTo 39 = .ok (.iload 6, 2) := by decide +kernel
theorem dX0_moveTo_41 : decode cX0_moveTo 41 = .ok (.invokevirtual 23, 3) := by decide +kernel
theorem dX0_moveTo_44 : decode cX0_moveTo 44 = .ok (.iload 4, 2) := by decide +kernel
theorem dX0_moveTo_46 : decode cX0_moveTo 46 = .ok (.iload 6, 2) := by decide +kernel
theorem dX0_moveTo_48 : decode cX0_moveTo 48 = .ok (.iadd, 1) := by decide +kernel
theorem dX0_moveTo_49 : decode cX0_moveTo 49 = .ok (.istore 4, 2) := by decide +kernel
theorem dX0_moveTo_51 : decode cX0_moveTo 51 = .ok (.iinc 5 1, 3) := by decide +kernel
theorem dX0_moveTo_54 : decode cX0_moveTo 54 = .ok (.goto (-48), 3) := by decide +kernel
theorem dX0_moveTo_57 : decode cX0_moveTo 57 = .ok (.iload 4, 2) := by decide +kernel
theorem dX0_moveTo_59 : decode cX0_moveTo 59 = .ok (.ireturn, 1) := by decide +kernel
theorem dX0_warmth_0 : decode cX0_warmth 0 = .ok (.iconst 0, 1) := by decide +kernel
theorem dX0_warmth_1 : decode cX0_warmth 1 = .ok (.istore_n 1, 1) := by decide +kernel
theorem dX0_warmth_2 : decode cX0_warmth 2 = .ok (.iconst 0, 1) := by decide +kernel
theorem dX0_warmth_3 : decode cX0_warmth 3 = .ok (.istore_n 2, 1) := by decide +kernel
theorem dX0_warmth_4 : decode cX0_warmth 4 = .ok (.iload_n 2, 1) := by decide +kernel
theorem dX0_warmth_5 : decode cX0_warmth 5 = .ok (.aload_n 0, 1) := by decide +kernel
theorem dX0_warmth_6 : decode cX0_warmth 6 = .ok (.getfield 9, 3) := by decide +kernel
theorem dX0_warmth_9 : decode cX0_warmth 9 = .ok (.arraylength, 1) := by decide +kernel
theorem dX0_warmth_10 : decode cX0_warmth 10 = .ok (.if_icmp .ge 23, 3) := by decide +kernel
theorem dX0_warmth_13 : decode cX0_warmth 13 = .ok (.iload_n 1, 1) := by decide +kernel
theorem dX0_warmth_14 : decode cX0_warmth 14 = .ok (.bipush 6, 2) := by decide +kernel
theorem dX0_warmth_16 : decode cX0_warmth 16 = .ok (.iload_n 2, 1) := by decide +kernel
theorem dX0_warmth_17 : decode cX0_warmth 17 = .ok (.isub, 1) := by decide +kernel
theorem dX0_warmth_18 : decode cX0_warmth 18 = .ok (.aload_n 0, 1) := by decide +kernel
theorem dX0_warmth_19 : decode cX0_warmth 19 = .ok (.getfield 9, 3) := by decide +kernel
theorem dX0_warmth_22 : decode cX0_warmth 22 = .ok (.iload_n 2, 1) := by decide +kernel
theorem dX0_warmth_23 : decode cX0_warmth 23 = .ok (.iaload, 1) := by decide +kernel
theorem dX0_warmth_24 : decode cX0_warmth 24 = .ok (.imul, 1) := by decide +kernel
theorem dX0_warmth_25 : decode cX0_warmth 25 = .ok (.iadd, 1) := by decide +kernel
theorem dX0_warmth_26 : decode cX0_warmth 26 = .ok (.istore_n 1, 1) := by decide +kernel
theorem dX0_warmth_27 : decode cX0_warmth 27 = .ok (.iinc 2 1, 3) := by decide +kernel
theorem dX0_warmth_30 : decode cX0_warmth 30 = .ok (.goto (-26), 3) := by decide +kernel
theorem dX0_warmth_33 : decode cX0_warmth 33 = .ok (.iload_n 1, 1) := by decide +kernel
theorem dX0_warmth_34 : decode cX0_warmth 34 = .ok (.sipush 900, 3) := by decide +kernel
theorem dX0_warmth_37 : decode cX0_warmth 37 = .ok (.invokestatic 27, 3) := by decide +kernel
theorem dX0_warmth_40 : decode cX0_warmth 40 = .ok (.ireturn, 1) := by decide +kernel
set_option maxRecDepth 20000 in
theorem ggX0_prick_X0_of : GoodIn wsX0_prick wsX0_of := goodIn_r _ [5, 6, 12, 13] (by decide +kernel) (by decide +kernel)
set_option maxRecDepth 20000 in
theorem gX0_prick_X0_of : GoodIn wsX0_prick (wsV RX0 19 RX0 yX0_of wsX0_of) := goodIn_app (goodIn_of _ (by decide +kernel)) ggX0_prick_X0_of
set_option maxRecDepth 20000 in
theorem ggX0_prick_X0_change : GoodIn wsX0_prick wsX0_change := goodIn_r _ [10, 6, 11, 12, 13] (by decide +kernel) (by decide +kernel)
set_option maxRecDepth 20000 in
theorem gX0_prick_X0_change : GoodIn wsX0_prick (wsV RX0 23 RX0 yX0_change wsX0_change) := goodIn_app (goodIn_of _ (by decide +kernel)) ggX0_prick_X0_change
theorem dX0_prick_0 : decode cX0_prick 0 = .ok (.iconst 0, 1) := by decide +kernel
theorem dX0_prick_1 : decode cX0_prick 1 = .ok (.istore_n 2, 1) := by decide +kernel
theorem dX0_prick_2 : decode cX0_prick 2 = .ok (.iconst 0, 1) := by decide +kernel
theorem dX0_prick_3 : decode cX0_prick 3 = .ok (.istore_n 3, 1) := by decide +kernel
theorem dX0_prick_4 : decode cX0_prick 4 = .ok (.iload_n 3, 1) := by decide +kernel
theorem dX0_prick_5 : decode cX0_prick 5 = .ok (.bipush 6, 2) := by decide +kernel
theorem dX0_prick_7 : decode cX0_prick 7 = .ok (.if_icmp .ge 47, 3) := by decide +kernel
theorem dX0_prick_10 : decode cX0_prick 10 = .ok (.iconst 2, 1) := by decide +kernel
theorem dX0_prick_11 : decode cX0_prick 11 = .ok (.iload_n 3, 1) := by decide +kernel
theorem dX0_prick_12 : decode cX0_prick 12 = .ok (.imul, 1) := by decide +kernel
theorem dX0_prick_13 : decode cX0_prick 13 = .ok (.iload_n 1, 1) := by decide +kernel
theorem dX0_prick_14 : decode cX0_prick 14 = .ok (.isub, 1) := by decide +kernel
theorem dX0_prick_15 : decode cX0_prick 15 = .ok (.istore 4, 2) := by decide +kernel
theorem dX0_prick_17 : decode cX0_prick 17 = .ok (.iload 4, 2) := by decide +kernel
theorem dX0_prick_19 : decode cX0_prick 19 = .ok (.ifCond .le 29, 3) := by decide +kernel
theorem dX0_prick_22 : decode cX0_prick 22 = .ok (.aload_n 0, 1) := by decide +kernel
theorem dX0_prick_23 : decode cX0_prick 23 = .ok (.iload_n 3, 1) := by decide +kernel
theorem dX0_prick_24 : decode cX0_prick 24 = .ok (.invokevirtual 19, 3) := by decide +kernel
theorem dX0_prick_27 : decode cX0_prick 27 = .ok (.iload 4, 2) := by decide +kernel
theorem dX0_prick_29 : decode cX0_prick 29 = .ok (.imul, 1) := by decide +kernel
theorem dX0_prick_30 : decode cX0_prick 30 = .ok (.bipush 30, 2) := by decide +kernel
theorem dX0_prick_32 : decode cX0_prick 32 = .ok (.idiv, 1) := by decide +kernel
theorem dX0_prick_33 : decode cX0_prick 33 = .ok (.istore 5, 2) := by decide +kernel
theorem dX0_prick_35 : decode cX0_prick 35 = .ok (.aload_n 0, 1) := by decide +kernel
theorem dX0_prick_36 : decode cX0_prick 36 = .ok (.iload_n 3, 1) := by decide +kernel
theorem dX0_prick_37 : decode cX0_prick 37 = .ok (.iload 5, 2) := by decide +kernel
theorem dX0_prick_39 : decode cX0_prick 39 = .ok (.ineg, 1) := by decide +kernel
theorem dX0_prick_40 : decode cX0_prick 40 = .ok (.invokevirtual 23, 3) := by decide +kernel
theorem dX0_prick_43 : decode cX0_prick 43 = .ok (.iload_n 2, 1) := by decide +kernel
theorem dX0_prick_44 : decode cX0_prick 44 = .ok (.iload 5, 2) := by decide +kernel
theorem dX0_prick_46 : decode cX0_prick 46 = .ok (.iadd, 1) := by decide +kernel
theorem dX0_prick_47 : decode cX0_prick 47 = .ok (.istore_n 2, 1) := by decide +kernel
theorem dX0_prick_48 : decode cX0_prick 48 = .ok (.iinc 3 1, 3) := by decide +kernel
theorem dX0_prick_51 : decode cX0_prick 51 = .ok (.goto (-47), 3) := by decide +kernel
theorem dX0_prick_54 : decode cX0_prick 54 = .ok (.iload_n 2, 1) := by decide +kernel
theorem dX0_prick_55 : decode cX0_prick 55 = .ok (.ireturn, 1) := by decide +kernel
set_option maxRecDepth 20000 in
theorem ggX1_init_X0_init : GoodIn wsX1_init wsX0_init := goodIn_r _ [11, 12, 2, 3, 13, 14, 15, 16] (by decide +kernel) (by decide +kernel)
set_option maxRecDepth 20000 in
theorem gX1_init_X0_init : GoodIn wsX1_init (wsX0_init) := ggX1_init_X0_init
theorem dX1_init_0 : decode cX1_init 0 = .ok (.aload_n 0, 1) := by decide +kernel
theorem dX1_init_1 : decode cX1_init 1 = .ok (.invokespecial 3, 3) := by decide +kernel
theorem dX1_init_4 : decode cX1_init 4 = .ok (.aload_n 0, 1) := by decide +kernel
theorem dX1_init_5 : decode cX1_init 5 = .ok (.new 9, 3) := by decide +kernel
theorem dX1_init_8 : decode cX1_init 8 = .ok (.dup, 1) := by decide +kernel
theorem dX1_init_9 : decode cX1_init 9 = .ok (.invokespecial 11, 3) := by decide +kernel
theorem dX1_init_12 : decode cX1_init 12 = .ok (.putfield 12, 3) := by decide +kernel
theorem dX1_init_15 : decode cX1_init 15 = .ok (.aload_n 0, 1) := by decide +kernel
theorem dX1_init_16 : decode cX1_init 16 = .ok (.iload_n 1, 1) := by decide +kernel
theorem dX1_init_17 : decode cX1_init 17 = .ok (.putfield 18, 3) := by decide +kernel
theorem dX1_init_20 : decode cX1_init 20 = .ok (.return_, 1) := by decide +kernel
set_option maxRecDepth 20000 in
theorem ggX1_tells_X0_of : GoodIn wsX1_tells wsX0_of := goodIn_r _ [7, 8, 11, 12] (by decide +kernel) (by decide +kernel)
set_option maxRecDepth 20000 in
theorem gX1_tells_X0_of : GoodIn wsX1_tells (wsV RX1 22 RX0 yX0_of wsX0_of) := goodIn_app (goodIn_of _ (by decide +kernel)) ggX1_tells_X0_of
theorem dX1_tells_0 : decode cX1_tells 0 = .ok (.iload_n 1, 1) := by decide +kernel
theorem dX1_tells_1 : decode cX1_tells 1 = .ok (.bipush 6, 2) := by decide +kernel
theorem dX1_tells_3 : decode cX1_tells 3 = .ok (.if_icmp .ge 12, 3) := by decide +kernel
theorem dX1_tells_6 : decode cX1_tells 6 = .ok (.aload_n 0, 1) := by decide +kernel
theorem dX1_tells_7 : decode cX1_tells 7 = .ok (.getfield 12, 3) := by decide +kernel
theorem dX1_tells_10 : decode cX1_tells 10 = .ok (.iload_n 1, 1) := by decide +kernel
theorem dX1_tells_11 : decode cX1_tells 11 = .ok (.invokevirtual 22, 3) := by decide +kernel
theorem dX1_tells_14 : decode cX1_tells 14 = .ok (.ireturn, 1) := by decide +kernel
theorem dX1_tells_15 : decode cX1_tells 15 = .ok (.iload_n 1, 1) := by decide +kernel
theorem dX1_tells_16 : decode cX1_tells 16 = .ok (.bipush 6, 2) := by decide +kernel
theorem dX1_tells_18 : decode cX1_tells 18 = .ok (.if_icmp .ne 13, 3) := by decide +kernel
theorem dX1_tells_21 : decode cX1_tells 21 = .ok (.aload_n 0, 1) := by decide +kernel
theorem dX1_tells_22 : decode cX1_tells 22 = .ok (.getfield 12, 3) := by decide +kernel
theorem dX1_tells_25 : decode cX1_tells 25 = .ok (.getfield 26, 3) := by decide +kernel
theorem dX1_tells_28 : decode cX1_tells 28 = .ok (.goto 7, 3) := by decide +kernel
theorem dX1_tells_31 : decode cX1_tells 31 = .ok (.aload_n 0, 1) := by decide +kernel
theorem dX1_tells_32 : decode cX1_tells 32 = .ok (.getfield 18, 3) := by decide +kernel
theorem dX1_tells_35 : decode cX1_tells 35 = .ok (.ireturn, 1) := by decide +kernel
theorem dX1_flight_0 : decode cX1_flight 0 = .ok (.iload_n 1, 1) := by decide +kernel
theorem dX1_flight_1 : decode cX1_flight 1 = .ok (.iconst 1, 1) := by decide +kernel
theorem dX1_flight_2 : decode cX1_flight 2 = .ok (.iadd, 1) := by decide +kernel
theorem dX1_flight_3 : decode cX1_flight 3 = .ok (.iconst 4, 1) := by decide +kernel
theorem dX1_flight_4 : decode cX1_flight 4 = .ok (.aload_n 0, 1) := by decide +kernel
theorem dX1_flight_5 : decode cX1_flight 5 = .ok (.getfield 18, 3) := by decide +kernel
theorem dX1_flight_8 : decode cX1_flight 8 = .ok (.iadd, 1) := by decide +kernel
theorem dX1_flight_9 : decode cX1_flight 9 = .ok (.imul, 1) := by decide +kernel
theorem dX1_flight_10 : decode cX1_flight 10 = .ok (.istore_n 3, 1) := by decide +kernel
theorem dX1_flight_11 : decode cX1_flight 11 = .ok (.iconst 4, 1) := by decide +kernel
theorem dX1_flight_12 : decode cX1_flight 12 = .ok (.istore 4, 2) := by decide +kernel
theorem dX1_flight_14 : decode cX1_flight 14 = .ok (.iload_n 3, 1) := by decide +kernel
theorem dX1_flight_15 : decode cX1_flight 15 = .ok (.ifCond .le 17, 3) := by decide +kernel
theorem dX1_flight_18 : decode cX1_flight 18 = .ok (.iload_n 2, 1) := by decide +kernel
theorem dX1_flight_19 : decode cX1_flight 19 = .ok (.bipush 12, 2) := by decide +kernel
theorem dX1_flight_21 : decode cX1_flight 21 = .ok (.imul, 1) := by decide +kernel
theorem dX1_flight_22 : decode cX1_flight 22 = .ok (.iload_n 3, 1) := by decide +kernel
theorem dX1_flight_23 : decode cX1_flight 23 = .ok (.idiv, 1) := by decide +kernel
theorem dX1_flight_24 : decode cX1_flight 24 = .ok (.iload 4, 2) := by decide +kernel
theorem dX1_flight_26 : decode cX1_flight 26 = .ok (.invokestatic 29, 3) := by decide +kernel
theorem dX1_flight_29 : decode cX1_flight 29 = .ok (.goto 5, 3) := by decide +kernel
theorem dX1_flight_32 : decode cX1_flight 32 = .ok (.iload 4, 2) := by decide +kernel
theorem dX1_flight_34 : decode cX1_flight 34 = .ok (.ireturn, 1) := by decide +kernel
set_option maxRecDepth 20000 in
theorem ggX1_brings_X0_of : GoodIn wsX1_brings wsX0_of := goodIn_r _ [6, 7, 20, 21] (by decide +kernel) (by decide +kernel)
set_option maxRecDepth 20000 in
theorem gX1_brings_X0_of : GoodIn wsX1_brings (wsV RX1 22 RX0 yX0_of wsX0_of) := goodIn_app (goodIn_of _ (by decide +kernel)) ggX1_brings_X0_of
set_option maxRecDepth 20000 in
theorem ggX1_brings_X1_flight : GoodIn wsX1_brings wsX1_flight := goodIn_r _ [12, 13, 14, 15, 16, 17, 18, 19] (by decide +kernel) (by decide +kernel)
set_option maxRecDepth 20000 in
theorem gX1_brings_X1_flight : GoodIn wsX1_brings (wsV RX1 35 RX1 yX1_flight wsX1_flight) := goodIn_app (goodIn_of _ (by decide +kernel)) ggX1_brings_X1_flight
theorem dX1_brings_0 : decode cX1_brings 0 = .ok (.aload_n 0, 1) := by decide +kernel
theorem dX1_brings_1 : decode cX1_brings 1 = .ok (.getfield 12, 3) := by decide +kernel
theorem dX1_brings_4 : decode cX1_brings 4 = .ok (.iload_n 1, 1) := by decide +kernel
theorem dX1_brings_5 : decode cX1_brings 5 = .ok (.invokevirtual 22, 3) := by decide +kernel
theorem dX1_brings_8 : decode cX1_brings 8 = .ok (.istore 4, 2) := by decide +kernel
theorem dX1_brings_10 : decode cX1_brings 10 = .ok (.aload_n 0, 1) := by decide +kernel
theorem dX1_brings_11 : decode cX1_brings 11 = .ok (.iload_n 1, 1) := by decide +kernel
theorem dX1_brings_12 : decode cX1_brings 12 = .ok (.iload_n 2, 1) := by decide +kernel
theorem dX1_brings_13 : decode cX1_brings 13 = .ok (.invokevirtual 35, 3) := by decide +kernel
theorem dX1_brings_16 : decode cX1_brings 16 = .ok (.istore 5, 2) := by decide +kernel
theorem dX1_brings_18 : decode cX1_brings 18 = .ok (.iload 4, 2) := by decide +kernel
theorem dX1_brings_20 : decode cX1_brings 20 = .ok (.bipush 6, 2) := by decide +kernel
theorem dX1_brings_22 : decode cX1_brings 22 = .ok (.imul, 1) := by decide +kernel
theorem dX1_brings_23 : decode cX1_brings 23 = .ok (.bipush 10, 2) := by decide +kernel
theorem dX1_brings_25 : decode cX1_brings 25 = .ok (.idiv, 1) := by decide +kernel
theorem dX1_brings_26 : decode cX1_brings 26 = .ok (.istore 6, 2) := by decide +kernel
theorem dX1_brings_28 : decode cX1_brings 28 = .ok (.iload 4, 2) := by decide +kernel
theorem dX1_brings_30 : decode cX1_brings 30 = .ok (.iconst 4, 1) := by decide +kernel
theorem dX1_brings_31 : decode cX1_brings 31 = .ok (.idiv, 1) := by decide +kernel
theorem dX1_brings_32 : decode cX1_brings 32 = .ok (.istore 7, 2) := by decide +kernel
theorem dX1_brings_34 : decode cX1_brings 34 = .ok (.iload_n 3, 1) := by decide +kernel
theorem dX1_brings_35 : decode cX1_brings 35 = .ok (.iload 5, 2) := by decide +kernel
theorem dX1_brings_37 : decode cX1_brings 37 = .ok (.if_icmp .ne 6, 3) := by decide +kernel
theorem dX1_brings_40 : decode cX1_brings 40 = .ok (.iload 6, 2) := by decide +kernel
theorem dX1_brings_42 : decode cX1_brings 42 = .ok (.ireturn, 1) := by decide +kernel
theorem dX1_brings_43 : decode cX1_brings 43 = .ok (.iload_n 3, 1) := by decide +kernel
theorem dX1_brings_44 : decode cX1_brings 44 = .ok (.iload 5, 2) := by decide +kernel
theorem dX1_brings_46 : decode cX1_brings 46 = .ok (.iconst 1, 1) := by decide +kernel
theorem dX1_brings_47 : decode cX1_brings 47 = .ok (.iadd, 1) := by decide +kernel
theorem dX1_brings_48 : decode cX1_brings 48 = .ok (.if_icmp .ne 6, 3) := by decide +kernel
theorem dX1_brings_51 : decode cX1_brings 51 = .ok (.iload 7, 2) := by decide +kernel
theorem dX1_brings_53 : decode cX1_brings 53 = .ok (.ireturn, 1) := by decide +kernel
theorem dX1_brings_54 : decode cX1_brings 54 = .ok (.iload_n 3, 1) := by decide +kernel
theorem dX1_brings_55 : decode cX1_brings 55 = .ok (.iload 5, 2) := by decide +kernel
theorem dX1_brings_57 : decode cX1_brings 57 = .ok (.iconst 1, 1) := by decide +kernel
theorem dX1_brings_58 : decode cX1_brings 58 = .ok (.isub, 1) := by decide +kernel
theorem dX1_brings_59 : decode cX1_brings 59 = .ok (.if_icmp .ne 14, 3) := by decide +kernel
theorem dX1_brings_62 : decode cX1_brings 62 = .ok (.iload 4, 2) := by decide +kernel
theorem dX1_brings_64 : decode cX1_brings 64 = .ok (.iload 6, 2) := by decide +kernel
theorem dX1_brings_66 : decode cX1_brings 66 = .ok (.isub, 1) := by decide +kernel
theorem dX1_brings_67 : decode cX1_brings 67 = .ok (.iload 7, 2) := by decide +kernel
theorem dX1_brings_69 : decode cX1_brings 69 = .ok (.isub, 1) := by decide +kernel
theorem dX1_brings_70 : decode cX1_brings 70 = .ok (.goto 4, 3) := by decide +kernel
theorem dX1_brings_73 : decode cX1_brings 73 = .ok (.iconst 0, 1) := by decide +kernel
theorem dX1_brings_74 : decode cX1_brings 74 = .ok (.ireturn, 1) := by decide +kernel
set_option maxRecDepth 20000 in
theorem ggX2_init_X0_init : GoodIn wsX2_init wsX0_init := goodIn_r _ [18, 19, 2, 3, 14, 20, 28, 29] (by decide +kernel) (by decide +kernel)
set_option maxRecDepth 20000 in
theorem gX2_init_X0_init : GoodIn wsX2_init (wsX0_init) := ggX2_init_X0_init
theorem dX2_init_0 : decode cX2_init 0 = .ok (.aload_n 0, 1) := by decide +kernel
theorem dX2_init_1 : decode cX2_init 1 = .ok (.invokespecial 3, 3) := by decide +kernel
theorem dX2_init_4 : decode cX2_init 4 = .ok (.aload_n 0, 1) := by decide +kernel
theorem dX2_init_5 : decode cX2_init 5 = .ok (.iload_n 1, 1) := by decide +kernel
theorem dX2_init_6 : decode cX2_init 6 = .ok (.putfield 9, 3) := by decide +kernel
theorem dX2_init_9 : decode cX2_init 9 = .ok (.aload_n 0, 1) := by decide +kernel
theorem dX2_init_10 : decode cX2_init 10 = .ok (.iload_n 2, 1) := by decide +kernel
theorem dX2_init_11 : decode cX2_init 11 = .ok (.putfield 15, 3) := by decide +kernel
theorem dX2_init_14 : decode cX2_init 14 = .ok (.aload_n 0, 1) := by decide +kernel
theorem dX2_init_15 : decode cX2_init 15 = .ok (.iload_n 3, 1) := by decide +kernel
theorem dX2_init_16 : decode cX2_init 16 = .ok (.putfield 18, 3) := by decide +kernel
theorem dX2_init_19 : decode cX2_init 19 = .ok (.aload_n 0, 1) := by decide +kernel
theorem dX2_init_20 : decode cX2_init 20 = .ok (.iload_n 1, 1) := by decide +kernel
theorem dX2_init_21 : decode cX2_init 21 = .ok (.iload_n 2, 1) := by decide +kernel
theorem dX2_init_22 : decode cX2_init 22 = .ok (.imul, 1) := by decide +kernel
theorem dX2_init_23 : decode cX2_init 23 = .ok (.putfield 21, 3) := by decide +kernel
theorem dX2_init_26 : decode cX2_init 26 = .ok (.aload_n 0, 1) := by decide +kernel
theorem dX2_init_27 : decode cX2_init 27 = .ok (.bipush 36, 2) := by decide +kernel
theorem dX2_init_29 : decode cX2_init 29 = .ok (.anewarray 24, 3) := by decide +kernel
theorem dX2_init_32 : decode cX2_init 32 = .ok (.putfield 26, 3) := by decide +kernel
theorem dX2_init_35 : decode cX2_init 35 = .ok (.iconst 0, 1) := by decide +kernel
theorem dX2_init_36 : decode cX2_init 36 = .ok (.istore 4, 2) := by decide +kernel
theorem dX2_init_38 : decode cX2_init 38 = .ok (.iload 4, 2) := by decide +kernel
theorem dX2_init_40 : decode cX2_init 40 = .ok (.aload_n 0, 1) := by decide +kernel
theorem dX2_init_41 : decode cX2_init 41 = .ok (.getfield 26, 3) := by decide +kernel
theorem dX2_init_44 : decode cX2_init 44 = .ok (.arraylength, 1) := by decide +kernel
theorem dX2_init_45 : decode cX2_init 45 = .ok (.if_icmp .ge 23, 3) := by decide +kernel
theorem dX2_init_48 : decode cX2_init 48 = .ok (.aload_n 0, 1) := by decide +kernel
theorem dX2_init_49 : decode cX2_init 49 = .ok (.getfield 26, 3) := by decide +kernel
theorem dX2_init_52 : decode cX2_init 52 = .ok (.iload 4, 2) := by decide +kernel
theorem dX2_init_54 : decode cX2_init 54 = .ok (.new 24, 3) := by decide +kernel
theorem dX2_init_57 : decode cX2_init 57 = .ok (.dup, 1) := by decide +kernel
theorem dX2_init_58 : decode cX2_init 58 = .ok (.invokespecial 30, 3) := by decide +kernel
theorem dX2_init_61 : decode cX2_init 61 = .ok (.aastore, 1) := by decide +kernel
theorem dX2_init_62 : decode cX2_init 62 = .ok (.iinc 4 1, 3) := by decide +kernel
theorem dX2_init_65 : decode cX2_init 65 = .ok (.goto (-27), 3) := by decide +kernel
theorem dX2_init_68 : decode cX2_init 68 = .ok (.aload_n 0, 1) := by decide +kernel
theorem dX2_init_69 : decode cX2_init 69 = .ok (.bipush 72, 2) := by decide +kernel
theorem dX2_init_71 : decode cX2_init 71 = .ok (.newarray .boolean, 2) := by decide +kernel
theorem dX2_init_73 : decode cX2_init 73 = .ok (.putfield 31, 3) := by decide +kernel
theorem dX2_init_76 : decode cX2_init 76 = .ok (.aload_n 0, 1) := by decide +kernel
theorem dX2_init_77 : decode cX2_init 77 = .ok (.bipush 36, 2) := by decide +kernel
theorem dX2_init_79 : decode cX2_init 79 = .ok (.newarray .int, 2) := by decide +kernel
theorem dX2_init_81 : decode cX2_init 81 = .ok (.putfield 35, 3) := by decide +kernel
theorem dX2_init_84 : decode cX2_init 84 = .ok (.return_, 1) := by decide +kernel
set_option maxRecDepth 20000 in
theorem ggX2_become_X0_become : GoodIn wsX2_become wsX0_become := goodIn_r _ [11, 12, 13, 14, 10, 15, 16, 17, 18, 19, 20, 21, 29, 30] (by decide +kernel) (by decide +kernel)
set_option maxRecDepth 20000 in
theorem gX2_become_X0_become : GoodIn wsX2_become (wsV RX2 39 RX0 yX0_become wsX0_become) := goodIn_app (goodIn_of _ (by decide +kernel)) ggX2_become_X0_become
theorem dX2_become_0 : decode cX2_become 0 = .ok (.aload_n 0, 1) := by decide +kernel
theorem dX2_become_1 : decode cX2_become 1 = .ok (.aload_n 1, 1) := by decide +kernel
theorem dX2_become_2 : decode cX2_become 2 = .ok (.getfield 9, 3) := by decide +kernel
theorem dX2_become_5 : decode cX2_become 5 = .ok (.putfield 9, 3) := by decide +kernel
theorem dX2_become_8 : decode cX2_become 8 = .ok (.aload_n 0, 1) := by decide +kernel
theorem dX2_become_9 : decode cX2_become 9 = .ok (.aload_n 1, 1) := by decide +kernel
theorem dX2_become_10 : decode cX2_become 10 = .ok (.getfield 15, 3) := by decide +kernel
theorem dX2_become_13 : decode cX2_become 13 = .ok (.putfield 15, 3) := by decide +kernel
theorem dX2_become_16 : decode cX2_become 16 = .ok (.aload_n 0, 1) := by decide +kernel
theorem dX2_become_17 : decode cX2_become 17 = .ok (.aload_n 1, 1) := by decide +kernel
theorem dX2_become_18 : decode cX2_become 18 = .ok (.getfield 18, 3) := by decide +kernel
theorem dX2_become_21 : decode cX2_become 21 = .ok (.putfield 18, 3) := by decide +kernel
theorem dX2_become_24 : decode cX2_become 24 = .ok (.aload_n 0, 1) := by decide +kernel
theorem dX2_become_25 : decode cX2_become 25 = .ok (.aload_n 1, 1) := by decide +kernel
theorem dX2_become_26 : decode cX2_become 26 = .ok (.getfield 21, 3) := by decide +kernel
theorem dX2_become_29 : decode cX2_become 29 = .ok (.putfield 21, 3) := by decide +kernel
theorem dX2_become_32 : decode cX2_become 32 = .ok (.iconst 0, 1) := by decide +kernel
theorem dX2_become_33 : decode cX2_become 33 = .ok (.istore_n 2, 1) := by decide +kernel
theorem dX2_become_34 : decode cX2_become 34 = .ok (.iload_n 2, 1) := by decide +kernel
theorem dX2_become_35 : decode cX2_become 35 = .ok (.aload_n 0, 1) := by decide +kernel
theorem dX2_become_36 : decode cX2_become 36 = .ok (.getfield 26, 3) := by decide +kernel
theorem dX2_become_39 : decode cX2_become 39 = .ok (.arraylength, 1) := by decide +kernel
theorem dX2_become_40 : decode cX2_become 40 = .ok (.if_icmp .ge 33, 3) := by decide +kernel
theorem dX2_become_43 : decode cX2_become 43 = .ok (.iload_n 2, 1) := by decide +kernel
theorem dX2_become_44 : decode cX2_become 44 = .ok (.aload_n 1, 1) := by decide +kernel
theorem dX2_become_45 : decode cX2_become 45 = .ok (.getfield 26, 3) := by decide +kernel
theorem dX2_become_48 : decode cX2_become 48 = .ok (.arraylength, 1) := by decide +kernel
theorem dX2_become_49 : decode cX2_become 49 = .ok (.if_icmp .ge 24, 3) := by decide +kernel
theorem dX2_become_52 : decode cX2_become 52 = .ok (.aload_n 0, 1) := by decide +kernel
theorem dX2_become_53 : decode cX2_become 53 = .ok (.getfield 26, 3) := by decide +kernel
theorem dX2_become_56 : decode cX2_become 56 = .ok (.iload_n 2, 1) := by decide +kernel
theorem dX2_become_57 : decode cX2_become 57 = .ok (.aaload, 1) := by decide +kernel
theorem dX2_become_58 : decode cX2_become 58 = .ok (.aload_n 1, 1) := by decide +kernel
theorem dX2_become_59 : decode cX2_become 59 = .ok (.getfield 26, 3) := by decide +kernel
theorem dX2_become_62 : decode cX2_become 62 = .ok (.iload_n 2, 1) := by decide +kernel
theorem dX2_become_63 : decode cX2_become 63 = .ok (.aaload, 1) := by decide +kernel
theorem dX2_become_64 : decode cX2_become 64 = .ok (.invokevirtual 39, 3) := by decide +kernel
theorem dX2_become_67 : decode cX2_become 67 = .ok (.iinc 2 1, 3) := by decide +kernel
theorem dX2_become_70 : decode cX2_become 70 = .ok (.goto (-36), 3) := by decide +kernel
theorem dX2_become_73 : decode cX2_become 73 = .ok (.iconst 0, 1) := by decide +kernel
theorem dX2_become_74 : decode cX2_become 74 = .ok (.istore_n 2, 1) := by decide +kernel
theorem dX2_become_75 : decode cX2_become 75 = .ok (.iload_n 2, 1) := by decide +kernel
theorem dX2_become_76 : decode cX2_become 76 = .ok (.aload_n 0, 1) := by decide +kernel
theorem dX2_become_77 : decode cX2_become 77 = .ok (.getfield 31, 3) := by decide +kernel
theorem dX2_become_80 : decode cX2_become 80 = .ok (.arraylength, 1) := by decide +kernel
theorem dX2_become_81 : decode cX2_become 81 = .ok (.if_icmp .ge 30, 3) := by decide +kernel
theorem dX2_become_84 : decode cX2_become 84 = .ok (.iload_n 2, 1) := by decide +kernel
theorem dX2_become_85 : decode cX2_become 85 = .ok (.aload_n 1, 1) := by decide +kernel
theorem dX2_become_86 : decode cX2_become 86 = .ok (.getfield 31, 3) := by decide +kernel
theorem dX2_become_89 : decode cX2_become 89 = .ok (.arraylength, 1) := by decide +kernel
theorem dX2_become_90 : decode cX2_become 90 = .ok (.if_icmp .ge 21, 3) := by decide +kernel
theorem dX2_become_93 : decode cX2_become 93 = .ok (.aload_n 0, 1) := by decide +kernel
theorem dX2_become_94 : decode cX2_become 94 = .ok (.getfield 31, 3) := by decide +kernel
theorem dX2_become_97 : decode cX2_become 97 = .ok (.iload_n 2, 1) := by decide +kernel
theorem dX2_become_98 : decode cX2_become 98 = .ok (.aload_n 1, 1) := by decide +kernel
theorem dX2_become_99 : decode cX2_become 99 = .ok (.getfield 31, 3) := by decide +kernel
theorem dX2_become_102 : decode cX2_become 102 = .ok (.iload_n 2, 1) := by decide +kernel
theorem dX2_become_103 : decode cX2_become 103 = .ok (.baload, 1) := by decide +kernel
theorem dX2_become_104 : decode cX2_become 104 = .ok (.bastore, 1) := by decide +kernel
theorem dX2_become_105 : decode cX2_become 105 = .ok (.iinc 2 1, 3) := by decide +kernel
theorem dX2_become_108 : decode cX2_become 108 = .ok (.goto (-33), 3) := by decide +kernel
theorem dX2_become_111 : decode cX2_become 111 = .ok (.return_, 1) := by decide +kernel
theorem dX2_otherOfPair_0 : decode cX2_otherOfPair 0 = .ok (.iload_n 1, 1) := by decide +kernel
theorem dX2_otherOfPair_1 : decode cX2_otherOfPair 1 = .ok (.ifCond .lt 19, 3) := by decide +kernel
theorem dX2_otherOfPair_4 : decode cX2_otherOfPair 4 = .ok (.iload_n 1, 1) := by decide +kernel
theorem dX2_otherOfPair_5 : decode cX2_otherOfPair 5 = .ok (.aload_n 0, 1) := by decide +kernel
theorem dX2_otherOfPair_6 : decode cX2_otherOfPair 6 = .ok (.getfield 21, 3) := by decide +kernel
theorem dX2_otherOfPair_9 : decode cX2_otherOfPair 9 = .ok (.if_icmp .ge 11, 3) := by decide +kernel
theorem dX2_otherOfPair_12 : decode cX2_otherOfPair 12 = .ok (.aload_n 0, 1) := by decide +kernel
theorem dX2_otherOfPair_13 : decode cX2_otherOfPair 13 = .ok (.getfield 9, 3) := by decide +kernel
theorem dX2_otherOfPair_16 : decode cX2_otherOfPair 16 = .ok (.iconst 1, 1) := by decide +kernel
theorem dX2_otherOfPair_17 : decode cX2_otherOfPair 17 = .ok (.if_icmp .ge 5, 3) := by decide +kernel
theorem dX2_otherOfPair_20 : decode cX2_otherOfPair 20 = .ok (.iconst (-1), 1) := by decide +kernel
theorem dX2_otherOfPair_21 : decode cX2_otherOfPair 21 = .ok (.ireturn, 1) := by decide +kernel
theorem dX2_otherOfPair_22 : decode cX2_otherOfPair 22 = .ok (.iload_n 2, 1) := by decide +kernel
theorem dX2_otherOfPair_23 : decode cX2_otherOfPair 23 = .ok (.ifCond .ne 26, 3) := by decide +kernel
theorem dX2_otherOfPair_26 : decode cX2_otherOfPair 26 = .ok (.iload_n 1, 1) := by decide +kernel
theorem dX2_otherOfPair_27 : decode cX2_otherOfPair 27 = .ok (.aload_n 0, 1) := by decide +kernel
theorem dX2_otherOfPair_28 : decode cX2_otherOfPair 28 = .ok (.getfield 9, 3) := by decide +kernel
theorem dX2_otherOfPair_31 : decode cX2_otherOfPair 31 = .ok (.irem, 1) := by decide +kernel
theorem dX2_otherOfPair_32 : decode cX2_otherOfPair 32 = .ok (.iconst 1, 1) := by decide +kernel
theorem dX2_otherOfPair_33 : decode cX2_otherOfPair 33 = .ok (.iadd, 1) := by decide +kernel
theorem dX2_otherOfPair_34 : decode cX2_otherOfPair 34 = .ok (.aload_n 0, 1) := by decide +kernel
theorem dX2_otherOfPair_35 : decode cX2_otherOfPair 35 = .ok (.getfield 9, 3) := by decide +kernel
theorem dX2_otherOfPair_38 : decode cX2_otherOfPair 38 = .ok (.if_icmp .ge 9, 3) := by decide +kernel
theorem dX2_otherOfPair_41 : decode cX2_otherOfPair 41 = .ok (.iload_n 1, 1) := by decide +kernel
theorem dX2_otherOfPair_42 : decode cX2_otherOfPair 42 = .ok (.iconst 1, 1) := by decide +kernel
theorem dX2_otherOfPair_43 : decode cX2_otherOfPair 43 = .ok (.iadd, 1) := by decide +kernel
theorem dX2_otherOfPair_44 : decode cX2_otherOfPair 44 = .ok (.goto 4, 3) := by decide +kernel
theorem dX2_otherOfPair_47 : decode cX2_otherOfPair 47 = .ok (.iconst (-1), 1) := by decide +kernel
theorem dX2_otherOfPair_48 : decode cX2_otherOfPair 48 = .ok (.ireturn, 1) := by decide +kernel
theorem dX2_otherOfPair_49 : decode cX2_otherOfPair 49 = .ok (.iload_n 2, 1) := by decide +kernel
theorem dX2_otherOfPair_50 : decode cX2_otherOfPair 50 = .ok (.iconst 1, 1) := by decide +kernel
theorem dX2_otherOfPair_51 : decode cX2_otherOfPair 51 = .ok (.if_icmp .ne 25, 3) := by decide +kernel
theorem dX2_otherOfPair_54 : decode cX2_otherOfPair 54 = .ok (.iload_n 1, 1) := by decide +kernel
theorem dX2_otherOfPair_55 : decode cX2_otherOfPair 55 = .ok (.aload_n 0, 1) := by decide +kernel
theorem dX2_otherOfPair_56 : decode cX2_otherOfPair 56 = .ok (.getfield 9, 3) := by decide +kernel
theorem dX2_otherOfPair_59 : decode cX2_otherOfPair 59 = .ok (.iadd, 1) := by decide +kernel
theorem dX2_otherOfPair_60 : decode cX2_otherOfPair 60 = .ok (.aload_n 0, 1) := by decide +kernel
theorem dX2_otherOfPair_61 : decode cX2_otherOfPair 61 = .ok (.getfield 21, 3) := by decide +kernel
theorem dX2_otherOfPair_64 : decode cX2_otherOfPair 64 = .ok (.if_icmp .ge 12, 3) := by decide +kernel
theorem dX2_otherOfPair_67 : decode cX2_otherOfPair 67 = .ok (.iload_n 1, 1) := by decide +kernel
theorem dX2_otherOfPair_68 : decode cX2_otherOfPair 68 = .ok (.aload_n 0, 1) := by decide +kernel
theorem dX2_otherOfPair_69 : decode cX2_otherOfPair 69 = .ok (.getfield 9, 3) := by decide +kernel
theorem dX2_otherOfPair_72 : decode cX2_otherOfPair 72 = .ok (.iadd, 1) := by decide +kernel
theorem dX2_otherOfPair_73 : decode cX2_otherOfPair 73 = .ok (.goto 4, 3) := by decide +kernel
theorem dX2_otherOfPair_76 : decode cX2_otherOfPair 76 = .ok (.iconst (-1), 1) := by decide +kernel
theorem dX2_otherOfPair_77 : decode cX2_otherOfPair 77 = .ok (.ireturn, 1) := by decide +kernel
set_option maxRecDepth 20000 in
theorem ggX2_isOpen_X2_otherOfPair : GoodIn wsX2_isOpen wsX2_otherOfPair := goodIn_r _ [6, 7, 8, 9, 10, 11, 12, 13, 14, 15] (by decide +kernel) (by decide +kernel)
set_option maxRecDepth 20000 in
theorem gX2_isOpen_X2_otherOfPair : GoodIn wsX2_isOpen (wsV RX2 43 RX2 yX2_otherOfPair wsX2_otherOfPair) := goodIn_app (goodIn_of _ (by decide +kernel)) ggX2_isOpen_X2_otherOfPair
theorem dX2_isOpen_0 : decode cX2_isOpen 0 = .ok (.iconst 2, 1) := by decide +kernel
theorem dX2_isOpen_1 : decode cX2_isOpen 1 = .ok (.iload_n 1, 1) := by decide +kernel
theorem dX2_isOpen_2 : decode cX2_isOpen 2 = .ok (.imul, 1) := by decide +kernel
theorem dX2_isOpen_3 : decode cX2_isOpen 3 = .ok (.iload_n 2, 1) := by decide +kernel
theorem dX2_isOpen_4 : decode cX2_isOpen 4 = .ok (.iadd, 1) := by decide +kernel
theorem dX2_isOpen_5 : decode cX2_isOpen 5 = .ok (.istore_n 3, 1) := by decide +kernel
theorem dX2_isOpen_6 : decode cX2_isOpen 6 = .ok (.aload_n 0, 1) := by decide +kernel
theorem dX2_isOpen_7 : decode cX2_isOpen 7 = .ok (.iload_n 1, 1) := by decide +kernel
theorem dX2_isOpen_8 : decode cX2_isOpen 8 = .ok (.iload_n 2, 1) := by decide +kernel
theorem dX2_isOpen_9 : decode cX2_isOpen 9 = .ok (.invokevirtual 43, 3) := by decide +kernel
theorem dX2_isOpen_12 : decode cX2_isOpen 12 = .ok (.ifCond .lt 29, 3) := by decide +kernel
theorem dX2_isOpen_15 : decode cX2_isOpen 15 = .ok (.iload_n 3, 1) := by decide +kernel
theorem dX2_isOpen_16 : decode cX2_isOpen 16 = .ok (.ifCond .lt 25, 3) := by decide +kernel
theorem dX2_isOpen_19 : decode cX2_isOpen 19 = .ok (.iload_n 3, 1) := by decide +kernel
theorem dX2_isOpen_20 : decode cX2_isOpen 20 = .ok (.aload_n 0, 1) := by decide +kernel
theorem dX2_isOpen_21 : decode cX2_isOpen 21 = .ok (.getfield 31, 3) := by decide +kernel
theorem dX2_isOpen_24 : decode cX2_isOpen 24 = .ok (.arraylength, 1) := by decide +kernel
theorem dX2_isOpen_25 : decode cX2_isOpen 25 = .ok (.if_icmp .ge 16, 3) := by decide +kernel
theorem dX2_isOpen_28 : decode cX2_isOpen 28 = .ok (.aload_n 0, 1) := by decide +kernel
theorem dX2_isOpen_29 : decode cX2_isOpen 29 = .ok (.getfield 31, 3) := by decide +kernel
theorem dX2_isOpen_32 : decode cX2_isOpen 32 = .ok (.iload_n 3, 1) := by decide +kernel
theorem dX2_isOpen_33 : decode cX2_isOpen 33 = .ok (.baload, 1) := by decide +kernel
theorem dX2_isOpen_34 : decode cX2_isOpen 34 = .ok (.ifCond .ne 7, 3) := by decide +kernel
theorem dX2_isOpen_37 : decode cX2_isOpen 37 = .ok (.iconst 1, 1) := by decide +kernel
theorem dX2_isOpen_38 : decode cX2_isOpen 38 = .ok (.goto 4, 3) := by decide +kernel
theorem dX2_isOpen_41 : decode cX2_isOpen 41 = .ok (.iconst 0, 1) := by decide +kernel
theorem dX2_isOpen_42 : decode cX2_isOpen 42 = .ok (.ireturn, 1) := by decide +kernel
theorem dX2_setSeam_0 : decode cX2_setSeam 0 = .ok (.iconst 2, 1) := by decide +kernel
theorem dX2_setSeam_1 : decode cX2_setSeam 1 = .ok (.iload_n 1, 1) := by decide +kernel
theorem dX2_setSeam_2 : decode cX2_setSeam 2 = .ok (.imul, 1) := by decide +kernel
theorem dX2_setSeam_3 : decode cX2_setSeam 3 = .ok (.iload_n 2, 1) := by decide +kernel
theorem dX2_setSeam_4 : decode cX2_setSeam 4 = .ok (.iadd, 1) := by decide +kernel
theorem dX2_setSeam_5 : decode cX2_setSeam 5 = .ok (.istore 4, 2) := by decide +kernel
theorem dX2_setSeam_7 : decode cX2_setSeam 7 = .ok (.iload 4, 2) := by decide +kernel
theorem dX2_setSeam_9 : decode cX2_setSeam 9 = .ok (.ifCond .lt 21, 3) := by decide +kernel
theorem dX2_setSeam_12 : decode cX2_setSeam 12 = .ok (.iload 4, 2) := by decide +kernel
theorem dX2_setSeam_14 : decode cX2_setSeam 14 = .ok (.aload_n 0, 1) := by decide +kernel
theorem dX2_setSeam_15 : decode cX2_setSeam 15 = .ok (.getfield 31, 3) := by decide +kernel
theorem dX2_setSeam_18 : decode cX2_setSeam 18 = .ok (.arraylength, 1) := by decide +kernel
theorem dX2_setSeam_19 : decode cX2_setSeam 19 = .ok (.if_icmp .ge 11, 3) := by decide +kernel
theorem dX2_setSeam_22 : decode cX2_setSeam 22 = .ok (.aload_n 0, 1) := by decide +kernel
theorem dX2_setSeam_23 : decode cX2_setSeam 23 = .ok (.getfield 31, 3) := by decide +kernel
theorem dX2_setSeam_26 : decode cX2_setSeam 26 = .ok (.iload 4, 2) := by decide +kernel
theorem dX2_setSeam_28 : decode cX2_setSeam 28 = .ok (.iload_n 3, 1) := by decide +kernel
theorem dX2_setSeam_29 : decode cX2_setSeam 29 = .ok (.bastore, 1) := by decide +kernel
theorem dX2_setSeam_30 : decode cX2_setSeam 30 = .ok (.return_, 1) := by decide +kernel
set_option maxRecDepth 20000 in
theorem ggX2_openPairs_X2_isOpen : GoodIn wsX2_openPairs wsX2_isOpen := goodIn_r _ [6, 7, 8, 9, 10, 5, 11, 1, 12, 13, 14, 15, 16, 17, 18, 19] (by decide +kernel) (by decide +kernel)
set_option maxRecDepth 20000 in
theorem gX2_openPairs_X2_isOpen : GoodIn wsX2_openPairs (wsV RX2 47 RX2 yX2_isOpen wsX2_isOpen) := goodIn_app (goodIn_of _ (by decide +kernel)) ggX2_openPairs_X2_isOpen
theorem dX2_openPairs_0 : decode cX2_openPairs 0 = .ok (.iconst 0, 1) := by decide +kernel
theorem dX2_openPairs_1 : decode cX2_openPairs 1 = .ok (.istore_n 1, 1) := by decide +kernel
theorem dX2_openPairs_2 : decode cX2_openPairs 2 = .ok (.iconst 0, 1) := by decide +kernel
theorem dX2_openPairs_3 : decode cX2_openPairs 3 = .ok (.istore_n 2, 1) := by decide +kernel
theorem dX2_openPairs_4 : decode cX2_openPairs 4 = .ok (.iload_n 2, 1) := by decide +kernel
theorem dX2_openPairs_5 : decode cX2_openPairs 5 = .ok (.aload_n 0, 1) := by decide +kernel
theorem dX2_openPairs_6 : decode cX2_openPairs 6 = .ok (.getfield 21, 3) := by decide +kernel
theorem dX2_openPairs_9 : decode cX2_openPairs 9 = .ok (.if_icmp .ge 39, 3) := by decide +kernel
theorem dX2_openPairs_12 : decode cX2_openPairs 12 = .ok (.iconst 0, 1) := by decide +kernel
theorem dX2_openPairs_13 : decode cX2_openPairs 13 = .ok (.istore_n 3, 1) := by decide +kernel
theorem dX2_openPairs_14 : decode cX2_openPairs 14 = .ok (.iload_n 3, 1) := by decide +kernel
theorem dX2_openPairs_15 : decode cX2_openPairs 15 = .ok (.iconst 2, 1) := by decide +kernel
theorem dX2_openPairs_16 : decode cX2_openPairs 16 = .ok (.if_icmp .ge 26, 3) := by decide +kernel
theorem dX2_openPairs_19 : decode cX2_openPairs 19 = .ok (.iload_n 1, 1) := by decide +kernel
theorem dX2_openPairs_20 : decode cX2_openPairs 20 = .ok (.aload_n 0, 1) := by decide +kernel
theorem dX2_openPairs_21 : decode cX2_openPairs 21 = .ok (.iload_n 2, 1) := by decide +kernel
theorem dX2_openPairs_22 : decode cX2_openPairs 22 = .ok (.iload_n 3, 1) := by decide +kernel
theorem dX2_openPairs_23 : decode cX2_openPairs 23 = .ok (.invokevirtual 47, 3) := by decide +kernel
theorem dX2_openPairs_26 : decode cX2_openPairs 26 = .ok (.ifCond .eq 7, 3) := by decide +kernel
theorem dX2_openPairs_29 : decode cX2_openPairs 29 = .ok (.iconst 1, 1) := by decide +kernel
theorem dX2_openPairs_30 : decode cX2_openPairs 30 = .ok (.goto 4, 3) := by decide +kernel
theorem dX2_openPairs_33 : decode cX2_openPairs 33 = .ok (.iconst 0, 1) := by decide +kernel
theorem dX2_openPairs_34 : decode cX2_openPairs 34 = .ok (.iadd, 1) := by decide +kernel
theorem dX2_openPairs_35 : decode cX2_openPairs 35 = .ok (.istore_n 1, 1) := by decide +kernel
theorem dX2_openPairs_36 : decode cX2_openPairs 36 = .ok (.iinc 3 1, 3) := by decide +kernel
theorem dX2_openPairs_39 : decode cX2_openPairs 39 = .ok (.goto (-25), 3) := by decide +kernel
theorem dX2_openPairs_42 : decode cX2_openPairs 42 = .ok (.iinc 2 1, 3) := by decide +kernel
theorem dX2_openPairs_45 : decode cX2_openPairs 45 = .ok (.goto (-41), 3) := by decide +kernel
theorem dX2_openPairs_48 : decode cX2_openPairs 48 = .ok (.iload_n 1, 1) := by decide +kernel
theorem dX2_openPairs_49 : decode cX2_openPairs 49 = .ok (.ireturn, 1) := by decide +kernel
set_option maxRecDepth 20000 in
theorem ggX2_parts_X2_isOpen : GoodIn wsX2_parts wsX2_isOpen := goodIn_r _ [7, 8, 9, 10, 11, 6, 12, 2, 13, 18, 19, 20, 21, 22, 23, 24] (by decide +kernel) (by decide +kernel)
set_option maxRecDepth 20000 in
theorem gX2_parts_X2_isOpen : GoodIn wsX2_parts (wsV RX2 47 RX2 yX2_isOpen wsX2_isOpen) := goodIn_app (goodIn_of _ (by decide +kernel)) ggX2_parts_X2_isOpen
set_option maxRecDepth 20000 in
theorem ggX2_parts_X2_otherOfPair : GoodIn wsX2_parts wsX2_otherOfPair := goodIn_r _ [12, 2, 13, 18, 19, 20, 21, 22, 23, 24] (by decide +kernel) (by decide +kernel)
set_option maxRecDepth 20000 in
theorem gX2_parts_X2_otherOfPair : GoodIn wsX2_parts (wsV RX2 43 RX2 yX2_otherOfPair wsX2_otherOfPair) := goodIn_app (goodIn_of _ (by decide +kernel)) ggX2_parts_X2_otherOfPair
set_option maxRecDepth 20000 in
theorem ggX2_parts_X2_joinParts : GoodIn wsX2_parts wsX2_joinParts := goodIn_r _ [17, 1, 18, 19, 20, 21, 22, 23, 24] (by decide +kernel) (by decide +kernel)
set_option maxRecDepth 20000 in
theorem gX2_parts_X2_joinParts : GoodIn wsX2_parts (wsV RX2 51 RX2 yX2_joinParts wsX2_joinParts) := goodIn_app (goodIn_of _ (by decide +kernel)) ggX2_parts_X2_joinParts
theorem dX2_parts_0 : decode cX2_parts 0 = .ok (.iconst 0, 1) := by decide +kernel
theorem dX2_parts_1 : decode cX2_parts 1 = .ok (.istore_n 1, 1) := by decide +kernel
theorem dX2_parts_2 : decode cX2_parts 2 = .ok (.iload_n 1, 1) := by decide +kernel
theorem dX2_parts_3 : decode cX2_parts 3 = .ok (.aload_n 0, 1) := by decide +kernel
theorem dX2_parts_4 : decode cX2_parts 4 = .ok (.getfield 35, 3) := by decide +kernel
theorem dX2_parts_7 : decode cX2_parts 7 = .ok (.arraylength, 1) := by decide +kernel
theorem dX2_parts_8 : decode cX2_parts 8 = .ok (.if_icmp .ge 16, 3) := by decide +kernel
theorem dX2_parts_11 : decode cX2_parts 11 = .ok (.aload_n 0, 1) := by decide +kernel
theorem dX2_parts_12 : decode cX2_parts 12 = .ok (.getfield 35, 3) := by decide +kernel
theorem dX2_parts_15 : decode cX2_parts 15 = .ok (.iload_n 1, 1) := by decide +kernel
theorem dX2_parts_16 : decode cX2_parts 16 = .ok (.iload_n 1, 1) := by decide +kernel
theorem dX2_parts_17 : decode cX2_parts 17 = .ok (.iastore, 1) := by decide +kernel
theorem dX2_parts_18 : decode cX2_parts 18 = .ok (.iinc 1 1, 3) := by decide +kernel
theorem dX2_parts_21 : decode cX2_parts 21 = .ok (.goto (-19), 3) := by decide +kernel
theorem dX2_parts_24 : decode cX2_parts 24 = .ok (.aload_n 0, 1) := by decide +kernel
theorem dX2_parts_25 : decode cX2_parts 25 = .ok (.getfield 21, 3) := by decide +kernel
theorem dX2_parts_28 : decode cX2_parts 28 = .ok (.istore_n 1, 1) := by decide +kernel
theorem dX2_parts_29 : decode cX2_parts 29 = .ok (.iconst 0, 1) := by decide +kernel
theorem dX2_parts_30 : decode cX2_parts 30 = .ok (.istore_n 2, 1) := by decide +kernel
theorem dX2_parts_31 : decode cX2_parts 31 = .ok (.iload_n 2, 1) := by decide +kernel
theorem dX2_parts_32 : decode cX2_parts 32 = .ok (.aload_n 0, 1) := by decide +kernel
theorem dX2_parts_33 : decode cX2_parts 33 = .ok (.getfield 21, 3) := by decide +kernel
theorem dX2_parts_36 : decode cX2_parts 36 = .ok (.if_icmp .ge 48, 3) := by decide +kernel
theorem dX2_parts_39 : decode cX2_parts 39 = .ok (.iconst 0, 1) := by decide +kernel
theorem dX2_parts_40 : decode cX2_parts 40 = .ok (.istore_n 3, 1) := by decide +kernel
theorem dX2_parts_41 : decode cX2_parts 41 = .ok (.iload_n 3, 1) := by decide +kernel
theorem dX2_parts_42 : decode cX2_parts 42 = .ok (.iconst 2, 1) := by decide +kernel
theorem dX2_parts_43 : decode cX2_parts 43 = .ok (.if_icmp .ge 35, 3) := by decide +kernel
theorem dX2_parts_46 : decode cX2_parts 46 = .ok (.aload_n 0, 1) := by decide +kernel
theorem dX2_parts_47 : decode cX2_parts 47 = .ok (.iload_n 2, 1) := by decide +kernel
theorem dX2_parts_48 : decode cX2_parts 48 = .ok (.iload_n 3, 1) := by decide +kernel
theorem dX2_parts_49 : decode cX2_parts 49 = .ok (.invokevirtual 47, 3) := by decide +kernel
theorem dX2_parts_52 : decode cX2_parts 52 = .ok (.ifCond .eq 20, 3) := by decide +kernel
theorem dX2_parts_55 : decode cX2_parts 55 = .ok (.aload_n 0, 1) := by decide +kernel
theorem dX2_parts_56 : decode cX2_parts 56 = .ok (.iload_n 2, 1) := by decide +kernel
theorem dX2_parts_57 : decode cX2_parts 57 = .ok (.aload_n 0, 1) := by decide +kernel
theorem dX2_parts_58 : decode cX2_parts 58 = .ok (.iload_n 2, 1) := by decide +kernel
theorem dX2_parts_59 : decode cX2_parts 59 = .ok (.iload_n 3, 1) := by decide +kernel
theorem dX2_parts_60 : decode cX2_parts 60 = .ok (.invokevirtual 43, 3) := by decide +kernel
theorem dX2_parts_63 : decode cX2_parts 63 = .ok (.invokevirtual 51, 3) := by decide +kernel
theorem dX2_parts_66 : decode cX2_parts 66 = .ok (.ifCond .eq 6, 3) := by decide +kernel
theorem dX2_parts_69 : decode cX2_parts 69 = .ok (.iinc 1 (-1), 3) := by decide +kernel
theorem dX2_parts_72 : decode cX2_parts 72 = .ok (.iinc 3 1, 3) := by decide +kernel
theorem dX2_parts_75 : decode cX2_parts 75 = .ok (.goto (-34), 3) := by decide +kernel
theorem dX2_parts_78 : decode cX2_parts 78 = .ok (.iinc 2 1, 3) := by decide +kernel
theorem dX2_parts_81 : decode cX2_parts 81 = .ok (.goto (-50), 3) := by decide +kernel
theorem dX2_parts_84 : decode cX2_parts 84 = .ok (.iload_n 1, 1) := by decide +kernel
theorem dX2_parts_85 : decode cX2_parts 85 = .ok (.ireturn, 1) := by decide +kernel
theorem dX2_joinParts_0 : decode cX2_joinParts 0 = .ok (.iload_n 1, 1) := by decide +kernel
theorem dX2_joinParts_1 : decode cX2_joinParts 1 = .ok (.ifCond .lt 25, 3) := by decide +kernel
theorem dX2_joinParts_4 : decode cX2_joinParts 4 = .ok (.iload_n 1, 1) := by decide +kernel
theorem dX2_joinParts_5 : decode cX2_joinParts 5 = .ok (.aload_n 0, 1) := by decide +kernel
theorem dX2_joinParts_6 : decode cX2_joinParts 6 = .ok (.getfield 35, 3) := by decide +kernel
theorem dX2_joinParts_9 : decode cX2_joinParts 9 = .ok (.arraylength, 1) := by decide +kernel
theorem dX2_joinParts_10 : decode cX2_joinParts 10 = .ok (.if_icmp .ge 16, 3) := by decide +kernel
theorem dX2_joinParts_13 : decode cX2_joinParts 13 = .ok (.iload_n 2, 1) := by decide +kernel
theorem dX2_joinParts_14 : decode cX2_joinParts 14 = .ok (.ifCond .lt 12, 3) := by decide +kernel
theorem dX2_joinParts_17 : decode cX2_joinParts 17 = .ok (.iload_n 2, 1) := by decide +kernel
theorem dX2_joinParts_18 : decode cX2_joinParts 18 = .ok (.aload_n 0, 1) := by decide +kernel
theorem dX2_joinParts_19 : decode cX2_joinParts 19 = .ok (.getfield 35, 3) := by decide +kernel
theorem dX2_joinParts_22 : decode cX2_joinParts 22 = .ok (.arraylength, 1) := by decide +kernel
theorem dX2_joinParts_23 : decode cX2_joinParts 23 = .ok (.if_icmp .lt 5, 3) := by decide +kernel
theorem dX2_joinParts_26 : decode cX2_joinParts 26 = .ok (.iconst 0, 1) := by decide +kernel
theorem dX2_joinParts_27 : decode cX2_joinParts 27 = .ok (.ireturn, 1) := by decide +kernel
theorem dX2_joinParts_28 : decode cX2_joinParts 28 = .ok (.aload_n 0, 1) := by decide +kernel
theorem dX2_joinParts_29 : decode cX2_joinParts 29 = .ok (.getfield 35, 3) := by decide +kernel
theorem dX2_joinParts_32 : decode cX2_joinParts 32 = .ok (.iload_n 1, 1) := by decide +kernel
theorem dX2_joinParts_33 : decode cX2_joinParts 33 = .ok (.iaload, 1) := by decide +kernel
theorem dX2_joinParts_34 : decode cX2_joinParts 34 = .ok (.istore_n 3, 1) := by decide +kernel
theorem dX2_joinParts_35 : decode cX2_joinParts 35 = .ok (.aload_n 0, 1) := by decide +kernel
theorem dX2_joinParts_36 : decode cX2_joinParts 36 = .ok (.getfield 35, 3) := by decide +kernel
theorem dX2_joinParts_39 : decode cX2_joinParts 39 = .ok (.iload_n 2, 1) := by decide +kernel
theorem dX2_joinParts_40 : decode cX2_joinParts 40 = .ok (.iaload, 1) := by decide +kernel
theorem dX2_joinParts_41 : decode cX2_joinParts 41 = .ok (.istore 4, 2) := by decide +kernel
theorem dX2_joinParts_43 : decode cX2_joinParts 43 = .ok (.iload_n 3, 1) := by decide +kernel
theorem dX2_joinParts_44 : decode cX2_joinParts 44 = .ok (.iload 4, 2) := by decide +kernel
theorem dX2_joinParts_46 : decode cX2_joinParts 46 = .ok (.if_icmp .ne 5, 3) := by decide +kernel
theorem dX2_joinParts_49 : decode cX2_joinParts 49 = .ok (.iconst 0, 1) := by decide +kernel
theorem dX2_joinParts_50 : decode cX2_joinParts 50 = .ok (.ireturn, 1) := by decide +kernel
theorem dX2_joinParts_51 : decode cX2_joinParts 51 = .ok (.iconst 0, 1) := by decide +kernel
theorem dX2_joinParts_52 : decode cX2_joinParts 52 = .ok (.istore 5, 2) := by decide +kernel
theorem dX2_joinParts_54 : decode cX2_joinParts 54 = .ok (.iload 5, 2) := by decide +kernel
theorem dX2_joinParts_56 : decode cX2_joinParts 56 = .ok (.aload_n 0, 1) := by decide +kernel
theorem dX2_joinParts_57 : decode cX2_joinParts 57 = .ok (.getfield 35, 3) := by decide +kernel
theorem dX2_joinParts_60 : decode cX2_joinParts 60 = .ok (.arraylength, 1) := by decide +kernel
theorem dX2_joinParts_61 : decode cX2_joinParts 61 = .ok (.if_icmp .ge 29, 3) := by decide +kernel
theorem dX2_joinParts_64 : decode cX2_joinParts 64 = .ok (.aload_n 0, 1) := by decide +kernel
theorem dX2_joinParts_65 : decode cX2_joinParts 65 = .ok (.getfield 35, 3) := by decide +kernel
theorem dX2_joinParts_68 : decode cX2_joinParts 68 = .ok (.iload 5, 2) := by decide +kernel
theorem dX2_joinParts_70 : decode cX2_joinParts 70 = .ok (.iaload, 1) := by decide +kernel
theorem dX2_joinParts_71 : decode cX2_joinParts 71 = .ok (.iload 4, 2) := by decide +kernel
theorem dX2_joinParts_73 : decode cX2_joinParts 73 = .ok (.if_icmp .ne 11, 3) := by decide +kernel
theorem dX2_joinParts_76 : decode cX2_joinParts 76 = .ok (.aload_n 0, 1) := by decide +kernel
theorem dX2_joinParts_77 : decode cX2_joinParts 77 = .ok (.getfield 35, 3) := by decide +kernel
theorem dX2_joinParts_80 : decode cX2_joinParts 80 = .ok (.iload 5, 2) := by decide +kernel
theorem dX2_joinParts_82 : decode cX2_joinParts 82 = .ok (.iload_n 3, 1) := by decide +kernel
theorem dX2_joinParts_83 : decode cX2_joinParts 83 = .ok (.iastore, 1) := by decide +kernel
theorem dX2_joinParts_84 : decode cX2_joinParts 84 = .ok (.iinc 5 1, 3) := by decide +kernel
theorem dX2_joinParts_87 : decode cX2_joinParts 87 = .ok (.goto (-33), 3) := by decide +kernel
theorem dX2_joinParts_90 : decode cX2_joinParts 90 = .ok (.iconst 1, 1) := by decide +kernel
theorem dX2_joinParts_91 : decode cX2_joinParts 91 = .ok (.ireturn, 1) := by decide +kernel
theorem dX2_feathers_0 : decode cX2_feathers 0 = .ok (.iconst 0, 1) := by decide +kernel
theorem dX2_feathers_1 : decode cX2_feathers 1 = .ok (.istore_n 1, 1) := by decide +kernel
theorem dX2_feathers_2 : decode cX2_feathers 2 = .ok (.iconst 0, 1) := by decide +kernel
theorem dX2_feathers_3 : decode cX2_feathers 3 = .ok (.istore_n 2, 1) := by decide +kernel
theorem dX2_feathers_4 : decode cX2_feathers 4 = .ok (.iload_n 2, 1) := by decide +kernel
theorem dX2_feathers_5 : decode cX2_feathers 5 = .ok (.aload_n 0, 1) := by decide +kernel
theorem dX2_feathers_6 : decode cX2_feathers 6 = .ok (.getfield 26, 3) := by decide +kernel
theorem dX2_feathers_9 : decode cX2_feathers 9 = .ok (.arraylength, 1) := by decide +kernel
theorem dX2_feathers_10 : decode cX2_feathers 10 = .ok (.if_icmp .ge 21, 3) := by decide +kernel
theorem dX2_feathers_13 : decode cX2_feathers 13 = .ok (.iload_n 1, 1) := by decide +kernel
theorem dX2_feathers_14 : decode cX2_feathers 14 = .ok (.aload_n 0, 1) := by decide +kernel
theorem dX2_feathers_15 : decode cX2_feathers 15 = .ok (.getfield 26, 3) := by decide +kernel
theorem dX2_feathers_18 : decode cX2_feathers 18 = .ok (.iload_n 2, 1) := by decide +kernel
theorem dX2_feathers_19 : decode cX2_feathers 19 = .ok (.aaload, 1) := by decide +kernel
theorem dX2_feathers_20 : decode cX2_feathers 20 = .ok (.getfield 54, 3) := by decide +kernel
theorem dX2_feathers_23 : decode cX2_feathers 23 = .ok (.iadd, 1) := by decide +kernel
theorem dX2_feathers_24 : decode cX2_feathers 24 = .ok (.istore_n 1, 1) := by decide +kernel
theorem dX2_feathers_25 : decode cX2_feathers 25 = .ok (.iinc 2 1, 3) := by decide +kernel
theorem dX2_feathers_28 : decode cX2_feathers 28 = .ok (.goto (-24), 3) := by decide +kernel
theorem dX2_feathers_31 : decode cX2_feathers 31 = .ok (.iload_n 1, 1) := by decide +kernel
theorem dX2_feathers_32 : decode cX2_feathers 32 = .ok (.ireturn, 1) := by decide +kernel
set_option maxRecDepth 20000 in
theorem ggX2_warmthInAll_X0_warmth : GoodIn wsX2_warmthInAll wsX0_warmth := goodIn_r _ [6, 7, 8, 9, 10, 11, 19, 20] (by decide +kernel) (by decide +kernel)
set_option maxRecDepth 20000 in
theorem gX2_warmthInAll_X0_warmth : GoodIn wsX2_warmthInAll (wsV RX2 57 RX0 yX0_warmth wsX0_warmth) := goodIn_app (goodIn_of _ (by decide +kernel)) ggX2_warmthInAll_X0_warmth
theorem dX2_warmthInAll_0 : decode cX2_warmthInAll 0 = .ok (.iconst 0, 1) := by decide +kernel
theorem dX2_warmthInAll_1 : decode cX2_warmthInAll 1 = .ok (.istore_n 1, 1) := by decide +kernel
theorem dX2_warmthInAll_2 : decode cX2_warmthInAll 2 = .ok (.iconst 0, 1) := by decide +kernel
theorem dX2_warmthInAll_3 : decode cX2_warmthInAll 3 = .ok (.istore_n 2, 1) := by decide +kernel
theorem dX2_warmthInAll_4 : decode cX2_warmthInAll 4 = .ok (.iload_n 2, 1) := by decide +kernel
theorem dX2_warmthInAll_5 : decode cX2_warmthInAll 5 = .ok (.aload_n 0, 1) := by decide +kernel
theorem dX2_warmthInAll_6 : decode cX2_warmthInAll 6 = .ok (.getfield 26, 3) := by decide +kernel
theorem dX2_warmthInAll_9 : decode cX2_warmthInAll 9 = .ok (.arraylength, 1) := by decide +kernel
theorem dX2_warmthInAll_10 : decode cX2_warmthInAll 10 = .ok (.if_icmp .ge 21, 3) := by decide +kernel
theorem dX2_warmthInAll_13 : decode cX2_warmthInAll 13 = .ok (.iload_n 1, 1) := by decide +kernel
theorem dX2_warmthInAll_14 : decode cX2_warmthInAll 14 = .ok (.aload_n 0, 1) := by decide +kernel
theorem dX2_warmthInAll_15 : decode cX2_warmthInAll 15 = .ok (.getfield 26, 3) := by decide +kernel
theorem dX2_warmthInAll_18 : decode cX2_warmthInAll 18 = .ok (.iload_n 2, 1) := by decide +kernel
theorem dX2_warmthInAll_19 : decode cX2_warmthInAll 19 = .ok (.aaload, 1) := by decide +kernel
theorem dX2_warmthInAll_20 : decode cX2_warmthInAll 20 = .ok (.invokevirtual 57, 3) := by decide +kernel
theorem dX2_warmthInAll_23 : decode cX2_warmthInAll 23 = .ok (.iadd, 1) := by decide +kernel
theorem dX2_warmthInAll_24 : decode cX2_warmthInAll 24 = .ok (.istore_n 1, 1) := by decide +kernel
theorem dX2_warmthInAll_25 : decode cX2_warmthInAll 25 = .ok (.iinc 2 1, 3) := by decide +kernel
theorem dX2_warmthInAll_28 : decode cX2_warmthInAll 28 = .ok (.goto (-24), 3) := by decide +kernel
theorem dX2_warmthInAll_31 : decode cX2_warmthInAll 31 = .ok (.iload_n 1, 1) := by decide +kernel
theorem dX2_warmthInAll_32 : decode cX2_warmthInAll 32 = .ok (.ireturn, 1) := by decide +kernel
set_option maxRecDepth 20000 in
theorem ggX2_warmthAt_X0_warmth : GoodIn wsX2_warmthAt wsX0_warmth := goodIn_r _ [6, 7, 8, 9, 10, 11, 19, 20] (by decide +kernel) (by decide +kernel)
set_option maxRecDepth 20000 in
theorem gX2_warmthAt_X0_warmth : GoodIn wsX2_warmthAt (wsV RX2 57 RX0 yX0_warmth wsX0_warmth) := goodIn_app (goodIn_of _ (by decide +kernel)) ggX2_warmthAt_X0_warmth
theorem dX2_warmthAt_0 : decode cX2_warmthAt 0 = .ok (.iload_n 1, 1) := by decide +kernel
theorem dX2_warmthAt_1 : decode cX2_warmthAt 1 = .ok (.ifCond .lt 24, 3) := by decide +kernel
theorem dX2_warmthAt_4 : decode cX2_warmthAt 4 = .ok (.iload_n 1, 1) := by decide +kernel
theorem dX2_warmthAt_5 : decode cX2_warmthAt 5 = .ok (.aload_n 0, 1) := by decide +kernel
theorem dX2_warmthAt_6 : decode cX2_warmthAt 6 = .ok (.getfield 26, 3) := by decide +kernel
theorem dX2_warmthAt_9 : decode cX2_warmthAt 9 = .ok (.arraylength, 1) := by decide +kernel
theorem dX2_warmthAt_10 : decode cX2_warmthAt 10 = .ok (.if_icmp .ge 15, 3) := by decide +kernel
theorem dX2_warmthAt_13 : decode cX2_warmthAt 13 = .ok (.aload_n 0, 1) := by decide +kernel
theorem dX2_warmthAt_14 : decode cX2_warmthAt 14 = .ok (.getfield 26, 3) := by decide +kernel
theorem dX2_warmthAt_17 : decode cX2_warmthAt 17 = .ok (.iload_n 1, 1) := by decide +kernel
theorem dX2_warmthAt_18 : decode cX2_warmthAt 18 = .ok (.aaload, 1) := by decide +kernel
theorem dX2_warmthAt_19 : decode cX2_warmthAt 19 = .ok (.invokevirtual 57, 3) := by decide +kernel
theorem dX2_warmthAt_22 : decode cX2_warmthAt 22 = .ok (.goto 4, 3) := by decide +kernel
theorem dX2_warmthAt_25 : decode cX2_warmthAt 25 = .ok (.iconst 0, 1) := by decide +kernel
theorem dX2_warmthAt_26 : decode cX2_warmthAt 26 = .ok (.ireturn, 1) := by decide +kernel
set_option maxRecDepth 20000 in
theorem ggX2_coldestSquare_X2_warmthAt : GoodIn wsX2_coldestSquare wsX2_warmthAt := goodIn_r _ [6, 7, 8, 9, 10, 11, 12, 13, 14, 15, 16, 17, 18, 19, 20, 21, 22, 23, 24, 25, 26] (by decide +kernel) (by decide +kernel)
set_option maxRecDepth 20000 in
theorem gX2_coldestSquare_X2_warmthAt : GoodIn wsX2_coldestSquare (wsV RX2 61 RX2 yX2_warmthAt wsX2_warmthAt) := goodIn_app (goodIn_of _ (by decide +kernel)) ggX2_coldestSquare_X2_warmthAt
theorem dX2_coldestSquare_0 : decode cX2_coldestSquare 0 = .ok (.iconst 0, 1) := by decide +kernel
theorem dX2_coldestSquare_1 : decode cX2_coldestSquare 1 = .ok (.istore_n 1, 1) := by decide +kernel
theorem dX2_coldestSquare_2 : decode cX2_coldestSquare 2 = .ok (.iconst 1, 1) := by decide +kernel
theorem dX2_coldestSquare_3 : decode cX2_coldestSquare 3 = .ok (.istore_n 2, 1) := by decide +kernel
theorem dX2_coldestSquare_4 : decode cX2_coldestSquare 4 = .ok (.iload_n 2, 1) := by decide +kernel
theorem dX2_coldestSquare_5 : decode cX2_coldestSquare 5 = .ok (.aload_n 0, 1) := by decide +kernel
theorem dX2_coldestSquare_6 : decode cX2_coldestSquare 6 = .ok (.getfield 21, 3) := by decide +kernel
theorem dX2_coldestSquare_9 : decode cX2_coldestSquare 9 = .ok (.if_icmp .ge 24, 3) := by decide +kernel
theorem dX2_coldestSquare_12 : decode cX2_coldestSquare 12 = .ok (.aload_n 0, 1) := by decide +kernel
theorem dX2_coldestSquare_13 : decode cX2_coldestSquare 13 = .ok (.iload_n 2, 1) := by decide +kernel
theorem dX2_coldestSquare_14 : decode cX2_coldestSquare 14 = .ok (.invokevirtual 61, 3) := by decide +kernel
theorem dX2_coldestSquare_17 : decode cX2_coldestSquare 17 = .ok (.aload_n 0, 1) := by decide +kernel
theorem dX2_coldestSquare_18 : decode cX2_coldestSquare 18 = .ok (.iload_n 1, 1) := by decide +kernel
theorem dX2_coldestSquare_19 : decode cX2_coldestSquare 19 = .ok (.invokevirtual 61, 3) := by decide +kernel
theorem dX2_coldestSquare_22 : decode cX2_coldestSquare 22 = .ok (.if_icmp .ge 5, 3) := by decide +kernel
theorem dX2_coldestSquare_25 : decode cX2_coldestSquare 25 = .ok (.iload_n 2, 1) := by decide +kernel
theorem dX2_coldestSquare_26 : decode cX2_coldestSquare 26 = .ok (.istore_n 1, 1) := by decide +kernel
theorem dX2_coldestSquare_27 : decode cX2_coldestSquare 27 = .ok (.iinc 2 1, 3) := by decide +kernel
theorem dX2_coldestSquare_30 : decode cX2_coldestSquare 30 = .ok (.goto (-26), 3) := by decide +kernel
theorem dX2_coldestSquare_33 : decode cX2_coldestSquare 33 = .ok (.iload_n 1, 1) := by decide +kernel
theorem dX2_coldestSquare_34 : decode cX2_coldestSquare 34 = .ok (.ireturn, 1) := by decide +kernel
set_option maxRecDepth 20000 in
theorem ggX2_coldestWarmth_X2_coldestSquare : GoodIn wsX2_coldestWarmth wsX2_coldestSquare := goodIn_r _ [5, 6, 7, 8, 9, 4, 10, 11, 12, 13, 14, 15, 16, 17, 18, 19, 20, 21, 22, 23, 24, 25, 26, 27, 28, 29, 30] (by decide +kernel) (by decide +kernel)
set_option maxRecDepth 20000 in
theorem gX2_coldestWarmth_X2_coldestSquare : GoodIn wsX2_coldestWarmth (wsV RX2 65 RX2 yX2_coldestSquare wsX2_coldestSquare) := goodIn_app (goodIn_of _ (by decide +kernel)) ggX2_coldestWarmth_X2_coldestSquare
set_option maxRecDepth 20000 in
theorem ggX2_coldestWarmth_X2_warmthAt : GoodIn wsX2_coldestWarmth wsX2_warmthAt := goodIn_r _ [10, 11, 12, 13, 14, 15, 16, 17, 18, 19, 20, 21, 22, 23, 24, 25, 26, 27, 28, 29, 30] (by decide +kernel) (by decide +kernel)
set_option maxRecDepth 20000 in
theorem gX2_coldestWarmth_X2_warmthAt : GoodIn wsX2_coldestWarmth (wsV RX2 61 RX2 yX2_warmthAt wsX2_warmthAt) := goodIn_app (goodIn_of _ (by decide +kernel)) ggX2_coldestWarmth_X2_warmthAt
theorem dX2_coldestWarmth_0 : decode cX2_coldestWarmth 0 = .ok (.aload_n 0, 1) := by decide +kernel
theorem dX2_coldestWarmth_1 : decode cX2_coldestWarmth 1 = .ok (.aload_n 0, 1) := by decide +kernel
theorem dX2_coldestWarmth_2 : decode cX2_coldestWarmth 2 = .ok (.invokevirtual 65, 3) := by decide +kernel
theorem dX2_coldestWarmth_5 : decode cX2_coldestWarmth 5 = .ok (.invokevirtual 61, 3) := by decide +kernel
theorem dX2_coldestWarmth_8 : decode cX2_coldestWarmth 8 = .ok (.ireturn, 1) := by decide +kernel
set_option maxRecDepth 20000 in
theorem ggX2_tells_X2_feathers : GoodIn wsX2_tells wsX2_feathers := goodIn_r _ [8, 9, 59, 60, 61, 62, 63, 64, 65, 66, 67] (by decide +kernel) (by decide +kernel)
set_option maxRecDepth 20000 in
theorem gX2_tells_X2_feathers : GoodIn wsX2_tells (wsV RX2 68 RX2 yX2_feathers wsX2_feathers) := goodIn_app (goodIn_of _ (by decide +kernel)) ggX2_tells_X2_feathers
set_option maxRecDepth 20000 in
theorem ggX2_tells_X2_warmthInAll : GoodIn wsX2_tells wsX2_warmthInAll := goodIn_r _ [13, 9, 14, 15, 16, 17, 18, 19, 20, 21, 22, 23, 59, 60, 61, 62, 63, 64, 65, 66, 67] (by decide +kernel) (by decide +kernel)
set_option maxRecDepth 20000 in
theorem gX2_tells_X2_warmthInAll : GoodIn wsX2_tells (wsV RX2 71 RX2 yX2_warmthInAll wsX2_warmthInAll) := goodIn_app (goodIn_of _ (by decide +kernel)) ggX2_tells_X2_warmthInAll
set_option maxRecDepth 20000 in
theorem ggX2_tells_X2_coldestWarmth : GoodIn wsX2_tells wsX2_coldestWarmth := goodIn_r _ [27, 28, 29, 30, 7, 31, 32, 33, 34, 35, 36, 9, 14, 15, 16, 17, 18, 19, 20, 21, 22, 23, 59, 60, 61, 62, 63, 64, 65, 66, 67] (by decide +kernel) (by decide +kernel)
set_option maxRecDepth 20000 in
theorem gX2_tells_X2_coldestWarmth : GoodIn wsX2_tells (wsV RX2 74 RX2 yX2_coldestWarmth wsX2_coldestWarmth) := goodIn_app (goodIn_of _ (by decide +kernel)) ggX2_tells_X2_coldestWarmth
set_option maxRecDepth 20000 in
theorem ggX2_tells_X2_coldestSquare : GoodIn wsX2_tells wsX2_coldestSquare := goodIn_r _ [31, 32, 33, 34, 35, 7, 36, 9, 14, 15, 16, 17, 18, 19, 20, 21, 22, 23, 59, 60, 61, 62, 63, 64, 65, 66, 67] (by decide +kernel) (by decide +kernel)
set_option maxRecDepth 20000 in
theorem gX2_tells_X2_coldestSquare : GoodIn wsX2_tells (wsV RX2 65 RX2 yX2_coldestSquare wsX2_coldestSquare) := goodIn_app (goodIn_of _ (by decide +kernel)) ggX2_tells_X2_coldestSquare
set_option maxRecDepth 20000 in
theorem ggX2_tells_X2_openPairs : GoodIn wsX2_tells wsX2_openPairs := goodIn_r _ [40, 32, 41, 42, 43, 7, 44, 45, 46, 47, 48, 49, 1, 59, 60, 61, 62, 63, 64, 65] (by decide +kernel) (by decide +kernel)
set_option maxRecDepth 20000 in
theorem gX2_tells_X2_openPairs : GoodIn wsX2_tells (wsV RX2 77 RX2 yX2_openPairs wsX2_openPairs) := goodIn_app (goodIn_of _ (by decide +kernel)) ggX2_tells_X2_openPairs
set_option maxRecDepth 20000 in
theorem ggX2_tells_X2_parts : GoodIn wsX2_tells wsX2_parts := goodIn_r _ [53, 54, 32, 41, 42, 43, 7, 44, 45, 46, 47, 48, 49, 1, 55, 56, 57, 58, 59, 60, 61, 62, 63, 64, 65] (by decide +kernel) (by decide +kernel)
set_option maxRecDepth 20000 in
theorem gX2_tells_X2_parts : GoodIn wsX2_tells (wsV RX2 80 RX2 yX2_parts wsX2_parts) := goodIn_app (goodIn_of _ (by decide +kernel)) ggX2_tells_X2_parts
theorem dX2_tells_0 : decode cX2_tells 0 = .ok (.iload_n 1, 1) := by decide +kernel
theorem dX2_tells_1 : decode cX2_tells 1 = .ok (.tableswitch 87 0 7 #[47, 52, 57, 62, 67, 72, 77, 82], 47) := by decide +kernel
theorem dX2_tells_48 : decode cX2_tells 48 = .ok (.aload_n 0, 1) := by decide +kernel
theorem dX2_tells_49 : decode cX2_tells 49 = .ok (.getfield 9, 3) := by decide +kernel
theorem dX2_tells_52 : decode cX2_tells 52 = .ok (.ireturn, 1) := by decide +kernel
theorem dX2_tells_53 : decode cX2_tells 53 = .ok (.aload_n 0, 1) := by decide +kernel
theorem dX2_tells_54 : decode cX2_tells 54 = .ok (.getfield 15, 3) := by decide +kernel
theorem dX2_tells_57 : decode cX2_tells 57 = .ok (.ireturn, 1) := by decide +kernel
theorem dX2_tells_58 : decode cX2_tells 58 = .ok (.aload_n 0, 1) := by decide +kernel
theorem dX2_tells_59 : decode cX2_tells 59 = .ok (.getfield 18, 3) := by decide +kernel
theorem dX2_tells_62 : decode cX2_tells 62 = .ok (.ireturn, 1) := by decide +kernel
theorem dX2_tells_63 : decode cX2_tells 63 = .ok (.aload_n 0, 1) := by decide +kernel
theorem dX2_tells_64 : decode cX2_tells 64 = .ok (.invokevirtual 68, 3) := by decide +kernel
theorem dX2_tells_67 : decode cX2_tells 67 = .ok (.ireturn, 1) := by decide +kernel
theorem dX2_tells_68 : decode cX2_tells 68 = .ok (.aload_n 0, 1) := by decide +kernel
theorem dX2_tells_69 : decode cX2_tells 69 = .ok (.invokevirtual 71, 3) := by decide +kernel
theorem dX2_tells_72 : decode cX2_tells 72 = .ok (.ireturn, 1) := by decide +kernel
theorem dX2_tells_73 : decode cX2_tells 73 = .ok (.aload_n 0, 1) := by decide +kernel
theorem dX2_tells_74 : decode cX2_tells 74 = .ok (.invokevirtual 74, 3) := by decide +kernel
theorem dX2_tells_77 : decode cX2_tells 77 = .ok (.ireturn, 1) := by decide +kernel
theorem dX2_tells_78 : decode cX2_tells 78 = .ok (.aload_n 0, 1) := by decide +kernel
theorem dX2_tells_79 : decode cX2_tells 79 = .ok (.invokevirtual 65, 3) := by decide +kernel
theorem dX2_tells_82 : decode cX2_tells 82 = .ok (.ireturn, 1) := by decide +kernel
theorem dX2_tells_83 : decode cX2_tells 83 = .ok (.aload_n 0, 1) := by decide +kernel
theorem dX2_tells_84 : decode cX2_tells 84 = .ok (.invokevirtual 77, 3) := by decide +kernel
theorem dX2_tells_87 : decode cX2_tells 87 = .ok (.ireturn, 1) := by decide +kernel
theorem dX2_tells_88 : decode cX2_tells 88 = .ok (.aload_n 0, 1) := by decide +kernel
theorem dX2_tells_89 : decode cX2_tells 89 = .ok (.invokevirtual 80, 3) := by decide +kernel
theorem dX2_tells_92 : decode cX2_tells 92 = .ok (.ireturn, 1) := by decide +kernel
set_option maxRecDepth 20000 in
theorem ggX2_squareTells_X0_of : GoodIn wsX2_squareTells wsX0_of := goodIn_r _ [6, 7, 35, 36] (by decide +kernel) (by decide +kernel)
set_option maxRecDepth 20000 in
theorem gX2_squareTells_X0_of : GoodIn wsX2_squareTells (wsV RX2 83 RX0 yX0_of wsX0_of) := goodIn_app (goodIn_of _ (by decide +kernel)) ggX2_squareTells_X0_of
set_option maxRecDepth 20000 in
theorem ggX2_squareTells_X0_warmth : GoodIn wsX2_squareTells wsX0_warmth := goodIn_r _ [11, 7, 12, 13, 14, 15, 35, 36] (by decide +kernel) (by decide +kernel)
set_option maxRecDepth 20000 in
theorem gX2_squareTells_X0_warmth : GoodIn wsX2_squareTells (wsV RX2 57 RX0 yX0_warmth wsX0_warmth) := goodIn_app (goodIn_of _ (by decide +kernel)) ggX2_squareTells_X0_warmth
set_option maxRecDepth 20000 in
theorem ggX2_squareTells_X2_isOpen : GoodIn wsX2_squareTells wsX2_isOpen := goodIn_r _ [20, 21, 22, 23, 24, 19, 25, 26, 27, 28, 29, 30, 31, 32, 33, 34] (by decide +kernel) (by decide +kernel)
set_option maxRecDepth 20000 in
theorem gX2_squareTells_X2_isOpen : GoodIn wsX2_squareTells (wsV RX2 47 RX2 yX2_isOpen wsX2_isOpen) := goodIn_app (goodIn_of _ (by decide +kernel)) ggX2_squareTells_X2_isOpen
theorem dX2_squareTells_0 : decode cX2_squareTells 0 = .ok (.iload_n 1, 1) := by decide +kernel
theorem dX2_squareTells_1 : decode cX2_squareTells 1 = .ok (.ifCond .lt 12, 3) := by decide +kernel
theorem dX2_squareTells_4 : decode cX2_squareTells 4 = .ok (.iload_n 1, 1) := by decide +kernel
theorem dX2_squareTells_5 : decode cX2_squareTells 5 = .ok (.aload_n 0, 1) := by decide +kernel
theorem dX2_squareTells_6 : decode cX2_squareTells 6 = .ok (.getfield 26, 3) := by decide +kernel
theorem dX2_squareTells_9 : decode cX2_squareTells 9 = .ok (.arraylength, 1) := by decide +kernel
theorem dX2_squareTells_10 : decode cX2_squareTells 10 = .ok (.if_icmp .lt 5, 3) := by decide +kernel
theorem dX2_squareTells_13 : decode cX2_squareTells 13 = .ok (.iconst 0, 1) := by decide +kernel
theorem dX2_squareTells_14 : decode cX2_squareTells 14 = .ok (.ireturn, 1) := by decide +kernel
theorem dX2_squareTells_15 : decode cX2_squareTells 15 = .ok (.iload_n 2, 1) := by decide +kernel
theorem dX2_squareTells_16 : decode cX2_squareTells 16 = .ok (.bipush 6, 2) := by decide +kernel
theorem dX2_squareTells_18 : decode cX2_squareTells 18 = .ok (.if_icmp .ge 14, 3) := by decide +kernel
theorem dX2_squareTells_21 : decode cX2_squareTells 21 = .ok (.aload_n 0, 1) := by decide +kernel
theorem dX2_squareTells_22 : decode cX2_squareTells 22 = .ok (.getfield 26, 3) := by decide +kernel
theorem dX2_squareTells_25 : decode cX2_squareTells 25 = .ok (.iload_n 1, 1) := by decide +kernel
theorem dX2_squareTells_26 : decode cX2_squareTells 26 = .ok (.aaload, 1) := by decide +kernel
theorem dX2_squareTells_27 : decode cX2_squareTells 27 = .ok (.iload_n 2, 1) := by decide +kernel
theorem dX2_squareTells_28 : decode cX2_squareTells 28 = .ok (.invokevirtual 83, 3) := by decide +kernel
theorem dX2_squareTells_31 : decode cX2_squareTells 31 = .ok (.ireturn, 1) := by decide +kernel
theorem dX2_squareTells_32 : decode cX2_squareTells 32 = .ok (.iload_n 2, 1) := by decide +kernel
theorem dX2_squareTells_33 : decode cX2_squareTells 33 = .ok (.tableswitch 62 6 8 #[27, 37, 47], 27) := by decide +kernel
theorem dX2_squareTells_60 : decode cX2_squareTells 60 = .ok (.aload_n 0, 1) := by decide +kernel
theorem dX2_squareTells_61 : decode cX2_squareTells 61 = .ok (.getfield 26, 3) := by decide +kernel
theorem dX2_squareTells_64 : decode cX2_squareTells 64 = .ok (.iload_n 1, 1) := by decide +kernel
theorem dX2_squareTells_65 : decode cX2_squareTells 65 = .ok (.aaload, 1) := by decide +kernel
theorem dX2_squareTells_66 : decode cX2_squareTells 66 = .ok (.getfield 54, 3) := by decide +kernel
theorem dX2_squareTells_69 : decode cX2_squareTells 69 = .ok (.ireturn, 1) := by decide +kernel
theorem dX2_squareTells_70 : decode cX2_squareTells 70 = .ok (.aload_n 0, 1) := by decide +kernel
theorem dX2_squareTells_71 : decode cX2_squareTells 71 = .ok (.getfield 26, 3) := by decide +kernel
theorem dX2_squareTells_74 : decode cX2_squareTells 74 = .ok (.iload_n 1, 1) := by decide +kernel
theorem dX2_squareTells_75 : decode cX2_squareTells 75 = .ok (.aaload, 1) := by decide +kernel
theorem dX2_squareTells_76 : decode cX2_squareTells 76 = .ok (.invokevirtual 57, 3) := by decide +kernel
theorem dX2_squareTells_79 : decode cX2_squareTells 79 = .ok (.ireturn, 1) := by decide +kernel
theorem dX2_squareTells_80 : decode cX2_squareTells 80 = .ok (.aload_n 0, 1) := by decide +kernel
theorem dX2_squareTells_81 : decode cX2_squareTells 81 = .ok (.iload_n 1, 1) := by decide +kernel
theorem dX2_squareTells_82 : decode cX2_squareTells 82 = .ok (.iconst 0, 1) := by decide +kernel
theorem dX2_squareTells_83 : decode cX2_squareTells 83 = .ok (.invokevirtual 47, 3) := by decide +kernel
theorem dX2_squareTells_86 : decode cX2_squareTells 86 = .ok (.ifCond .eq 7, 3) := by decide +kernel
theorem dX2_squareTells_89 : decode cX2_squareTells 89 = .ok (.iconst 1, 1) := by decide +kernel
theorem dX2_squareTells_90 : decode cX2_squareTells 90 = .ok (.goto 4, 3) := by decide +kernel
theorem dX2_squareTells_93 : decode cX2_squareTells 93 = .ok (.iconst 0, 1) := by decide +kernel
theorem dX2_squareTells_94 : decode cX2_squareTells 94 = .ok (.ireturn, 1) := by decide +kernel
theorem dX2_squareTells_95 : decode cX2_squareTells 95 = .ok (.aload_n 0, 1) := by decide +kernel
theorem dX2_squareTells_96 : decode cX2_squareTells 96 = .ok (.iload_n 1, 1) := by decide +kernel
theorem dX2_squareTells_97 : decode cX2_squareTells 97 = .ok (.iconst 1, 1) := by decide +kernel
theorem dX2_squareTells_98 : decode cX2_squareTells 98 = .ok (.invokevirtual 47, 3) := by decide +kernel
theorem dX2_squareTells_101 : decode cX2_squareTells 101 = .ok (.ifCond .eq 7, 3) := by decide +kernel
theorem dX2_squareTells_104 : decode cX2_squareTells 104 = .ok (.iconst 1, 1) := by decide +kernel
theorem dX2_squareTells_105 : decode cX2_squareTells 105 = .ok (.goto 4, 3) := by decide +kernel
theorem dX2_squareTells_108 : decode cX2_squareTells 108 = .ok (.iconst 0, 1) := by decide +kernel
theorem dX2_squareTells_109 : decode cX2_squareTells 109 = .ok (.ireturn, 1) := by decide +kernel
set_option maxRecDepth 20000 in
theorem ggX2_sleep_X2_prickInAll : GoodIn wsX2_sleep wsX2_prickInAll := goodIn_r _ [5, 6, 7, 8, 9, 10, 11, 12, 13, 14, 15, 16, 17, 18, 19, 20, 21, 22, 50, 51, 52, 53, 54, 55, 56, 57, 58] (by decide +kernel) (by decide +kernel)
set_option maxRecDepth 20000 in
theorem gX2_sleep_X2_prickInAll : GoodIn wsX2_sleep (wsV RX2 86 RX2 yX2_prickInAll wsX2_prickInAll) := goodIn_app (goodIn_of _ (by decide +kernel)) ggX2_sleep_X2_prickInAll
set_option maxRecDepth 20000 in
theorem ggX2_sleep_X2_shiftInAll : GoodIn wsX2_sleep wsX2_shiftInAll := goodIn_r _ [26, 27, 28, 29, 30, 4, 31, 32, 33, 34, 35, 36, 37, 38, 39, 40, 41, 6, 42, 43, 44, 11, 45, 46, 47, 48, 49, 13, 14, 15, 16, 17, 18, 19, 20, 21, 22, 50, 51, 52, 53, 54, 55, 56, 57, 58] (by decide +kernel) (by decide +kernel)
set_option maxRecDepth 20000 in
theorem gX2_sleep_X2_shiftInAll : GoodIn wsX2_sleep (wsV RX2 89 RX2 yX2_shiftInAll wsX2_shiftInAll) := goodIn_app (goodIn_of _ (by decide +kernel)) ggX2_sleep_X2_shiftInAll
theorem dX2_sleep_0 : decode cX2_sleep 0 = .ok (.iconst 0, 1) := by decide +kernel
theorem dX2_sleep_1 : decode cX2_sleep 1 = .ok (.istore_n 2, 1) := by decide +kernel
theorem dX2_sleep_2 : decode cX2_sleep 2 = .ok (.iconst 0, 1) := by decide +kernel
theorem dX2_sleep_3 : decode cX2_sleep 3 = .ok (.istore_n 3, 1) := by decide +kernel
theorem dX2_sleep_4 : decode cX2_sleep 4 = .ok (.iload_n 3, 1) := by decide +kernel
theorem dX2_sleep_5 : decode cX2_sleep 5 = .ok (.iload_n 1, 1) := by decide +kernel
theorem dX2_sleep_6 : decode cX2_sleep 6 = .ok (.if_icmp .ge 38, 3) := by decide +kernel
theorem dX2_sleep_9 : decode cX2_sleep 9 = .ok (.aload_n 0, 1) := by decide +kernel
theorem dX2_sleep_10 : decode cX2_sleep 10 = .ok (.invokevirtual 86, 3) := by decide +kernel
theorem dX2_sleep_13 : decode cX2_sleep 13 = .ok (.istore 4, 2) := by decide +kernel
theorem dX2_sleep_15 : decode cX2_sleep 15 = .ok (.aload_n 0, 1) := by decide +kernel
theorem dX2_sleep_16 : decode cX2_sleep 16 = .ok (.invokevirtual 89, 3) := by decide +kernel
theorem dX2_sleep_19 : decode cX2_sleep 19 = .ok (.istore 5, 2) := by decide +kernel
theorem dX2_sleep_21 : decode cX2_sleep 21 = .ok (.iload_n 2, 1) := by decide +kernel
theorem dX2_sleep_22 : decode cX2_sleep 22 = .ok (.iload 4, 2) := by decide +kernel
theorem dX2_sleep_24 : decode cX2_sleep 24 = .ok (.iadd, 1) := by decide +kernel
theorem dX2_sleep_25 : decode cX2_sleep 25 = .ok (.istore_n 2, 1) := by decide +kernel
theorem dX2_sleep_26 : decode cX2_sleep 26 = .ok (.iload 4, 2) := by decide +kernel
theorem dX2_sleep_28 : decode cX2_sleep 28 = .ok (.ifCond .ne 10, 3) := by decide +kernel
theorem dX2_sleep_31 : decode cX2_sleep 31 = .ok (.iload 5, 2) := by decide +kernel
theorem dX2_sleep_33 : decode cX2_sleep 33 = .ok (.ifCond .ne 5, 3) := by decide +kernel
theorem dX2_sleep_36 : decode cX2_sleep 36 = .ok (.iload_n 2, 1) := by decide +kernel
theorem dX2_sleep_37 : decode cX2_sleep 37 = .ok (.ireturn, 1) := by decide +kernel
theorem dX2_sleep_38 : decode cX2_sleep 38 = .ok (.iinc 3 1, 3) := by decide +kernel
theorem dX2_sleep_41 : decode cX2_sleep 41 = .ok (.goto (-37), 3) := by decide +kernel
theorem dX2_sleep_44 : decode cX2_sleep 44 = .ok (.iload_n 2, 1) := by decide +kernel
theorem dX2_sleep_45 : decode cX2_sleep 45 = .ok (.ireturn, 1) := by decide +kernel
set_option maxRecDepth 20000 in
theorem ggX2_prickInAll_X0_prick : GoodIn wsX2_prickInAll wsX0_prick := goodIn_r _ [7, 8, 9, 10, 6, 11, 12, 13, 14, 15, 16, 17, 25, 26] (by decide +kernel) (by decide +kernel)
set_option maxRecDepth 20000 in
theorem gX2_prickInAll_X0_prick : GoodIn wsX2_prickInAll (wsV RX2 92 RX0 yX0_prick wsX0_prick) := goodIn_app (goodIn_of _ (by decide +kernel)) ggX2_prickInAll_X0_prick
theorem dX2_prickInAll_0 : decode cX2_prickInAll 0 = .ok (.iconst 0, 1) := by decide +kernel
theorem dX2_prickInAll_1 : decode cX2_prickInAll 1 = .ok (.istore_n 1, 1) := by decide +kernel
theorem dX2_prickInAll_2 : decode cX2_prickInAll 2 = .ok (.iconst 0, 1) := by decide +kernel
theorem dX2_prickInAll_3 : decode cX2_prickInAll 3 = .ok (.istore_n 2, 1) := by decide +kernel
theorem dX2_prickInAll_4 : decode cX2_prickInAll 4 = .ok (.iload_n 2, 1) := by decide +kernel
theorem dX2_prickInAll_5 : decode cX2_prickInAll 5 = .ok (.aload_n 0, 1) := by decide +kernel
theorem dX2_prickInAll_6 : decode cX2_prickInAll 6 = .ok (.getfield 26, 3) := by decide +kernel
theorem dX2_prickInAll_9 : decode cX2_prickInAll 9 = .ok (.arraylength, 1) := by decide +kernel
theorem dX2_prickInAll_10 : decode cX2_prickInAll 10 = .ok (.if_icmp .ge 25, 3) := by decide +kernel
theorem dX2_prickInAll_13 : decode cX2_prickInAll 13 = .ok (.iload_n 1, 1) := by decide +kernel
theorem dX2_prickInAll_14 : decode cX2_prickInAll 14 = .ok (.aload_n 0, 1) := by decide +kernel
theorem dX2_prickInAll_15 : decode cX2_prickInAll 15 = .ok (.getfield 26, 3) := by decide +kernel
theorem dX2_prickInAll_18 : decode cX2_prickInAll 18 = .ok (.iload_n 2, 1) := by decide +kernel
theorem dX2_prickInAll_19 : decode cX2_prickInAll 19 = .ok (.aaload, 1) := by decide +kernel
theorem dX2_prickInAll_20 : decode cX2_prickInAll 20 = .ok (.aload_n 0, 1) := by decide +kernel
theorem dX2_prickInAll_21 : decode cX2_prickInAll 21 = .ok (.getfield 18, 3) := by decide +kernel
theorem dX2_prickInAll_24 : decode cX2_prickInAll 24 = .ok (.invokevirtual 92, 3) := by decide +kernel
theorem dX2_prickInAll_27 : decode cX2_prickInAll 27 = .ok (.iadd, 1) := by decide +kernel
theorem dX2_prickInAll_28 : decode cX2_prickInAll 28 = .ok (.istore_n 1, 1) := by decide +kernel
theorem dX2_prickInAll_29 : decode cX2_prickInAll 29 = .ok (.iinc 2 1, 3) := by decide +kernel
theorem dX2_prickInAll_32 : decode cX2_prickInAll 32 = .ok (.goto (-28), 3) := by decide +kernel
theorem dX2_prickInAll_35 : decode cX2_prickInAll 35 = .ok (.iload_n 1, 1) := by decide +kernel
theorem dX2_prickInAll_36 : decode cX2_prickInAll 36 = .ok (.ireturn, 1) := by decide +kernel
set_option maxRecDepth 20000 in
theorem ggX2_shiftInAll_X2_isOpen : GoodIn wsX2_shiftInAll wsX2_isOpen := goodIn_r _ [6, 7, 8, 9, 10, 5, 11, 1, 12, 37, 38, 39, 40, 41, 42, 43] (by decide +kernel) (by decide +kernel)
set_option maxRecDepth 20000 in
theorem gX2_shiftInAll_X2_isOpen : GoodIn wsX2_shiftInAll (wsV RX2 47 RX2 yX2_isOpen wsX2_isOpen) := goodIn_app (goodIn_of _ (by decide +kernel)) ggX2_shiftInAll_X2_isOpen
set_option maxRecDepth 20000 in
theorem ggX2_shiftInAll_X2_otherOfPair : GoodIn wsX2_shiftInAll wsX2_otherOfPair := goodIn_r _ [11, 1, 12, 37, 38, 39, 40, 41, 42, 43] (by decide +kernel) (by decide +kernel)
set_option maxRecDepth 20000 in
theorem gX2_shiftInAll_X2_otherOfPair : GoodIn wsX2_shiftInAll (wsV RX2 43 RX2 yX2_otherOfPair wsX2_otherOfPair) := goodIn_app (goodIn_of _ (by decide +kernel)) ggX2_shiftInAll_X2_otherOfPair
set_option maxRecDepth 20000 in
theorem ggX2_shiftInAll_X2_shiftBetween : GoodIn wsX2_shiftInAll wsX2_shiftBetween := goodIn_r _ [16, 17, 18, 19, 20, 21, 22, 23, 24, 25, 26, 27, 28, 29, 30, 31, 32, 33, 34, 35, 36, 37, 38, 39, 40, 41, 42, 43, 44, 45] (by decide +kernel) (by decide +kernel)
set_option maxRecDepth 20000 in
theorem gX2_shiftInAll_X2_shiftBetween : GoodIn wsX2_shiftInAll (wsV RX2 95 RX2 yX2_shiftBetween wsX2_shiftBetween) := goodIn_app (goodIn_of _ (by decide +kernel)) ggX2_shiftInAll_X2_shiftBetween
theorem dX2_shiftInAll_0 : decode cX2_shiftInAll 0 = .ok (.iconst 0, 1) := by decide +kernel
theorem dX2_shiftInAll_1 : decode cX2_shiftInAll 1 = .ok (.istore_n 1, 1) := by decide +kernel
theorem dX2_shiftInAll_2 : decode cX2_shiftInAll 2 = .ok (.iconst 0, 1) := by decide +kernel
theorem dX2_shiftInAll_3 : decode cX2_shiftInAll 3 = .ok (.istore_n 2, 1) := by decide +kernel
theorem dX2_shiftInAll_4 : decode cX2_shiftInAll 4 = .ok (.iload_n 2, 1) := by decide +kernel
theorem dX2_shiftInAll_5 : decode cX2_shiftInAll 5 = .ok (.aload_n 0, 1) := by decide +kernel
theorem dX2_shiftInAll_6 : decode cX2_shiftInAll 6 = .ok (.getfield 21, 3) := by decide +kernel
theorem dX2_shiftInAll_9 : decode cX2_shiftInAll 9 = .ok (.if_icmp .ge 45, 3) := by decide +kernel
theorem dX2_shiftInAll_12 : decode cX2_shiftInAll 12 = .ok (.iconst 0, 1) := by decide +kernel
theorem dX2_shiftInAll_13 : decode cX2_shiftInAll 13 = .ok (.istore_n 3, 1) := by decide +kernel
theorem dX2_shiftInAll_14 : decode cX2_shiftInAll 14 = .ok (.iload_n 3, 1) := by decide +kernel
theorem dX2_shiftInAll_15 : decode cX2_shiftInAll 15 = .ok (.iconst 2, 1) := by decide +kernel
theorem dX2_shiftInAll_16 : decode cX2_shiftInAll 16 = .ok (.if_icmp .ge 32, 3) := by decide +kernel
theorem dX2_shiftInAll_19 : decode cX2_shiftInAll 19 = .ok (.aload_n 0, 1) := by decide +kernel
theorem dX2_shiftInAll_20 : decode cX2_shiftInAll 20 = .ok (.iload_n 2, 1) := by decide +kernel
theorem dX2_shiftInAll_21 : decode cX2_shiftInAll 21 = .ok (.iload_n 3, 1) := by decide +kernel
theorem dX2_shiftInAll_22 : decode cX2_shiftInAll 22 = .ok (.invokevirtual 47, 3) := by decide +kernel
theorem dX2_shiftInAll_25 : decode cX2_shiftInAll 25 = .ok (.ifCond .eq 17, 3) := by decide +kernel
theorem dX2_shiftInAll_28 : decode cX2_shiftInAll 28 = .ok (.iload_n 1, 1) := by decide +kernel
theorem dX2_shiftInAll_29 : decode cX2_shiftInAll 29 = .ok (.aload_n 0, 1) := by decide +kernel
theorem dX2_shiftInAll_30 : decode cX2_shiftInAll 30 = .ok (.iload_n 2, 1) := by decide +kernel
theorem dX2_shiftInAll_31 : decode cX2_shiftInAll 31 = .ok (.aload_n 0, 1) := by decide +kernel
theorem dX2_shiftInAll_32 : decode cX2_shiftInAll 32 = .ok (.iload_n 2, 1) := by decide +kernel
theorem dX2_shiftInAll_33 : decode cX2_shiftInAll 33 = .ok (.iload_n 3, 1) := by decide +kernel
theorem dX2_shiftInAll_34 : decode cX2_shiftInAll 34 = .ok (.invokevirtual 43, 3) := by decide +kernel
theorem dX2_shiftInAll_37 : decode cX2_shiftInAll 37 = .ok (.invokevirtual 95, 3) := by decide +kernel
theorem dX2_shiftInAll_40 : decode cX2_shiftInAll 40 = .ok (.iadd, 1) := by decide +kernel
theorem dX2_shiftInAll_41 : decode cX2_shiftInAll 41 = .ok (.istore_n 1, 1) := by decide +kernel
theorem dX2_shiftInAll_42 : decode cX2_shiftInAll 42 = .ok (.iinc 3 1, 3) := by decide +kernel
theorem dX2_shiftInAll_45 : decode cX2_shiftInAll 45 = .ok (.goto (-31), 3) := by decide +kernel
theorem dX2_shiftInAll_48 : decode cX2_shiftInAll 48 = .ok (.iinc 2 1, 3) := by decide +kernel
theorem dX2_shiftInAll_51 : decode cX2_shiftInAll 51 = .ok (.goto (-47), 3) := by decide +kernel
theorem dX2_shiftInAll_54 : decode cX2_shiftInAll 54 = .ok (.iload_n 1, 1) := by decide +kernel
theorem dX2_shiftInAll_55 : decode cX2_shiftInAll 55 = .ok (.ireturn, 1) := by decide +kernel
set_option maxRecDepth 20000 in
theorem ggX2_shiftBetween_X0_moveTo : GoodIn wsX2_shiftBetween wsX0_moveTo := goodIn_r _ [6, 7, 8, 9, 10, 11, 12, 13, 5, 14, 15, 16, 17, 18, 19, 20, 28, 29] (by decide +kernel) (by decide +kernel)
set_option maxRecDepth 20000 in
theorem gX2_shiftBetween_X0_moveTo : GoodIn wsX2_shiftBetween (wsV RX2 98 RX0 yX0_moveTo wsX0_moveTo) := goodIn_app (goodIn_of _ (by decide +kernel)) ggX2_shiftBetween_X0_moveTo
theorem dX2_shiftBetween_0 : decode cX2_shiftBetween 0 = .ok (.iload_n 1, 1) := by decide +kernel
theorem dX2_shiftBetween_1 : decode cX2_shiftBetween 1 = .ok (.ifCond .lt 25, 3) := by decide +kernel
theorem dX2_shiftBetween_4 : decode cX2_shiftBetween 4 = .ok (.iload_n 1, 1) := by decide +kernel
theorem dX2_shiftBetween_5 : decode cX2_shiftBetween 5 = .ok (.aload_n 0, 1) := by decide +kernel
theorem dX2_shiftBetween_6 : decode cX2_shiftBetween 6 = .ok (.getfield 26, 3) := by decide +kernel
theorem dX2_shiftBetween_9 : decode cX2_shiftBetween 9 = .ok (.arraylength, 1) := by decide +kernel
theorem dX2_shiftBetween_10 : decode cX2_shiftBetween 10 = .ok (.if_icmp .ge 16, 3) := by decide +kernel
theorem dX2_shiftBetween_13 : decode cX2_shiftBetween 13 = .ok (.iload_n 2, 1) := by decide +kernel
theorem dX2_shiftBetween_14 : decode cX2_shiftBetween 14 = .ok (.ifCond .lt 12, 3) := by decide +kernel
theorem dX2_shiftBetween_17 : decode cX2_shiftBetween 17 = .ok (.iload_n 2, 1) := by decide +kernel
theorem dX2_shiftBetween_18 : decode cX2_shiftBetween 18 = .ok (.aload_n 0, 1) := by decide +kernel
theorem dX2_shiftBetween_19 : decode cX2_shiftBetween 19 = .ok (.getfield 26, 3) := by decide +kernel
theorem dX2_shiftBetween_22 : decode cX2_shiftBetween 22 = .ok (.arraylength, 1) := by decide +kernel
theorem dX2_shiftBetween_23 : decode cX2_shiftBetween 23 = .ok (.if_icmp .lt 5, 3) := by decide +kernel
theorem dX2_shiftBetween_26 : decode cX2_shiftBetween 26 = .ok (.iconst 0, 1) := by decide +kernel
theorem dX2_shiftBetween_27 : decode cX2_shiftBetween 27 = .ok (.ireturn, 1) := by decide +kernel
theorem dX2_shiftBetween_28 : decode cX2_shiftBetween 28 = .ok (.aload_n 0, 1) := by decide +kernel
theorem dX2_shiftBetween_29 : decode cX2_shiftBetween 29 = .ok (.getfield 26, 3) := by decide +kernel
theorem dX2_shiftBetween_32 : decode cX2_shiftBetween 32 = .ok (.iload_n 1, 1) := by decide +kernel
theorem dX2_shiftBetween_33 : decode cX2_shiftBetween 33 = .ok (.aaload, 1) := by decide +kernel
theorem dX2_shiftBetween_34 : decode cX2_shiftBetween 34 = .ok (.getfield 54, 3) := by decide +kernel
theorem dX2_shiftBetween_37 : decode cX2_shiftBetween 37 = .ok (.aload_n 0, 1) := by decide +kernel
theorem dX2_shiftBetween_38 : decode cX2_shiftBetween 38 = .ok (.getfield 26, 3) := by decide +kernel
theorem dX2_shiftBetween_41 : decode cX2_shiftBetween 41 = .ok (.iload_n 2, 1) := by decide +kernel
theorem dX2_shiftBetween_42 : decode cX2_shiftBetween 42 = .ok (.aaload, 1) := by decide +kernel
theorem dX2_shiftBetween_43 : decode cX2_shiftBetween 43 = .ok (.getfield 54, 3) := by decide +kernel
theorem dX2_shiftBetween_46 : decode cX2_shiftBetween 46 = .ok (.isub, 1) := by decide +kernel
theorem dX2_shiftBetween_47 : decode cX2_shiftBetween 47 = .ok (.istore_n 3, 1) := by decide +kernel
theorem dX2_shiftBetween_48 : decode cX2_shiftBetween 48 = .ok (.iload_n 3, 1) := by decide +kernel
theorem dX2_shiftBetween_49 : decode cX2_shiftBetween 49 = .ok (.ifCond .le 26, 3) := by decide +kernel
theorem dX2_shiftBetween_52 : decode cX2_shiftBetween 52 = .ok (.aload_n 0, 1) := by decide +kernel
theorem dX2_shiftBetween_53 : decode cX2_shiftBetween 53 = .ok (.getfield 26, 3) := by decide +kernel
theorem dX2_shiftBetween_56 : decode cX2_shiftBetween 56 = .ok (.iload_n 1, 1) := by decide +kernel
theorem dX2_shiftBetween_57 : decode cX2_shiftBetween 57 = .ok (.aaload, 1) := by decide +kernel
theorem dX2_shiftBetween_58 : decode cX2_shiftBetween 58 = .ok (.aload_n 0, 1) := by decide +kernel
theorem dX2_shiftBetween_59 : decode cX2_shiftBetween 59 = .ok (.getfield 26, 3) := by decide +kernel
theorem dX2_shiftBetween_62 : decode cX2_shiftBetween 62 = .ok (.iload_n 2, 1) := by decide +kernel
theorem dX2_shiftBetween_63 : decode cX2_shiftBetween 63 = .ok (.aaload, 1) := by decide +kernel
theorem dX2_shiftBetween_64 : decode cX2_shiftBetween 64 = .ok (.iload_n 3, 1) := by decide +kernel
theorem dX2_shiftBetween_65 : decode cX2_shiftBetween 65 = .ok (.bipush 8, 2) := by decide +kernel
theorem dX2_shiftBetween_67 : decode cX2_shiftBetween 67 = .ok (.idiv, 1) := by decide +kernel
theorem dX2_shiftBetween_68 : decode cX2_shiftBetween 68 = .ok (.iconst 2, 1) := by decide +kernel
theorem dX2_shiftBetween_69 : decode cX2_shiftBetween 69 = .ok (.invokevirtual 98, 3) := by decide +kernel
theorem dX2_shiftBetween_72 : decode cX2_shiftBetween 72 = .ok (.goto 24, 3) := by decide +kernel
theorem dX2_shiftBetween_75 : decode cX2_shiftBetween 75 = .ok (.aload_n 0, 1) := by decide +kernel
theorem dX2_shiftBetween_76 : decode cX2_shiftBetween 76 = .ok (.getfield 26, 3) := by decide +kernel
theorem dX2_shiftBetween_79 : decode cX2_shiftBetween 79 = .ok (.iload_n 2, 1) := by decide +kernel
theorem dX2_shiftBetween_80 : decode cX2_shiftBetween 80 = .ok (.aaload, 1) := by decide +kernel
theorem dX2_shiftBetween_81 : decode cX2_shiftBetween 81 = .ok (.aload_n 0, 1) := by decide +kernel
theorem dX2_shiftBetween_82 : decode cX2_shiftBetween 82 = .ok (.getfield 26, 3) := by decide +kernel
theorem dX2_shiftBetween_85 : decode cX2_shiftBetween 85 = .ok (.iload_n 1, 1) := by decide +kernel
theorem dX2_shiftBetween_86 : decode cX2_shiftBetween 86 = .ok (.aaload, 1) := by decide +kernel
theorem dX2_shiftBetween_87 : decode cX2_shiftBetween 87 = .ok (.iload_n 3, 1) := by decide +kernel
theorem dX2_shiftBetween_88 : decode cX2_shiftBetween 88 = .ok (.ineg, 1) := by decide +kernel
theorem dX2_shiftBetween_89 : decode cX2_shiftBetween 89 = .ok (.bipush 8, 2) := by decide +kernel
theorem dX2_shiftBetween_91 : decode cX2_shiftBetween 91 = .ok (.idiv, 1) := by decide +kernel
theorem dX2_shiftBetween_92 : decode cX2_shiftBetween 92 = .ok (.iconst 2, 1) := by decide +kernel
theorem dX2_shiftBetween_93 : decode cX2_shiftBetween 93 = .ok (.invokevirtual 98, 3) := by decide +kernel
theorem dX2_shiftBetween_96 : decode cX2_shiftBetween 96 = .ok (.ireturn, 1) := by decide +kernel
