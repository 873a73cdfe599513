theorem dX4_init_0 : decode cX4_init 0 = .ok (.aload_n 0, 1) := by decide +kernel
theorem dX4_init_1 : decode cX4_init 1 = .ok (.invokespecial 1, 3) := by decide +kernel
theorem dX4_init_4 : decode cX4_init 4 = .ok (.aload_n 0, 1) := by decide +kernel
theorem dX4_init_5 : decode cX4_init 5 = .ok (.iconst 0, 1) := by decide +kernel
theorem dX4_init_6 : decode cX4_init 6 = .ok (.anewarray 7, 3) := by decide +kernel
theorem dX4_init_9 : decode cX4_init 9 = .ok (.putfield 9, 3) := by decide +kernel
theorem dX4_init_12 : decode cX4_init 12 = .ok (.aload_n 0, 1) := by decide +kernel
theorem dX4_init_13 : decode cX4_init 13 = .ok (.bipush 12, 2) := by decide +kernel
theorem dX4_init_15 : decode cX4_init 15 = .ok (.newarray .int, 2) := by decide +kernel
theorem dX4_init_17 : decode cX4_init 17 = .ok (.putfield 15, 3) := by decide +kernel
theorem dX4_init_20 : decode cX4_init 20 = .ok (.aload_n 0, 1) := by decide +kernel
theorem dX4_init_21 : decode cX4_init 21 = .ok (.bipush 10, 2) := by decide +kernel
theorem dX4_init_23 : decode cX4_init 23 = .ok (.putfield 18, 3) := by decide +kernel
theorem dX4_init_26 : decode cX4_init 26 = .ok (.aload_n 0, 1) := by decide +kernel
theorem dX4_init_27 : decode cX4_init 27 = .ok (.iconst 5, 1) := by decide +kernel
theorem dX4_init_28 : decode cX4_init 28 = .ok (.bipush 6, 2) := by decide +kernel
theorem dX4_init_30 : decode cX4_init 30 = .ok (.multianewarray 22 2, 4) := by decide +kernel
theorem dX4_init_34 : decode cX4_init 34 = .ok (.putfield 23, 3) := by decide +kernel
theorem dX4_init_37 : decode cX4_init 37 = .ok (.aload_n 0, 1) := by decide +kernel
theorem dX4_init_38 : decode cX4_init 38 = .ok (.iconst 0, 1) := by decide +kernel
theorem dX4_init_39 : decode cX4_init 39 = .ok (.anewarray 26, 3) := by decide +kernel
theorem dX4_init_42 : decode cX4_init 42 = .ok (.putfield 28, 3) := by decide +kernel
theorem dX4_init_45 : decode cX4_init 45 = .ok (.return_, 1) := by decide +kernel
theorem dX4_sack_0 : decode cX4_sack 0 = .ok (.aload_n 0, 1) := by decide +kernel
theorem dX4_sack_1 : decode cX4_sack 1 = .ok (.getfield 9, 3) := by decide +kernel
theorem dX4_sack_4 : decode cX4_sack 4 = .ok (.arraylength, 1) := by decide +kernel
theorem dX4_sack_5 : decode cX4_sack 5 = .ok (.iconst 1, 1) := by decide +kernel
theorem dX4_sack_6 : decode cX4_sack 6 = .ok (.iadd, 1) := by decide +kernel
theorem dX4_sack_7 : decode cX4_sack 7 = .ok (.anewarray 7, 3) := by decide +kernel
theorem dX4_sack_10 : decode cX4_sack 10 = .ok (.astore_n 2, 1) := by decide +kernel
theorem dX4_sack_11 : decode cX4_sack 11 = .ok (.iconst 0, 1) := by decide +kernel
theorem dX4_sack_12 : decode cX4_sack 12 = .ok (.istore_n 3, 1) := by decide +kernel
theorem dX4_sack_13 : decode cX4_sack 13 = .ok (.iload_n 3, 1) := by decide +kernel
theorem dX4_sack_14 : decode cX4_sack 14 = .ok (.aload_n 0, 1) := by decide +kernel
theorem dX4_sack_15 : decode cX4_sack 15 = .ok (.getfield 9, 3) := by decide +kernel
theorem dX4_sack_18 : decode cX4_sack 18 = .ok (.arraylength, 1) := by decide +kernel
theorem dX4_sack_19 : decode cX4_sack 19 = .ok (.if_icmp .ge 18, 3) := by decide +kernel
theorem dX4_sack_22 : decode cX4_sack 22 = .ok (.aload_n 2, 1) := by decide +kernel
theorem dX4_sack_23 : decode cX4_sack 23 = .ok (.iload_n 3, 1) := by decide +kernel
theorem dX4_sack_24 : decode cX4_sack 24 = .ok (.aload_n 0, 1) := by decide +kernel
theorem dX4_sack_25 : decode cX4_sack 25 = .ok (.getfield 9, 3) := by decide +kernel
theorem dX4_sack_28 : decode cX4_sack 28 = .ok (.iload_n 3, 1) := by decide +kernel
theorem dX4_sack_29 : decode cX4_sack 29 = .ok (.aaload, 1) := by decide +kernel
theorem dX4_sack_30 : decode cX4_sack 30 = .ok (.aastore, 1) := by decide +kernel
theorem dX4_sack_31 : decode cX4_sack 31 = .ok (.iinc 3 1, 3) := by decide +kernel
theorem dX4_sack_34 : decode cX4_sack 34 = .ok (.goto (-21), 3) := by decide +kernel
theorem dX4_sack_37 : decode cX4_sack 37 = .ok (.aload_n 2, 1) := by decide +kernel
theorem dX4_sack_38 : decode cX4_sack 38 = .ok (.aload_n 0, 1) := by decide +kernel
theorem dX4_sack_39 : decode cX4_sack 39 = .ok (.getfield 9, 3) := by decide +kernel
theorem dX4_sack_42 : decode cX4_sack 42 = .ok (.arraylength, 1) := by decide +kernel
theorem dX4_sack_43 : decode cX4_sack 43 = .ok (.bipush 6, 2) := by decide +kernel
theorem dX4_sack_45 : decode cX4_sack 45 = .ok (.newarray .int, 2) := by decide +kernel
theorem dX4_sack_47 : decode cX4_sack 47 = .ok (.aastore, 1) := by decide +kernel
theorem dX4_sack_48 : decode cX4_sack 48 = .ok (.aload_n 0, 1) := by decide +kernel
theorem dX4_sack_49 : decode cX4_sack 49 = .ok (.getfield 15, 3) := by decide +kernel
theorem dX4_sack_52 : decode cX4_sack 52 = .ok (.aload_n 0, 1) := by decide +kernel
theorem dX4_sack_53 : decode cX4_sack 53 = .ok (.getfield 9, 3) := by decide +kernel
theorem dX4_sack_56 : decode cX4_sack 56 = .ok (.arraylength, 1) := by decide +kernel
theorem dX4_sack_57 : decode cX4_sack 57 = .ok (.iload_n 1, 1) := by decide +kernel
theorem dX4_sack_58 : decode cX4_sack 58 = .ok (.iastore, 1) := by decide +kernel
theorem dX4_sack_59 : decode cX4_sack 59 = .ok (.aload_n 0, 1) := by decide +kernel
theorem dX4_sack_60 : decode cX4_sack 60 = .ok (.aload_n 2, 1) := by decide +kernel
theorem dX4_sack_61 : decode cX4_sack 61 = .ok (.putfield 9, 3) := by decide +kernel
theorem dX4_sack_64 : decode cX4_sack 64 = .ok (.return_, 1) := by decide +kernel
set_option maxRecDepth 20000 in
theorem ggX4_tick_X5_init : GoodIn wsX4_tick wsX5_init := goodIn_r _ [7, 8, 9, 10, 11, 12, 13, 14, 15, 16, 17, 18, 19, 28, 29, 30, 31, 32] (by decide +kernel) (by decide +kernel)
set_option maxRecDepth 20000 in
theorem gX4_tick_X5_init : GoodIn wsX4_tick (wsX5_init) := ggX4_tick_X5_init
theorem dX4_tick_0 : decode cX4_tick 0 = .ok (.aload_n 0, 1) := by decide +kernel
theorem dX4_tick_1 : decode cX4_tick 1 = .ok (.getfield 28, 3) := by decide +kernel
theorem dX4_tick_4 : decode cX4_tick 4 = .ok (.arraylength, 1) := by decide +kernel
theorem dX4_tick_5 : decode cX4_tick 5 = .ok (.iconst 1, 1) := by decide +kernel
theorem dX4_tick_6 : decode cX4_tick 6 = .ok (.iadd, 1) := by decide +kernel
theorem dX4_tick_7 : decode cX4_tick 7 = .ok (.anewarray 26, 3) := by decide +kernel
theorem dX4_tick_10 : decode cX4_tick 10 = .ok (.astore 4, 2) := by decide +kernel
theorem dX4_tick_12 : decode cX4_tick 12 = .ok (.iconst 0, 1) := by decide +kernel
theorem dX4_tick_13 : decode cX4_tick 13 = .ok (.istore 5, 2) := by decide +kernel
theorem dX4_tick_15 : decode cX4_tick 15 = .ok (.iload 5, 2) := by decide +kernel
theorem dX4_tick_17 : decode cX4_tick 17 = .ok (.aload_n 0, 1) := by decide +kernel
theorem dX4_tick_18 : decode cX4_tick 18 = .ok (.getfield 28, 3) := by decide +kernel
theorem dX4_tick_21 : decode cX4_tick 21 = .ok (.arraylength, 1) := by decide +kernel
theorem dX4_tick_22 : decode cX4_tick 22 = .ok (.if_icmp .ge 21, 3) := by decide +kernel
theorem dX4_tick_25 : decode cX4_tick 25 = .ok (.aload 4, 2) := by decide +kernel
theorem dX4_tick_27 : decode cX4_tick 27 = .ok (.iload 5, 2) := by decide +kernel
theorem dX4_tick_29 : decode cX4_tick 29 = .ok (.aload_n 0, 1) := by decide +kernel
theorem dX4_tick_30 : decode cX4_tick 30 = .ok (.getfield 28, 3) := by decide +kernel
theorem dX4_tick_33 : decode cX4_tick 33 = .ok (.iload 5, 2) := by decide +kernel
theorem dX4_tick_35 : decode cX4_tick 35 = .ok (.aaload, 1) := by decide +kernel
theorem dX4_tick_36 : decode cX4_tick 36 = .ok (.aastore, 1) := by decide +kernel
theorem dX4_tick_37 : decode cX4_tick 37 = .ok (.iinc 5 1, 3) := by decide +kernel
theorem dX4_tick_40 : decode cX4_tick 40 = .ok (.goto (-25), 3) := by decide +kernel
theorem dX4_tick_43 : decode cX4_tick 43 = .ok (.aload 4, 2) := by decide +kernel
theorem dX4_tick_45 : decode cX4_tick 45 = .ok (.aload_n 0, 1) := by decide +kernel
theorem dX4_tick_46 : decode cX4_tick 46 = .ok (.getfield 28, 3) := by decide +kernel
theorem dX4_tick_49 : decode cX4_tick 49 = .ok (.arraylength, 1) := by decide +kernel
theorem dX4_tick_50 : decode cX4_tick 50 = .ok (.new 26, 3) := by decide +kernel
theorem dX4_tick_53 : decode cX4_tick 53 = .ok (.dup, 1) := by decide +kernel
theorem dX4_tick_54 : decode cX4_tick 54 = .ok (.iload_n 1, 1) := by decide +kernel
theorem dX4_tick_55 : decode cX4_tick 55 = .ok (.iload_n 2, 1) := by decide +kernel
theorem dX4_tick_56 : decode cX4_tick 56 = .ok (.iload_n 3, 1) := by decide +kernel
theorem dX4_tick_57 : decode cX4_tick 57 = .ok (.invokespecial 32, 3) := by decide +kernel
theorem dX4_tick_60 : decode cX4_tick 60 = .ok (.aastore, 1) := by decide +kernel
theorem dX4_tick_61 : decode cX4_tick 61 = .ok (.aload_n 0, 1) := by decide +kernel
theorem dX4_tick_62 : decode cX4_tick 62 = .ok (.aload 4, 2) := by decide +kernel
theorem dX4_tick_64 : decode cX4_tick 64 = .ok (.putfield 28, 3) := by decide +kernel
theorem dX4_tick_67 : decode cX4_tick 67 = .ok (.return_, 1) := by decide +kernel
theorem dX4_blown_0 : decode cX4_blown 0 = .ok (.bipush 7, 2) := by decide +kernel
theorem dX4_blown_2 : decode cX4_blown 2 = .ok (.bipush 6, 2) := by decide +kernel
theorem dX4_blown_4 : decode cX4_blown 4 = .ok (.multianewarray 22 2, 4) := by decide +kernel
theorem dX4_blown_8 : decode cX4_blown 8 = .ok (.astore_n 3, 1) := by decide +kernel
theorem dX4_blown_9 : decode cX4_blown 9 = .ok (.iconst 0, 1) := by decide +kernel
theorem dX4_blown_10 : decode cX4_blown 10 = .ok (.istore 4, 2) := by decide +kernel
theorem dX4_blown_12 : decode cX4_blown 12 = .ok (.iload 4, 2) := by decide +kernel
theorem dX4_blown_14 : decode cX4_blown 14 = .ok (.bipush 6, 2) := by decide +kernel
theorem dX4_blown_16 : decode cX4_blown 16 = .ok (.if_icmp .ge 126, 3) := by decide +kernel
theorem dX4_blown_19 : decode cX4_blown 19 = .ok (.aload_n 0, 1) := by decide +kernel
theorem dX4_blown_20 : decode cX4_blown 20 = .ok (.getfield 9, 3) := by decide +kernel
theorem dX4_blown_23 : decode cX4_blown 23 = .ok (.iload_n 1, 1) := by decide +kernel
theorem dX4_blown_24 : decode cX4_blown 24 = .ok (.aaload, 1) := by decide +kernel
theorem dX4_blown_25 : decode cX4_blown 25 = .ok (.iload 4, 2) := by decide +kernel
theorem dX4_blown_27 : decode cX4_blown 27 = .ok (.iaload, 1) := by decide +kernel
theorem dX4_blown_28 : decode cX4_blown 28 = .ok (.istore 5, 2) := by decide +kernel
theorem dX4_blown_30 : decode cX4_blown 30 = .ok (.iconst 4, 1) := by decide +kernel
theorem dX4_blown_31 : decode cX4_blown 31 = .ok (.bipush 12, 2) := by decide +kernel
theorem dX4_blown_33 : decode cX4_blown 33 = .ok (.iload_n 2, 1) := by decide +kernel
theorem dX4_blown_34 : decode cX4_blown 34 = .ok (.imul, 1) := by decide +kernel
theorem dX4_blown_35 : decode cX4_blown 35 = .ok (.iload 4, 2) := by decide +kernel
theorem dX4_blown_37 : decode cX4_blown 37 = .ok (.iconst 1, 1) := by decide +kernel
theorem dX4_blown_38 : decode cX4_blown 38 = .ok (.iadd, 1) := by decide +kernel
theorem dX4_blown_39 : decode cX4_blown 39 = .ok (.aload_n 0, 1) := by decide +kernel
theorem dX4_blown_40 : decode cX4_blown 40 = .ok (.getfield 15, 3) := by decide +kernel
theorem dX4_blown_43 : decode cX4_blown 43 = .ok (.iload_n 1, 1) := by decide +kernel
theorem dX4_blown_44 : decode cX4_blown 44 = .ok (.iaload, 1) := by decide +kernel
theorem dX4_blown_45 : decode cX4_blown 45 = .ok (.iconst 4, 1) := by decide +kernel
theorem dX4_blown_46 : decode cX4_blown 46 = .ok (.iadd, 1) := by decide +kernel
theorem dX4_blown_47 : decode cX4_blown 47 = .ok (.imul, 1) := by decide +kernel
theorem dX4_blown_48 : decode cX4_blown 48 = .ok (.idiv, 1) := by decide +kernel
theorem dX4_blown_49 : decode cX4_blown 49 = .ok (.invokestatic 35, 3) := by decide +kernel
theorem dX4_blown_52 : decode cX4_blown 52 = .ok (.istore 6, 2) := by decide +kernel
theorem dX4_blown_54 : decode cX4_blown 54 = .ok (.aload_n 3, 1) := by decide +kernel
theorem dX4_blown_55 : decode cX4_blown 55 = .ok (.iload 6, 2) := by decide +kernel
theorem dX4_blown_57 : decode cX4_blown 57 = .ok (.aaload, 1) := by decide +kernel
theorem dX4_blown_58 : decode cX4_blown 58 = .ok (.iload 4, 2) := by decide +kernel
theorem dX4_blown_60 : decode cX4_blown 60 = .ok (.dup2, 1) := by decide +kernel
theorem dX4_blown_61 : decode cX4_blown 61 = .ok (.iaload, 1) := by decide +kernel
theorem dX4_blown_62 : decode cX4_blown 62 = .ok (.bipush 6, 2) := by decide +kernel
theorem dX4_blown_64 : decode cX4_blown 64 = .ok (.iload 5, 2) := by decide +kernel
theorem dX4_blown_66 : decode cX4_blown 66 = .ok (.imul, 1) := by decide +kernel
theorem dX4_blown_67 : decode cX4_blown 67 = .ok (.bipush 10, 2) := by decide +kernel
theorem dX4_blown_69 : decode cX4_blown 69 = .ok (.idiv, 1) := by decide +kernel
theorem dX4_blown_70 : decode cX4_blown 70 = .ok (.iadd, 1) := by decide +kernel
theorem dX4_blown_71 : decode cX4_blown 71 = .ok (.iastore, 1) := by decide +kernel
theorem dX4_blown_72 : decode cX4_blown 72 = .ok (.aload_n 3, 1) := by decide +kernel
theorem dX4_blown_73 : decode cX4_blown 73 = .ok (.iload 6, 2) := by decide +kernel
theorem dX4_blown_75 : decode cX4_blown 75 = .ok (.iconst 4, 1) := by decide +kernel
theorem dX4_blown_76 : decode cX4_blown 76 = .ok (.if_icmp .ne 8, 3) := by decide +kernel
theorem dX4_blown_79 : decode cX4_blown 79 = .ok (.bipush 6, 2) := by decide +kernel
theorem dX4_blown_81 : decode cX4_blown 81 = .ok (.goto 7, 3) := by decide +kernel
theorem dX4_blown_84 : decode cX4_blown 84 = .ok (.iload 6, 2) := by decide +kernel
theorem dX4_blown_86 : decode cX4_blown 86 = .ok (.iconst 1, 1) := by decide +kernel
theorem dX4_blown_87 : decode cX4_blown 87 = .ok (.iadd, 1) := by decide +kernel
theorem dX4_blown_88 : decode cX4_blown 88 = .ok (.aaload, 1) := by decide +kernel
theorem dX4_blown_89 : decode cX4_blown 89 = .ok (.iload 4, 2) := by decide +kernel
theorem dX4_blown_91 : decode cX4_blown 91 = .ok (.dup2, 1) := by decide +kernel
theorem dX4_blown_92 : decode cX4_blown 92 = .ok (.iaload, 1) := by decide +kernel
theorem dX4_blown_93 : decode cX4_blown 93 = .ok (.iload 5, 2) := by decide +kernel
theorem dX4_blown_95 : decode cX4_blown 95 = .ok (.iconst 4, 1) := by decide +kernel
theorem dX4_blown_96 : decode cX4_blown 96 = .ok (.idiv, 1) := by decide +kernel
theorem dX4_blown_97 : decode cX4_blown 97 = .ok (.iadd, 1) := by decide +kernel
theorem dX4_blown_98 : decode cX4_blown 98 = .ok (.iastore, 1) := by decide +kernel
theorem dX4_blown_99 : decode cX4_blown 99 = .ok (.aload_n 3, 1) := by decide +kernel
theorem dX4_blown_100 : decode cX4_blown 100 = .ok (.iload 6, 2) := by decide +kernel
theorem dX4_blown_102 : decode cX4_blown 102 = .ok (.ifCond .ne 7, 3) := by decide +kernel
theorem dX4_blown_105 : decode cX4_blown 105 = .ok (.iconst 5, 1) := by decide +kernel
theorem dX4_blown_106 : decode cX4_blown 106 = .ok (.goto 7, 3) := by decide +kernel
theorem dX4_blown_109 : decode cX4_blown 109 = .ok (.iload 6, 2) := by decide +kernel
theorem dX4_blown_111 : decode cX4_blown 111 = .ok (.iconst 1, 1) := by decide +kernel
theorem dX4_blown_112 : decode cX4_blown 112 = .ok (.isub, 1) := by decide +kernel
theorem dX4_blown_113 : decode cX4_blown 113 = .ok (.aaload, 1) := by decide +kernel
theorem dX4_blown_114 : decode cX4_blown 114 = .ok (.iload 4, 2) := by decide +kernel
theorem dX4_blown_116 : decode cX4_blown 116 = .ok (.dup2, 1) := by decide +kernel
theorem dX4_blown_117 : decode cX4_blown 117 = .ok (.iaload, 1) := by decide +kernel
theorem dX4_blown_118 : decode cX4_blown 118 = .ok (.iload 5, 2) := by decide +kernel
theorem dX4_blown_120 : decode cX4_blown 120 = .ok (.bipush 6, 2) := by decide +kernel
theorem dX4_blown_122 : decode cX4_blown 122 = .ok (.iload 5, 2) := by decide +kernel
theorem dX4_blown_124 : decode cX4_blown 124 = .ok (.imul, 1) := by decide +kernel
theorem dX4_blown_125 : decode cX4_blown 125 = .ok (.bipush 10, 2) := by decide +kernel
theorem dX4_blown_127 : decode cX4_blown 127 = .ok (.idiv, 1) := by decide +kernel
theorem dX4_blown_128 : decode cX4_blown 128 = .ok (.isub, 1) := by decide +kernel
theorem dX4_blown_129 : decode cX4_blown 129 = .ok (.iload 5, 2) := by decide +kernel
theorem dX4_blown_131 : decode cX4_blown 131 = .ok (.iconst 4, 1) := by decide +kernel
theorem dX4_blown_132 : decode cX4_blown 132 = .ok (.idiv, 1) := by decide +kernel
theorem dX4_blown_133 : decode cX4_blown 133 = .ok (.isub, 1) := by decide +kernel
theorem dX4_blown_134 : decode cX4_blown 134 = .ok (.iadd, 1) := by decide +kernel
theorem dX4_blown_135 : decode cX4_blown 135 = .ok (.iastore, 1) := by decide +kernel
theorem dX4_blown_136 : decode cX4_blown 136 = .ok (.iinc 4 1, 3) := by decide +kernel
theorem dX4_blown_139 : decode cX4_blown 139 = .ok (.goto (-127), 3) := by decide +kernel
theorem dX4_blown_142 : decode cX4_blown 142 = .ok (.aload_n 3, 1) := by decide +kernel
theorem dX4_blown_143 : decode cX4_blown 143 = .ok (.areturn, 1) := by decide +kernel
set_option maxRecDepth 20000 in
theorem ggX4_blow_X4_blown : GoodIn wsX4_blow wsX4_blown := goodIn_r _ [9, 10, 11, 3, 12, 13, 14, 15, 16, 21, 22, 23, 24, 25, 26, 27, 28] (by decide +kernel) (by decide +kernel)
set_option maxRecDepth 20000 in
theorem gX4_blow_X4_blown : GoodIn wsX4_blow (wsV RX4 41 RX4 yX4_blown wsX4_blown) := goodIn_app (goodIn_of _ (by decide +kernel)) ggX4_blow_X4_blown
set_option maxRecDepth 20000 in
theorem ggX4_blow_X5_all : GoodIn wsX4_blow wsX5_all := goodIn_r _ [20] (by decide +kernel) (by decide +kernel)
set_option maxRecDepth 20000 in
theorem gX4_blow_X5_all : GoodIn wsX4_blow (va_wsS RX4 48 yX5_all wsX5_all) := goodIn_app (goodIn_of _ (by decide +kernel)) ggX4_blow_X5_all
theorem dX4_blow_0 : decode cX4_blow 0 = .ok (.aload_n 0, 1) := by decide +kernel
theorem dX4_blow_1 : decode cX4_blow 1 = .ok (.iload_n 1, 1) := by decide +kernel
theorem dX4_blow_2 : decode cX4_blow 2 = .ok (.aload_n 0, 1) := by decide +kernel
theorem dX4_blow_3 : decode cX4_blow 3 = .ok (.getfield 18, 3) := by decide +kernel
theorem dX4_blow_6 : decode cX4_blow 6 = .ok (.invokevirtual 41, 3) := by decide +kernel
theorem dX4_blow_9 : decode cX4_blow 9 = .ok (.astore_n 2, 1) := by decide +kernel
theorem dX4_blow_10 : decode cX4_blow 10 = .ok (.iconst 0, 1) := by decide +kernel
theorem dX4_blow_11 : decode cX4_blow 11 = .ok (.istore_n 3, 1) := by decide +kernel
theorem dX4_blow_12 : decode cX4_blow 12 = .ok (.iconst 0, 1) := by decide +kernel
theorem dX4_blow_13 : decode cX4_blow 13 = .ok (.istore 4, 2) := by decide +kernel
theorem dX4_blow_15 : decode cX4_blow 15 = .ok (.iload 4, 2) := by decide +kernel
theorem dX4_blow_17 : decode cX4_blow 17 = .ok (.iconst 5, 1) := by decide +kernel
theorem dX4_blow_18 : decode cX4_blow 18 = .ok (.if_icmp .ge 55, 3) := by decide +kernel
theorem dX4_blow_21 : decode cX4_blow 21 = .ok (.iconst 0, 1) := by decide +kernel
theorem dX4_blow_22 : decode cX4_blow 22 = .ok (.istore 5, 2) := by decide +kernel
theorem dX4_blow_24 : decode cX4_blow 24 = .ok (.iload 5, 2) := by decide +kernel
theorem dX4_blow_26 : decode cX4_blow 26 = .ok (.bipush 6, 2) := by decide +kernel
theorem dX4_blow_28 : decode cX4_blow 28 = .ok (.if_icmp .ge 39, 3) := by decide +kernel
theorem dX4_blow_31 : decode cX4_blow 31 = .ok (.aload_n 0, 1) := by decide +kernel
theorem dX4_blow_32 : decode cX4_blow 32 = .ok (.getfield 23, 3) := by decide +kernel
theorem dX4_blow_35 : decode cX4_blow 35 = .ok (.iload 4, 2) := by decide +kernel
theorem dX4_blow_37 : decode cX4_blow 37 = .ok (.aaload, 1) := by decide +kernel
theorem dX4_blow_38 : decode cX4_blow 38 = .ok (.iload 5, 2) := by decide +kernel
theorem dX4_blow_40 : decode cX4_blow 40 = .ok (.dup2, 1) := by decide +kernel
theorem dX4_blow_41 : decode cX4_blow 41 = .ok (.iaload, 1) := by decide +kernel
theorem dX4_blow_42 : decode cX4_blow 42 = .ok (.aload_n 2, 1) := by decide +kernel
theorem dX4_blow_43 : decode cX4_blow 43 = .ok (.iload 4, 2) := by decide +kernel
theorem dX4_blow_45 : decode cX4_blow 45 = .ok (.aaload, 1) := by decide +kernel
theorem dX4_blow_46 : decode cX4_blow 46 = .ok (.iload 5, 2) := by decide +kernel
theorem dX4_blow_48 : decode cX4_blow 48 = .ok (.iaload, 1) := by decide +kernel
theorem dX4_blow_49 : decode cX4_blow 49 = .ok (.iadd, 1) := by decide +kernel
theorem dX4_blow_50 : decode cX4_blow 50 = .ok (.iastore, 1) := by decide +kernel
theorem dX4_blow_51 : decode cX4_blow 51 = .ok (.iload_n 3, 1) := by decide +kernel
theorem dX4_blow_52 : decode cX4_blow 52 = .ok (.aload_n 2, 1) := by decide +kernel
theorem dX4_blow_53 : decode cX4_blow 53 = .ok (.iload 4, 2) := by decide +kernel
theorem dX4_blow_55 : decode cX4_blow 55 = .ok (.aaload, 1) := by decide +kernel
theorem dX4_blow_56 : decode cX4_blow 56 = .ok (.iload 5, 2) := by decide +kernel
theorem dX4_blow_58 : decode cX4_blow 58 = .ok (.iaload, 1) := by decide +kernel
theorem dX4_blow_59 : decode cX4_blow 59 = .ok (.iadd, 1) := by decide +kernel
theorem dX4_blow_60 : decode cX4_blow 60 = .ok (.istore_n 3, 1) := by decide +kernel
theorem dX4_blow_61 : decode cX4_blow 61 = .ok (.iinc 5 1, 3) := by decide +kernel
theorem dX4_blow_64 : decode cX4_blow 64 = .ok (.goto (-40), 3) := by decide +kernel
theorem dX4_blow_67 : decode cX4_blow 67 = .ok (.iinc 4 1, 3) := by decide +kernel
theorem dX4_blow_70 : decode cX4_blow 70 = .ok (.goto (-55), 3) := by decide +kernel
theorem dX4_blow_73 : decode cX4_blow 73 = .ok (.aload_n 0, 1) := by decide +kernel
theorem dX4_blow_74 : decode cX4_blow 74 = .ok (.getfield 9, 3) := by decide +kernel
theorem dX4_blow_77 : decode cX4_blow 77 = .ok (.iload_n 1, 1) := by decide +kernel
theorem dX4_blow_78 : decode cX4_blow 78 = .ok (.aload_n 2, 1) := by decide +kernel
theorem dX4_blow_79 : decode cX4_blow 79 = .ok (.iconst 5, 1) := by decide +kernel
theorem dX4_blow_80 : decode cX4_blow 80 = .ok (.aaload, 1) := by decide +kernel
theorem dX4_blow_81 : decode cX4_blow 81 = .ok (.aastore, 1) := by decide +kernel
theorem dX4_blow_82 : decode cX4_blow 82 = .ok (.aload_n 0, 1) := by decide +kernel
theorem dX4_blow_83 : decode cX4_blow 83 = .ok (.dup, 1) := by decide +kernel
theorem dX4_blow_84 : decode cX4_blow 84 = .ok (.getfield 45, 3) := by decide +kernel
theorem dX4_blow_87 : decode cX4_blow 87 = .ok (.aload_n 2, 1) := by decide +kernel
theorem dX4_blow_88 : decode cX4_blow 88 = .ok (.bipush 6, 2) := by decide +kernel
theorem dX4_blow_90 : decode cX4_blow 90 = .ok (.aaload, 1) := by decide +kernel
theorem dX4_blow_91 : decode cX4_blow 91 = .ok (.invokestatic 48, 3) := by decide +kernel
theorem dX4_blow_94 : decode cX4_blow 94 = .ok (.iadd, 1) := by decide +kernel
theorem dX4_blow_95 : decode cX4_blow 95 = .ok (.putfield 45, 3) := by decide +kernel
theorem dX4_blow_98 : decode cX4_blow 98 = .ok (.iload_n 3, 1) := by decide +kernel
theorem dX4_blow_99 : decode cX4_blow 99 = .ok (.ireturn, 1) := by decide +kernel
set_option maxRecDepth 20000 in
theorem ggX4_take_X5_all : GoodIn wsX4_take wsX5_all := goodIn_r _ [8] (by decide +kernel) (by decide +kernel)
set_option maxRecDepth 20000 in
theorem gX4_take_X5_all : GoodIn wsX4_take (va_wsS RX4 48 yX5_all wsX5_all) := goodIn_app (goodIn_of _ (by decide +kernel)) ggX4_take_X5_all
theorem dX4_take_0 : decode cX4_take 0 = .ok (.iload_n 2, 1) := by decide +kernel
theorem dX4_take_1 : decode cX4_take 1 = .ok (.aload_n 0, 1) := by decide +kernel
theorem dX4_take_2 : decode cX4_take 2 = .ok (.invokestatic 48, 3) := by decide +kernel
theorem dX4_take_5 : decode cX4_take 5 = .ok (.sipush 300, 3) := by decide +kernel
theorem dX4_take_8 : decode cX4_take 8 = .ok (.aload_n 1, 1) := by decide +kernel
theorem dX4_take_9 : decode cX4_take 9 = .ok (.invokestatic 48, 3) := by decide +kernel
theorem dX4_take_12 : decode cX4_take 12 = .ok (.isub, 1) := by decide +kernel
theorem dX4_take_13 : decode cX4_take 13 = .ok (.invokestatic 35, 3) := by decide +kernel
theorem dX4_take_16 : decode cX4_take 16 = .ok (.invokestatic 35, 3) := by decide +kernel
theorem dX4_take_19 : decode cX4_take 19 = .ok (.istore_n 3, 1) := by decide +kernel
theorem dX4_take_20 : decode cX4_take 20 = .ok (.iload_n 3, 1) := by decide +kernel
theorem dX4_take_21 : decode cX4_take 21 = .ok (.istore 4, 2) := by decide +kernel
theorem dX4_take_23 : decode cX4_take 23 = .ok (.iconst 0, 1) := by decide +kernel
theorem dX4_take_24 : decode cX4_take 24 = .ok (.istore 5, 2) := by decide +kernel
theorem dX4_take_26 : decode cX4_take 26 = .ok (.iload 5, 2) := by decide +kernel
theorem dX4_take_28 : decode cX4_take 28 = .ok (.bipush 6, 2) := by decide +kernel
theorem dX4_take_30 : decode cX4_take 30 = .ok (.if_icmp .ge 45, 3) := by decide +kernel
theorem dX4_take_33 : decode cX4_take 33 = .ok (.iload 4, 2) := by decide +kernel
theorem dX4_take_35 : decode cX4_take 35 = .ok (.aload_n 0, 1) := by decide +kernel
theorem dX4_take_36 : decode cX4_take 36 = .ok (.iload 5, 2) := by decide +kernel
theorem dX4_take_38 : decode cX4_take 38 = .ok (.iaload, 1) := by decide +kernel
theorem dX4_take_39 : decode cX4_take 39 = .ok (.invokestatic 35, 3) := by decide +kernel
theorem dX4_take_42 : decode cX4_take 42 = .ok (.istore 6, 2) := by decide +kernel
theorem dX4_take_44 : decode cX4_take 44 = .ok (.aload_n 0, 1) := by decide +kernel
theorem dX4_take_45 : decode cX4_take 45 = .ok (.iload 5, 2) := by decide +kernel
theorem dX4_take_47 : decode cX4_take 47 = .ok (.dup2, 1) := by decide +kernel
theorem dX4_take_48 : decode cX4_take 48 = .ok (.iaload, 1) := by decide +kernel
theorem dX4_take_49 : decode cX4_take 49 = .ok (.iload 6, 2) := by decide +kernel
theorem dX4_take_51 : decode cX4_take 51 = .ok (.isub, 1) := by decide +kernel
theorem dX4_take_52 : decode cX4_take 52 = .ok (.iastore, 1) := by decide +kernel
theorem dX4_take_53 : decode cX4_take 53 = .ok (.aload_n 1, 1) := by decide +kernel
theorem dX4_take_54 : decode cX4_take 54 = .ok (.iload 5, 2) := by decide +kernel
theorem dX4_take_56 : decode cX4_take 56 = .ok (.dup2, 1) := by decide +kernel
theorem dX4_take_57 : decode cX4_take 57 = .ok (.iaload, 1) := by decide +kernel
theorem dX4_take_58 : decode cX4_take 58 = .ok (.iload 6, 2) := by decide +kernel
theorem dX4_take_60 : decode cX4_take 60 = .ok (.iadd, 1) := by decide +kernel
theorem dX4_take_61 : decode cX4_take 61 = .ok (.iastore, 1) := by decide +kernel
theorem dX4_take_62 : decode cX4_take 62 = .ok (.iload 4, 2) := by decide +kernel
theorem dX4_take_64 : decode cX4_take 64 = .ok (.iload 6, 2) := by decide +kernel
theorem dX4_take_66 : decode cX4_take 66 = .ok (.isub, 1) := by decide +kernel
theorem dX4_take_67 : decode cX4_take 67 = .ok (.istore 4, 2) := by decide +kernel
theorem dX4_take_69 : decode cX4_take 69 = .ok (.iinc 5 1, 3) := by decide +kernel
theorem dX4_take_72 : decode cX4_take 72 = .ok (.goto (-46), 3) := by decide +kernel
theorem dX4_take_75 : decode cX4_take 75 = .ok (.iload_n 3, 1) := by decide +kernel
theorem dX4_take_76 : decode cX4_take 76 = .ok (.ireturn, 1) := by decide +kernel
set_option maxRecDepth 20000 in
theorem ggX4_pass_X5_night : GoodIn wsX4_pass wsX5_night := goodIn_r _ [8, 9, 10, 11, 12, 13, 14, 15, 16, 17, 7, 18, 19, 20, 21, 22, 23, 24, 25, 26, 27, 28, 29, 30, 31, 32, 41, 42, 43, 44, 45] (by decide +kernel) (by decide +kernel)
set_option maxRecDepth 20000 in
theorem gX4_pass_X5_night : GoodIn wsX4_pass (wsV RX4 52 RX5 yX5_night wsX5_night) := goodIn_app (goodIn_of _ (by decide +kernel)) ggX4_pass_X5_night
theorem dX4_pass_0 : decode cX4_pass 0 = .ok (.iconst 0, 1) := by decide +kernel
theorem dX4_pass_1 : decode cX4_pass 1 = .ok (.istore_n 1, 1) := by decide +kernel
theorem dX4_pass_2 : decode cX4_pass 2 = .ok (.aload_n 0, 1) := by decide +kernel
theorem dX4_pass_3 : decode cX4_pass 3 = .ok (.getfield 28, 3) := by decide +kernel
theorem dX4_pass_6 : decode cX4_pass 6 = .ok (.astore_n 2, 1) := by decide +kernel
theorem dX4_pass_7 : decode cX4_pass 7 = .ok (.aload_n 2, 1) := by decide +kernel
theorem dX4_pass_8 : decode cX4_pass 8 = .ok (.arraylength, 1) := by decide +kernel
theorem dX4_pass_9 : decode cX4_pass 9 = .ok (.istore_n 3, 1) := by decide +kernel
theorem dX4_pass_10 : decode cX4_pass 10 = .ok (.iconst 0, 1) := by decide +kernel
theorem dX4_pass_11 : decode cX4_pass 11 = .ok (.istore 4, 2) := by decide +kernel
theorem dX4_pass_13 : decode cX4_pass 13 = .ok (.iload 4, 2) := by decide +kernel
theorem dX4_pass_15 : decode cX4_pass 15 = .ok (.iload_n 3, 1) := by decide +kernel
theorem dX4_pass_16 : decode cX4_pass 16 = .ok (.if_icmp .ge 23, 3) := by decide +kernel
theorem dX4_pass_19 : decode cX4_pass 19 = .ok (.aload_n 2, 1) := by decide +kernel
theorem dX4_pass_20 : decode cX4_pass 20 = .ok (.iload 4, 2) := by decide +kernel
theorem dX4_pass_22 : decode cX4_pass 22 = .ok (.aaload, 1) := by decide +kernel
theorem dX4_pass_23 : decode cX4_pass 23 = .ok (.astore 5, 2) := by decide +kernel
theorem dX4_pass_25 : decode cX4_pass 25 = .ok (.iload_n 1, 1) := by decide +kernel
theorem dX4_pass_26 : decode cX4_pass 26 = .ok (.aload 5, 2) := by decide +kernel
theorem dX4_pass_28 : decode cX4_pass 28 = .ok (.invokevirtual 52, 3) := by decide +kernel
theorem dX4_pass_31 : decode cX4_pass 31 = .ok (.iadd, 1) := by decide +kernel
theorem dX4_pass_32 : decode cX4_pass 32 = .ok (.istore_n 1, 1) := by decide +kernel
theorem dX4_pass_33 : decode cX4_pass 33 = .ok (.iinc 4 1, 3) := by decide +kernel
theorem dX4_pass_36 : decode cX4_pass 36 = .ok (.goto (-23), 3) := by decide +kernel
theorem dX4_pass_39 : decode cX4_pass 39 = .ok (.aload_n 0, 1) := by decide +kernel
theorem dX4_pass_40 : decode cX4_pass 40 = .ok (.dup, 1) := by decide +kernel
theorem dX4_pass_41 : decode cX4_pass 41 = .ok (.getfield 56, 3) := by decide +kernel
theorem dX4_pass_44 : decode cX4_pass 44 = .ok (.iconst 1, 1) := by decide +kernel
theorem dX4_pass_45 : decode cX4_pass 45 = .ok (.iadd, 1) := by decide +kernel
theorem dX4_pass_46 : decode cX4_pass 46 = .ok (.putfield 56, 3) := by decide +kernel
theorem dX4_pass_49 : decode cX4_pass 49 = .ok (.aload_n 0, 1) := by decide +kernel
theorem dX4_pass_50 : decode cX4_pass 50 = .ok (.dup, 1) := by decide +kernel
theorem dX4_pass_51 : decode cX4_pass 51 = .ok (.getfield 59, 3) := by decide +kernel
theorem dX4_pass_54 : decode cX4_pass 54 = .ok (.iload_n 1, 1) := by decide +kernel
theorem dX4_pass_55 : decode cX4_pass 55 = .ok (.iadd, 1) := by decide +kernel
theorem dX4_pass_56 : decode cX4_pass 56 = .ok (.putfield 59, 3) := by decide +kernel
theorem dX4_pass_59 : decode cX4_pass 59 = .ok (.iload_n 1, 1) := by decide +kernel
theorem dX4_pass_60 : decode cX4_pass 60 = .ok (.ireturn, 1) := by decide +kernel
theorem dX5_init_0 : decode cX5_init 0 = .ok (.aload_n 0, 1) := by decide +kernel
theorem dX5_init_1 : decode cX5_init 1 = .ok (.invokespecial 1, 3) := by decide +kernel
theorem dX5_init_4 : decode cX5_init 4 = .ok (.aload_n 0, 1) := by decide +kernel
theorem dX5_init_5 : decode cX5_init 5 = .ok (.iload_n 1, 1) := by decide +kernel
theorem dX5_init_6 : decode cX5_init 6 = .ok (.putfield 7, 3) := by decide +kernel
theorem dX5_init_9 : decode cX5_init 9 = .ok (.aload_n 0, 1) := by decide +kernel
theorem dX5_init_10 : decode cX5_init 10 = .ok (.iload_n 2, 1) := by decide +kernel
theorem dX5_init_11 : decode cX5_init 11 = .ok (.putfield 13, 3) := by decide +kernel
theorem dX5_init_14 : decode cX5_init 14 = .ok (.aload_n 0, 1) := by decide +kernel
theorem dX5_init_15 : decode cX5_init 15 = .ok (.iload_n 3, 1) := by decide +kernel
theorem dX5_init_16 : decode cX5_init 16 = .ok (.putfield 16, 3) := by decide +kernel
theorem dX5_init_19 : decode cX5_init 19 = .ok (.aload_n 0, 1) := by decide +kernel
theorem dX5_init_20 : decode cX5_init 20 = .ok (.iload_n 1, 1) := by decide +kernel
theorem dX5_init_21 : decode cX5_init 21 = .ok (.iload_n 2, 1) := by decide +kernel
theorem dX5_init_22 : decode cX5_init 22 = .ok (.imul, 1) := by decide +kernel
theorem dX5_init_23 : decode cX5_init 23 = .ok (.bipush 6, 2) := by decide +kernel
theorem dX5_init_25 : decode cX5_init 25 = .ok (.multianewarray 19 2, 4) := by decide +kernel
theorem dX5_init_29 : decode cX5_init 29 = .ok (.putfield 21, 3) := by decide +kernel
theorem dX5_init_32 : decode cX5_init 32 = .ok (.aload_n 0, 1) := by decide +kernel
theorem dX5_init_33 : decode cX5_init 33 = .ok (.iload_n 1, 1) := by decide +kernel
theorem dX5_init_34 : decode cX5_init 34 = .ok (.iload_n 2, 1) := by decide +kernel
theorem dX5_init_35 : decode cX5_init 35 = .ok (.imul, 1) := by decide +kernel
theorem dX5_init_36 : decode cX5_init 36 = .ok (.iconst 2, 1) := by decide +kernel
theorem dX5_init_37 : decode cX5_init 37 = .ok (.multianewarray 24 2, 4) := by decide +kernel
theorem dX5_init_41 : decode cX5_init 41 = .ok (.putfield 26, 3) := by decide +kernel
theorem dX5_init_44 : decode cX5_init 44 = .ok (.return_, 1) := by decide +kernel
theorem dX5_has_0 : decode cX5_has 0 = .ok (.iload_n 2, 1) := by decide +kernel
theorem dX5_has_1 : decode cX5_has 1 = .ok (.ifCond .ne 26, 3) := by decide +kernel
theorem dX5_has_4 : decode cX5_has 4 = .ok (.iload_n 1, 1) := by decide +kernel
theorem dX5_has_5 : decode cX5_has 5 = .ok (.aload_n 0, 1) := by decide +kernel
theorem dX5_has_6 : decode cX5_has 6 = .ok (.getfield 7, 3) := by decide +kernel
theorem dX5_has_9 : decode cX5_has 9 = .ok (.irem, 1) := by decide +kernel
theorem dX5_has_10 : decode cX5_has 10 = .ok (.iconst 1, 1) := by decide +kernel
theorem dX5_has_11 : decode cX5_has 11 = .ok (.iadd, 1) := by decide +kernel
theorem dX5_has_12 : decode cX5_has 12 = .ok (.aload_n 0, 1) := by decide +kernel
theorem dX5_has_13 : decode cX5_has 13 = .ok (.getfield 7, 3) := by decide +kernel
theorem dX5_has_16 : decode cX5_has 16 = .ok (.if_icmp .ge 7, 3) := by decide +kernel
theorem dX5_has_19 : decode cX5_has 19 = .ok (.iconst 1, 1) := by decide +kernel
theorem dX5_has_20 : decode cX5_has 20 = .ok (.goto 27, 3) := by decide +kernel
theorem dX5_has_23 : decode cX5_has 23 = .ok (.iconst 0, 1) := by decide +kernel
theorem dX5_has_24 : decode cX5_has 24 = .ok (.goto 23, 3) := by decide +kernel
theorem dX5_has_27 : decode cX5_has 27 = .ok (.iload_n 1, 1) := by decide +kernel
theorem dX5_has_28 : decode cX5_has 28 = .ok (.aload_n 0, 1) := by decide +kernel
theorem dX5_has_29 : decode cX5_has 29 = .ok (.getfield 7, 3) := by decide +kernel
theorem dX5_has_32 : decode cX5_has 32 = .ok (.idiv, 1) := by decide +kernel
theorem dX5_has_33 : decode cX5_has 33 = .ok (.iconst 1, 1) := by decide +kernel
theorem dX5_has_34 : decode cX5_has 34 = .ok (.iadd, 1) := by decide +kernel
theorem dX5_has_35 : decode cX5_has 35 = .ok (.aload_n 0, 1) := by decide +kernel
theorem dX5_has_36 : decode cX5_has 36 = .ok (.getfield 13, 3) := by decide +kernel
theorem dX5_has_39 : decode cX5_has 39 = .ok (.if_icmp .ge 7, 3) := by decide +kernel
theorem dX5_has_42 : decode cX5_has 42 = .ok (.iconst 1, 1) := by decide +kernel
theorem dX5_has_43 : decode cX5_has 43 = .ok (.goto 4, 3) := by decide +kernel
theorem dX5_has_46 : decode cX5_has 46 = .ok (.iconst 0, 1) := by decide +kernel
theorem dX5_has_47 : decode cX5_has 47 = .ok (.ireturn, 1) := by decide +kernel
theorem dX5_to_0 : decode cX5_to 0 = .ok (.iload_n 2, 1) := by decide +kernel
theorem dX5_to_1 : decode cX5_to 1 = .ok (.ifCond .ne 9, 3) := by decide +kernel
theorem dX5_to_4 : decode cX5_to 4 = .ok (.iload_n 1, 1) := by decide +kernel
theorem dX5_to_5 : decode cX5_to 5 = .ok (.iconst 1, 1) := by decide +kernel
theorem dX5_to_6 : decode cX5_to 6 = .ok (.iadd, 1) := by decide +kernel
theorem dX5_to_7 : decode cX5_to 7 = .ok (.goto 9, 3) := by decide +kernel
theorem dX5_to_10 : decode cX5_to 10 = .ok (.iload_n 1, 1) := by decide +kernel
theorem dX5_to_11 : decode cX5_to 11 = .ok (.aload_n 0, 1) := by decide +kernel
theorem dX5_to_12 : decode cX5_to 12 = .ok (.getfield 7, 3) := by decide +kernel
theorem dX5_to_15 : decode cX5_to 15 = .ok (.iadd, 1) := by decide +kernel
theorem dX5_to_16 : decode cX5_to 16 = .ok (.ireturn, 1) := by decide +kernel
set_option maxRecDepth 20000 in
theorem ggX5_isOpen_X5_has : GoodIn wsX5_isOpen wsX5_has := goodIn_r _ [6, 7, 8, 9, 10, 11, 12, 13] (by decide +kernel) (by decide +kernel)
set_option maxRecDepth 20000 in
theorem gX5_isOpen_X5_has : GoodIn wsX5_isOpen (wsV RX5 41 RX5 yX5_has wsX5_has) := goodIn_app (goodIn_of _ (by decide +kernel)) ggX5_isOpen_X5_has
theorem dX5_isOpen_0 : decode cX5_isOpen 0 = .ok (.aload_n 0, 1) := by decide +kernel
theorem dX5_isOpen_1 : decode cX5_isOpen 1 = .ok (.iload_n 1, 1) := by decide +kernel
theorem dX5_isOpen_2 : decode cX5_isOpen 2 = .ok (.iload_n 2, 1) := by decide +kernel
theorem dX5_isOpen_3 : decode cX5_isOpen 3 = .ok (.invokevirtual 41, 3) := by decide +kernel
theorem dX5_isOpen_6 : decode cX5_isOpen 6 = .ok (.ifCond .eq 18, 3) := by decide +kernel
theorem dX5_isOpen_9 : decode cX5_isOpen 9 = .ok (.aload_n 0, 1) := by decide +kernel
theorem dX5_isOpen_10 : decode cX5_isOpen 10 = .ok (.getfield 26, 3) := by decide +kernel
theorem dX5_isOpen_13 : decode cX5_isOpen 13 = .ok (.iload_n 1, 1) := by decide +kernel
theorem dX5_isOpen_14 : decode cX5_isOpen 14 = .ok (.aaload, 1) := by decide +kernel
theorem dX5_isOpen_15 : decode cX5_isOpen 15 = .ok (.iload_n 2, 1) := by decide +kernel
theorem dX5_isOpen_16 : decode cX5_isOpen 16 = .ok (.baload, 1) := by decide +kernel
theorem dX5_isOpen_17 : decode cX5_isOpen 17 = .ok (.ifCond .ne 7, 3) := by decide +kernel
theorem dX5_isOpen_20 : decode cX5_isOpen 20 = .ok (.iconst 1, 1) := by decide +kernel
theorem dX5_isOpen_21 : decode cX5_isOpen 21 = .ok (.goto 4, 3) := by decide +kernel
theorem dX5_isOpen_24 : decode cX5_isOpen 24 = .ok (.iconst 0, 1) := by decide +kernel
theorem dX5_isOpen_25 : decode cX5_isOpen 25 = .ok (.ireturn, 1) := by decide +kernel
set_option maxRecDepth 20000 in
theorem ggX5_open_X5_isOpen : GoodIn wsX5_open wsX5_isOpen := goodIn_r _ [6, 7, 8, 9, 10, 5, 11, 12, 13, 14, 15, 16, 17, 18] (by decide +kernel) (by decide +kernel)
set_option maxRecDepth 20000 in
theorem gX5_open_X5_isOpen : GoodIn wsX5_open (wsV RX5 45 RX5 yX5_isOpen wsX5_isOpen) := goodIn_app (goodIn_of _ (by decide +kernel)) ggX5_open_X5_isOpen
theorem dX5_open_0 : decode cX5_open 0 = .ok (.iconst 0, 1) := by decide +kernel
theorem dX5_open_1 : decode cX5_open 1 = .ok (.istore_n 1, 1) := by decide +kernel
theorem dX5_open_2 : decode cX5_open 2 = .ok (.iconst 0, 1) := by decide +kernel
theorem dX5_open_3 : decode cX5_open 3 = .ok (.istore_n 2, 1) := by decide +kernel
theorem dX5_open_4 : decode cX5_open 4 = .ok (.iload_n 2, 1) := by decide +kernel
theorem dX5_open_5 : decode cX5_open 5 = .ok (.aload_n 0, 1) := by decide +kernel
theorem dX5_open_6 : decode cX5_open 6 = .ok (.getfield 21, 3) := by decide +kernel
theorem dX5_open_9 : decode cX5_open 9 = .ok (.arraylength, 1) := by decide +kernel
theorem dX5_open_10 : decode cX5_open 10 = .ok (.if_icmp .ge 39, 3) := by decide +kernel
theorem dX5_open_13 : decode cX5_open 13 = .ok (.iconst 0, 1) := by decide +kernel
theorem dX5_open_14 : decode cX5_open 14 = .ok (.istore_n 3, 1) := by decide +kernel
theorem dX5_open_15 : decode cX5_open 15 = .ok (.iload_n 3, 1) := by decide +kernel
theorem dX5_open_16 : decode cX5_open 16 = .ok (.iconst 2, 1) := by decide +kernel
theorem dX5_open_17 : decode cX5_open 17 = .ok (.if_icmp .ge 26, 3) := by decide +kernel
theorem dX5_open_20 : decode cX5_open 20 = .ok (.iload_n 1, 1) := by decide +kernel
theorem dX5_open_21 : decode cX5_open 21 = .ok (.aload_n 0, 1) := by decide +kernel
theorem dX5_open_22 : decode cX5_open 22 = .ok (.iload_n 2, 1) := by decide +kernel
theorem dX5_open_23 : decode cX5_open 23 = .ok (.iload_n 3, 1) := by decide +kernel
theorem dX5_open_24 : decode cX5_open 24 = .ok (.invokevirtual 45, 3) := by decide +kernel
theorem dX5_open_27 : decode cX5_open 27 = .ok (.ifCond .eq 7, 3) := by decide +kernel
theorem dX5_open_30 : decode cX5_open 30 = .ok (.iconst 1, 1) := by decide +kernel
theorem dX5_open_31 : decode cX5_open 31 = .ok (.goto 4, 3) := by decide +kernel
theorem dX5_open_34 : decode cX5_open 34 = .ok (.iconst 0, 1) := by decide +kernel
theorem dX5_open_35 : decode cX5_open 35 = .ok (.iadd, 1) := by decide +kernel
theorem dX5_open_36 : decode cX5_open 36 = .ok (.istore_n 1, 1) := by decide +kernel
theorem dX5_open_37 : decode cX5_open 37 = .ok (.iinc 3 1, 3) := by decide +kernel
theorem dX5_open_40 : decode cX5_open 40 = .ok (.goto (-25), 3) := by decide +kernel
theorem dX5_open_43 : decode cX5_open 43 = .ok (.iinc 2 1, 3) := by decide +kernel
theorem dX5_open_46 : decode cX5_open 46 = .ok (.goto (-42), 3) := by decide +kernel
theorem dX5_open_49 : decode cX5_open 49 = .ok (.iload_n 1, 1) := by decide +kernel
theorem dX5_open_50 : decode cX5_open 50 = .ok (.ireturn, 1) := by decide +kernel
theorem dX5_all_0 : decode cX5_all 0 = .ok (.iconst 0, 1) := by decide +kernel
theorem dX5_all_1 : decode cX5_all 1 = .ok (.istore_n 1, 1) := by decide +kernel
theorem dX5_all_2 : decode cX5_all 2 = .ok (.aload_n 0, 1) := by decide +kernel
theorem dX5_all_3 : decode cX5_all 3 = .ok (.astore_n 2, 1) := by decide +kernel
theorem dX5_all_4 : decode cX5_all 4 = .ok (.aload_n 2, 1) := by decide +kernel
theorem dX5_all_5 : decode cX5_all 5 = .ok (.arraylength, 1) := by decide +kernel
theorem dX5_all_6 : decode cX5_all 6 = .ok (.istore_n 3, 1) := by decide +kernel
theorem dX5_all_7 : decode cX5_all 7 = .ok (.iconst 0, 1) := by decide +kernel
theorem dX5_all_8 : decode cX5_all 8 = .ok (.istore 4, 2) := by decide +kernel
theorem dX5_all_10 : decode cX5_all 10 = .ok (.iload 4, 2) := by decide +kernel
theorem dX5_all_12 : decode cX5_all 12 = .ok (.iload_n 3, 1) := by decide +kernel
theorem dX5_all_13 : decode cX5_all 13 = .ok (.if_icmp .ge 20, 3) := by decide +kernel
theorem dX5_all_16 : decode cX5_all 16 = .ok (.aload_n 2, 1) := by decide +kernel
theorem dX5_all_17 : decode cX5_all 17 = .ok (.iload 4, 2) := by decide +kernel
theorem dX5_all_19 : decode cX5_all 19 = .ok (.iaload, 1) := by decide +kernel
theorem dX5_all_20 : decode cX5_all 20 = .ok (.istore 5, 2) := by decide +kernel
theorem dX5_all_22 : decode cX5_all 22 = .ok (.iload_n 1, 1) := by decide +kernel
theorem dX5_all_23 : decode cX5_all 23 = .ok (.iload 5, 2) := by decide +kernel
theorem dX5_all_25 : decode cX5_all 25 = .ok (.iadd, 1) := by decide +kernel
theorem dX5_all_26 : decode cX5_all 26 = .ok (.istore_n 1, 1) := by decide +kernel
theorem dX5_all_27 : decode cX5_all 27 = .ok (.iinc 4 1, 3) := by decide +kernel
theorem dX5_all_30 : decode cX5_all 30 = .ok (.goto (-20), 3) := by decide +kernel
theorem dX5_all_33 : decode cX5_all 33 = .ok (.iload_n 1, 1) := by decide +kernel
theorem dX5_all_34 : decode cX5_all 34 = .ok (.ireturn, 1) := by decide +kernel
set_option maxRecDepth 20000 in
theorem ggX5_night_X5_isOpen : GoodIn wsX5_night wsX5_isOpen := goodIn_r _ [11, 12, 13, 14, 15, 10, 16, 17, 18, 26, 27, 28, 29, 30] (by decide +kernel) (by decide +kernel)
set_option maxRecDepth 20000 in
theorem gX5_night_X5_isOpen : GoodIn wsX5_night (wsV RX5 45 RX5 yX5_isOpen wsX5_isOpen) := goodIn_app (goodIn_of _ (by decide +kernel)) ggX5_night_X5_isOpen
set_option maxRecDepth 20000 in
theorem ggX5_night_X5_to : GoodIn wsX5_night wsX5_to := goodIn_r _ [22, 17, 26, 27, 28, 29, 30] (by decide +kernel) (by decide +kernel)
set_option maxRecDepth 20000 in
theorem gX5_night_X5_to : GoodIn wsX5_night (wsV RX5 52 RX5 yX5_to wsX5_to) := goodIn_app (goodIn_of _ (by decide +kernel)) ggX5_night_X5_to
set_option maxRecDepth 20000 in
theorem ggX5_night_X5_all : GoodIn wsX5_night wsX5_all := goodIn_r _ [25] (by decide +kernel) (by decide +kernel)
set_option maxRecDepth 20000 in
theorem gX5_night_X5_all : GoodIn wsX5_night (va_wsS RX5 60 yX5_all wsX5_all) := goodIn_app (goodIn_of _ (by decide +kernel)) ggX5_night_X5_all
theorem dX5_night_0 : decode cX5_night 0 = .ok (.iconst 0, 1) := by decide +kernel
theorem dX5_night_1 : decode cX5_night 1 = .ok (.istore_n 1, 1) := by decide +kernel
theorem dX5_night_2 : decode cX5_night 2 = .ok (.aload_n 0, 1) := by decide +kernel
theorem dX5_night_3 : decode cX5_night 3 = .ok (.getfield 21, 3) := by decide +kernel
theorem dX5_night_6 : decode cX5_night 6 = .ok (.astore_n 2, 1) := by decide +kernel
theorem dX5_night_7 : decode cX5_night 7 = .ok (.aload_n 2, 1) := by decide +kernel
theorem dX5_night_8 : decode cX5_night 8 = .ok (.arraylength, 1) := by decide +kernel
theorem dX5_night_9 : decode cX5_night 9 = .ok (.istore_n 3, 1) := by decide +kernel
theorem dX5_night_10 : decode cX5_night 10 = .ok (.iconst 0, 1) := by decide +kernel
theorem dX5_night_11 : decode cX5_night 11 = .ok (.istore 4, 2) := by decide +kernel
theorem dX5_night_13 : decode cX5_night 13 = .ok (.iload 4, 2) := by decide +kernel
theorem dX5_night_15 : decode cX5_night 15 = .ok (.iload_n 3, 1) := by decide +kernel
theorem dX5_night_16 : decode cX5_night 16 = .ok (.if_icmp .ge 82, 3) := by decide +kernel
theorem dX5_night_19 : decode cX5_night 19 = .ok (.aload_n 2, 1) := by decide +kernel
theorem dX5_night_20 : decode cX5_night 20 = .ok (.iload 4, 2) := by decide +kernel
theorem dX5_night_22 : decode cX5_night 22 = .ok (.aaload, 1) := by decide +kernel
theorem dX5_night_23 : decode cX5_night 23 = .ok (.astore 5, 2) := by decide +kernel
theorem dX5_night_25 : decode cX5_night 25 = .ok (.iconst 1, 1) := by decide +kernel
theorem dX5_night_26 : decode cX5_night 26 = .ok (.istore 6, 2) := by decide +kernel
theorem dX5_night_28 : decode cX5_night 28 = .ok (.iload 6, 2) := by decide +kernel
theorem dX5_night_30 : decode cX5_night 30 = .ok (.bipush 6, 2) := by decide +kernel
theorem dX5_night_32 : decode cX5_night 32 = .ok (.if_icmp .ge 60, 3) := by decide +kernel
theorem dX5_night_35 : decode cX5_night 35 = .ok (.iload 6, 2) := by decide +kernel
theorem dX5_night_37 : decode cX5_night 37 = .ok (.iload 6, 2) := by decide +kernel
theorem dX5_night_39 : decode cX5_night 39 = .ok (.iadd, 1) := by decide +kernel
theorem dX5_night_40 : decode cX5_night 40 = .ok (.aload_n 0, 1) := by decide +kernel
theorem dX5_night_41 : decode cX5_night 41 = .ok (.getfield 16, 3) := by decide +kernel
theorem dX5_night_44 : decode cX5_night 44 = .ok (.if_icmp .gt 6, 3) := by decide +kernel
theorem dX5_night_47 : decode cX5_night 47 = .ok (.goto 39, 3) := by decide +kernel
theorem dX5_night_50 : decode cX5_night 50 = .ok (.aload 5, 2) := by decide +kernel
theorem dX5_night_52 : decode cX5_night 52 = .ok (.iload 6, 2) := by decide +kernel
theorem dX5_night_54 : decode cX5_night 54 = .ok (.iaload, 1) := by decide +kernel
theorem dX5_night_55 : decode cX5_night 55 = .ok (.iload 6, 2) := by decide +kernel
theorem dX5_night_57 : decode cX5_night 57 = .ok (.iload 6, 2) := by decide +kernel
theorem dX5_night_59 : decode cX5_night 59 = .ok (.iadd, 1) := by decide +kernel
theorem dX5_night_60 : decode cX5_night 60 = .ok (.aload_n 0, 1) := by decide +kernel
theorem dX5_night_61 : decode cX5_night 61 = .ok (.getfield 16, 3) := by decide +kernel
theorem dX5_night_64 : decode cX5_night 64 = .ok (.isub, 1) := by decide +kernel
theorem dX5_night_65 : decode cX5_night 65 = .ok (.imul, 1) := by decide +kernel
theorem dX5_night_66 : decode cX5_night 66 = .ok (.bipush 30, 2) := by decide +kernel
theorem dX5_night_68 : decode cX5_night 68 = .ok (.idiv, 1) := by decide +kernel
theorem dX5_night_69 : decode cX5_night 69 = .ok (.istore 7, 2) := by decide +kernel
theorem dX5_night_71 : decode cX5_night 71 = .ok (.aload 5, 2) := by decide +kernel
theorem dX5_night_73 : decode cX5_night 73 = .ok (.iload 6, 2) := by decide +kernel
theorem dX5_night_75 : decode cX5_night 75 = .ok (.dup2, 1) := by decide +kernel
theorem dX5_night_76 : decode cX5_night 76 = .ok (.iaload, 1) := by decide +kernel
theorem dX5_night_77 : decode cX5_night 77 = .ok (.iload 7, 2) := by decide +kernel
theorem dX5_night_79 : decode cX5_night 79 = .ok (.isub, 1) := by decide +kernel
theorem dX5_night_80 : decode cX5_night 80 = .ok (.iastore, 1) := by decide +kernel
theorem dX5_night_81 : decode cX5_night 81 = .ok (.iload_n 1, 1) := by decide +kernel
theorem dX5_night_82 : decode cX5_night 82 = .ok (.iload 7, 2) := by decide +kernel
theorem dX5_night_84 : decode cX5_night 84 = .ok (.iadd, 1) := by decide +kernel
theorem dX5_night_85 : decode cX5_night 85 = .ok (.istore_n 1, 1) := by decide +kernel
theorem dX5_night_86 : decode cX5_night 86 = .ok (.iinc 6 1, 3) := by decide +kernel
theorem dX5_night_89 : decode cX5_night 89 = .ok (.goto (-61), 3) := by decide +kernel
theorem dX5_night_92 : decode cX5_night 92 = .ok (.iinc 4 1, 3) := by decide +kernel
theorem dX5_night_95 : decode cX5_night 95 = .ok (.goto (-82), 3) := by decide +kernel
theorem dX5_night_98 : decode cX5_night 98 = .ok (.iconst 0, 1) := by decide +kernel
theorem dX5_night_99 : decode cX5_night 99 = .ok (.istore_n 2, 1) := by decide +kernel
theorem dX5_night_100 : decode cX5_night 100 = .ok (.iload_n 2, 1) := by decide +kernel
theorem dX5_night_101 : decode cX5_night 101 = .ok (.aload_n 0, 1) := by decide +kernel
theorem dX5_night_102 : decode cX5_night 102 = .ok (.getfield 21, 3) := by decide +kernel
theorem dX5_night_105 : decode cX5_night 105 = .ok (.arraylength, 1) := by decide +kernel
theorem dX5_night_106 : decode cX5_night 106 = .ok (.if_icmp .ge 157, 3) := by decide +kernel
theorem dX5_night_109 : decode cX5_night 109 = .ok (.iconst 0, 1) := by decide +kernel
theorem dX5_night_110 : decode cX5_night 110 = .ok (.istore_n 3, 1) := by decide +kernel
theorem dX5_night_111 : decode cX5_night 111 = .ok (.iload_n 3, 1) := by decide +kernel
theorem dX5_night_112 : decode cX5_night 112 = .ok (.iconst 2, 1) := by decide +kernel
theorem dX5_night_113 : decode cX5_night 113 = .ok (.if_icmp .ge 144, 3) := by decide +kernel
theorem dX5_night_116 : decode cX5_night 116 = .ok (.aload_n 0, 1) := by decide +kernel
theorem dX5_night_117 : decode cX5_night 117 = .ok (.iload_n 2, 1) := by decide +kernel
theorem dX5_night_118 : decode cX5_night 118 = .ok (.iload_n 3, 1) := by decide +kernel
theorem dX5_night_119 : decode cX5_night 119 = .ok (.invokevirtual 45, 3) := by decide +kernel
theorem dX5_night_122 : decode cX5_night 122 = .ok (.ifCond .ne 6, 3) := by decide +kernel
theorem dX5_night_125 : decode cX5_night 125 = .ok (.goto 126, 3) := by decide +kernel
theorem dX5_night_128 : decode cX5_night 128 = .ok (.aload_n 0, 1) := by decide +kernel
theorem dX5_night_129 : decode cX5_night 129 = .ok (.getfield 21, 3) := by decide +kernel
theorem dX5_night_132 : decode cX5_night 132 = .ok (.iload_n 2, 1) := by decide +kernel
theorem dX5_night_133 : decode cX5_night 133 = .ok (.aaload, 1) := by decide +kernel
theorem dX5_night_134 : decode cX5_night 134 = .ok (.astore 4, 2) := by decide +kernel
theorem dX5_night_136 : decode cX5_night 136 = .ok (.aload_n 0, 1) := by decide +kernel
theorem dX5_night_137 : decode cX5_night 137 = .ok (.getfield 21, 3) := by decide +kernel
theorem dX5_night_140 : decode cX5_night 140 = .ok (.aload_n 0, 1) := by decide +kernel
theorem dX5_night_141 : decode cX5_night 141 = .ok (.iload_n 2, 1) := by decide +kernel
theorem dX5_night_142 : decode cX5_night 142 = .ok (.iload_n 3, 1) := by decide +kernel
theorem dX5_night_143 : decode cX5_night 143 = .ok (.invokevirtual 52, 3) := by decide +kernel
theorem dX5_night_146 : decode cX5_night 146 = .ok (.aaload, 1) := by decide +kernel
theorem dX5_night_147 : decode cX5_night 147 = .ok (.astore 5, 2) := by decide +kernel
theorem dX5_night_149 : decode cX5_night 149 = .ok (.aload 4, 2) := by decide +kernel
theorem dX5_night_151 : decode cX5_night 151 = .ok (.invokestatic 60, 3) := by decide +kernel
theorem dX5_night_154 : decode cX5_night 154 = .ok (.aload 5, 2) := by decide +kernel
theorem dX5_night_156 : decode cX5_night 156 = .ok (.invokestatic 60, 3) := by decide +kernel
theorem dX5_night_159 : decode cX5_night 159 = .ok (.if_icmp .ge 15, 3) := by decide +kernel
theorem dX5_night_162 : decode cX5_night 162 = .ok (.aload 4, 2) := by decide +kernel
theorem dX5_night_164 : decode cX5_night 164 = .ok (.astore 6, 2) := by decide +kernel
theorem dX5_night_166 : decode cX5_night 166 = .ok (.aload 5, 2) := by decide +kernel
theorem dX5_night_168 : decode cX5_night 168 = .ok (.astore 4, 2) := by decide +kernel
theorem dX5_night_170 : decode cX5_night 170 = .ok (.aload 6, 2) := by decide +kernel
theorem dX5_night_172 : decode cX5_night 172 = .ok (.astore 5, 2) := by decide +kernel
theorem dX5_night_174 : decode cX5_night 174 = .ok (.aload 4, 2) := by decide +kernel
theorem dX5_night_176 : decode cX5_night 176 = .ok (.invokestatic 60, 3) := by decide +kernel
theorem dX5_night_179 : decode cX5_night 179 = .ok (.aload 5, 2) := by decide +kernel
theorem dX5_night_181 : decode cX5_night 181 = .ok (.invokestatic 60, 3) := by decide +kernel
theorem dX5_night_184 : decode cX5_night 184 = .ok (.isub, 1) := by decide +kernel
theorem dX5_night_185 : decode cX5_night 185 = .ok (.bipush 8, 2) := by decide +kernel
theorem dX5_night_187 : decode cX5_night 187 = .ok (.idiv, 1) := by decide +kernel
theorem dX5_night_188 : decode cX5_night 188 = .ok (.istore 6, 2) := by decide +kernel
theorem dX5_night_190 : decode cX5_night 190 = .ok (.iload 6, 2) := by decide +kernel
theorem dX5_night_192 : decode cX5_night 192 = .ok (.aload 4, 2) := by decide +kernel
theorem dX5_night_194 : decode cX5_night 194 = .ok (.iconst 0, 1) := by decide +kernel
theorem dX5_night_195 : decode cX5_night 195 = .ok (.iaload, 1) := by decide +kernel
theorem dX5_night_196 : decode cX5_night 196 = .ok (.invokestatic 63, 3) := by decide +kernel
theorem dX5_night_199 : decode cX5_night 199 = .ok (.istore 7, 2) := by decide +kernel
theorem dX5_night_201 : decode cX5_night 201 = .ok (.iload 6, 2) := by decide +kernel
theorem dX5_night_203 : decode cX5_night 203 = .ok (.iload 7, 2) := by decide +kernel
theorem dX5_night_205 : decode cX5_night 205 = .ok (.isub, 1) := by decide +kernel
theorem dX5_night_206 : decode cX5_night 206 = .ok (.aload 4, 2) := by decide +kernel
theorem dX5_night_208 : decode cX5_night 208 = .ok (.iconst 1, 1) := by decide +kernel
theorem dX5_night_209 : decode cX5_night 209 = .ok (.iaload, 1) := by decide +kernel
theorem dX5_night_210 : decode cX5_night 210 = .ok (.invokestatic 63, 3) := by decide +kernel
theorem dX5_night_213 : decode cX5_night 213 = .ok (.istore 8, 2) := by decide +kernel
theorem dX5_night_215 : decode cX5_night 215 = .ok (.aload 4, 2) := by decide +kernel
theorem dX5_night_217 : decode cX5_night 217 = .ok (.iconst 0, 1) := by decide +kernel
theorem dX5_night_218 : decode cX5_night 218 = .ok (.dup2, 1) := by decide +kernel
theorem dX5_night_219 : decode cX5_night 219 = .ok (.iaload, 1) := by decide +kernel
theorem dX5_night_220 : decode cX5_night 220 = .ok (.iload 7, 2) := by decide +kernel
theorem dX5_night_222 : decode cX5_night 222 = .ok (.isub, 1) := by decide +kernel
theorem dX5_night_223 : decode cX5_night 223 = .ok (.iastore, 1) := by decide +kernel
theorem dX5_night_224 : decode cX5_night 224 = .ok (.aload 5, 2) := by decide +kernel
theorem dX5_night_226 : decode cX5_night 226 = .ok (.iconst 0, 1) := by decide +kernel
theorem dX5_night_227 : decode cX5_night 227 = .ok (.dup2, 1) := by decide +kernel
theorem dX5_night_228 : decode cX5_night 228 = .ok (.iaload, 1) := by decide +kernel
theorem dX5_night_229 : decode cX5_night 229 = .ok (.iload 7, 2) := by decide +kernel
theorem dX5_night_231 : decode cX5_night 231 = .ok (.iadd, 1) := by decide +kernel
theorem dX5_night_232 : decode cX5_night 232 = .ok (.iastore, 1) := by decide +kernel
theorem dX5_night_233 : decode cX5_night 233 = .ok (.aload 4, 2) := by decide +kernel
theorem dX5_night_235 : decode cX5_night 235 = .ok (.iconst 1, 1) := by decide +kernel
theorem dX5_night_236 : decode cX5_night 236 = .ok (.dup2, 1) := by decide +kernel
theorem dX5_night_237 : decode cX5_night 237 = .ok (.iaload, 1) := by decide +kernel
theorem dX5_night_238 : decode cX5_night 238 = .ok (.iload 8, 2) := by decide +kernel
theorem dX5_night_240 : decode cX5_night 240 = .ok (.isub, 1) := by decide +kernel
theorem dX5_night_241 : decode cX5_night 241 = .ok (.iastore, 1) := by decide +kernel
theorem dX5_night_242 : decode cX5_night 242 = .ok (.aload 5, 2) := by decide +kernel
theorem dX5_night_244 : decode cX5_night 244 = .ok (.iconst 1, 1) := by decide +kernel
theorem dX5_night_245 : decode cX5_night 245 = .ok (.dup2, 1) := by decide +kernel
theorem dX5_night_246 : decode cX5_night 246 = .ok (.iaload, 1) := by decide +kernel
theorem dX5_night_247 : decode cX5_night 247 = .ok (.iload 8, 2) := by decide +kernel
theorem dX5_night_249 : decode cX5_night 249 = .ok (.iadd, 1) := by decide +kernel
theorem dX5_night_250 : decode cX5_night 250 = .ok (.iastore, 1) := by decide +kernel
theorem dX5_night_251 : decode cX5_night 251 = .ok (.iinc 3 1, 3) := by decide +kernel
theorem dX5_night_254 : decode cX5_night 254 = .ok (.goto (-143), 3) := by decide +kernel
theorem dX5_night_257 : decode cX5_night 257 = .ok (.iinc 2 1, 3) := by decide +kernel
theorem dX5_night_260 : decode cX5_night 260 = .ok (.goto (-160), 3) := by decide +kernel
theorem dX5_night_263 : decode cX5_night 263 = .ok (.iload_n 1, 1) := by decide +kernel
theorem dX5_night_264 : decode cX5_night 264 = .ok (.ireturn, 1) := by decide +kernel
