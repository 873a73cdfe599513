set_option maxRecDepth 20000 in
theorem ggX3_init_Jx4a65c_init_da8c8 : GoodIn wsX3_init wsJx4a65c_init_da8c8 := goodIn_r _ [20, 21, 22, 23, 24, 25, 26, 27, 28, 29, 30, 31, 32, 2, 3, 53, 54, 55] (by decide +kernel) (by decide +kernel)
set_option maxRecDepth 20000 in
theorem gX3_init_Jx4a65c_init_da8c8 : GoodIn wsX3_init (wsJx4a65c_init_da8c8) := ggX3_init_Jx4a65c_init_da8c8
set_option maxRecDepth 20000 in
theorem ggX3_init_X0_init : GoodIn wsX3_init wsX0_init := goodIn_r _ [35, 36, 2, 3, 37, 38, 64, 65] (by decide +kernel) (by decide +kernel)
set_option maxRecDepth 20000 in
theorem gX3_init_X0_init : GoodIn wsX3_init (wsX0_init) := ggX3_init_X0_init
set_option maxRecDepth 20000 in
theorem ggX3_init_X2_init : GoodIn wsX3_init wsX2_init := goodIn_r _ [41, 42, 2, 3, 43, 44, 45, 46, 47, 48, 11, 12, 49, 50, 37, 51, 52, 34, 35, 36, 38, 66, 67, 68, 69, 70, 71, 72, 64, 65] (by decide +kernel) (by decide +kernel)
set_option maxRecDepth 20000 in
theorem gX3_init_X2_init : GoodIn wsX3_init (wsX2_init) := ggX3_init_X2_init
theorem dX3_init_0 : decode cX3_init 0 = .ok (.aload_n 0, 1) := by decide +kernel
theorem dX3_init_1 : decode cX3_init 1 = .ok (.invokespecial 3, 3) := by decide +kernel
theorem dX3_init_4 : decode cX3_init 4 = .ok (.aload_n 0, 1) := by decide +kernel
theorem dX3_init_5 : decode cX3_init 5 = .ok (.new 9, 3) := by decide +kernel
theorem dX3_init_8 : decode cX3_init 8 = .ok (.dup, 1) := by decide +kernel
theorem dX3_init_9 : decode cX3_init 9 = .ok (.invokespecial 11, 3) := by decide +kernel
theorem dX3_init_12 : decode cX3_init 12 = .ok (.putfield 12, 3) := by decide +kernel
theorem dX3_init_15 : decode cX3_init 15 = .ok (.aload_n 0, 1) := by decide +kernel
theorem dX3_init_16 : decode cX3_init 16 = .ok (.new 9, 3) := by decide +kernel
theorem dX3_init_19 : decode cX3_init 19 = .ok (.dup, 1) := by decide +kernel
theorem dX3_init_20 : decode cX3_init 20 = .ok (.invokespecial 11, 3) := by decide +kernel
theorem dX3_init_23 : decode cX3_init 23 = .ok (.putfield 16, 3) := by decide +kernel
theorem dX3_init_26 : decode cX3_init 26 = .ok (.aload_n 0, 1) := by decide +kernel
theorem dX3_init_27 : decode cX3_init 27 = .ok (.iconst 5, 1) := by decide +kernel
theorem dX3_init_28 : decode cX3_init 28 = .ok (.anewarray 19, 3) := by decide +kernel
theorem dX3_init_31 : decode cX3_init 31 = .ok (.putfield 21, 3) := by decide +kernel
theorem dX3_init_34 : decode cX3_init 34 = .ok (.iconst 0, 1) := by decide +kernel
theorem dX3_init_35 : decode cX3_init 35 = .ok (.istore_n 1, 1) := by decide +kernel
theorem dX3_init_36 : decode cX3_init 36 = .ok (.iload_n 1, 1) := by decide +kernel
theorem dX3_init_37 : decode cX3_init 37 = .ok (.aload_n 0, 1) := by decide +kernel
theorem dX3_init_38 : decode cX3_init 38 = .ok (.getfield 21, 3) := by decide +kernel
theorem dX3_init_41 : decode cX3_init 41 = .ok (.arraylength, 1) := by decide +kernel
theorem dX3_init_42 : decode cX3_init 42 = .ok (.if_icmp .ge 22, 3) := by decide +kernel
theorem dX3_init_45 : decode cX3_init 45 = .ok (.aload_n 0, 1) := by decide +kernel
theorem dX3_init_46 : decode cX3_init 46 = .ok (.getfield 21, 3) := by decide +kernel
theorem dX3_init_49 : decode cX3_init 49 = .ok (.iload_n 1, 1) := by decide +kernel
theorem dX3_init_50 : decode cX3_init 50 = .ok (.new 19, 3) := by decide +kernel
theorem dX3_init_53 : decode cX3_init 53 = .ok (.dup, 1) := by decide +kernel
theorem dX3_init_54 : decode cX3_init 54 = .ok (.invokespecial 25, 3) := by decide +kernel
theorem dX3_init_57 : decode cX3_init 57 = .ok (.aastore, 1) := by decide +kernel
theorem dX3_init_58 : decode cX3_init 58 = .ok (.iinc 1 1, 3) := by decide +kernel
theorem dX3_init_61 : decode cX3_init 61 = .ok (.goto (-25), 3) := by decide +kernel
theorem dX3_init_64 : decode cX3_init 64 = .ok (.aload_n 0, 1) := by decide +kernel
theorem dX3_init_65 : decode cX3_init 65 = .ok (.new 26, 3) := by decide +kernel
theorem dX3_init_68 : decode cX3_init 68 = .ok (.dup, 1) := by decide +kernel
theorem dX3_init_69 : decode cX3_init 69 = .ok (.iconst 1, 1) := by decide +kernel
theorem dX3_init_70 : decode cX3_init 70 = .ok (.iconst 1, 1) := by decide +kernel
theorem dX3_init_71 : decode cX3_init 71 = .ok (.iconst 1, 1) := by decide +kernel
theorem dX3_init_72 : decode cX3_init 72 = .ok (.invokespecial 28, 3) := by decide +kernel
theorem dX3_init_75 : decode cX3_init 75 = .ok (.putfield 31, 3) := by decide +kernel
theorem dX3_init_78 : decode cX3_init 78 = .ok (.aload_n 0, 1) := by decide +kernel
theorem dX3_init_79 : decode cX3_init 79 = .ok (.bipush 10, 2) := by decide +kernel
theorem dX3_init_81 : decode cX3_init 81 = .ok (.putfield 35, 3) := by decide +kernel
theorem dX3_init_84 : decode cX3_init 84 = .ok (.return_, 1) := by decide +kernel
set_option maxRecDepth 20000 in
theorem ggX3_addSack_X3_needRange : GoodIn wsX3_addSack wsX3_needRange := goodIn_ca (goodIn_r _ [10, 11, 12] (by decide +kernel) (by decide +kernel)) (goodIn_sub (fun _ h => List.mem_cons_of_mem _ (List.mem_append_right _ h)) (by decide +kernel))
set_option maxRecDepth 20000 in
theorem gX3_addSack_X3_needRange : GoodIn wsX3_addSack (va_wsS RX3 39 yX3_needRange wsX3_needRange) := goodIn_app (goodIn_of _ (by decide +kernel)) ggX3_addSack_X3_needRange
set_option maxRecDepth 20000 in
theorem ggX3_addSack_Jx4a65c_size_8abf5 : GoodIn wsX3_addSack wsJx4a65c_size_8abf5 := goodIn_r _ [17, 18, 100, 101, 102] (by decide +kernel) (by decide +kernel)
set_option maxRecDepth 20000 in
theorem gX3_addSack_Jx4a65c_size_8abf5 : GoodIn wsX3_addSack (wsV RX3 42 RJx4a65c yJx4a65c_size_8abf5 wsJx4a65c_size_8abf5) := goodIn_app (goodIn_of _ (by decide +kernel)) ggX3_addSack_Jx4a65c_size_8abf5
set_option maxRecDepth 20000 in
theorem ggX3_addSack_X1_init : GoodIn wsX3_addSack wsX1_init := goodIn_r _ [21, 22, 23, 24, 25, 26, 27, 28, 29, 30, 31, 32, 33, 34, 35, 103, 104, 98, 99] (by decide +kernel) (by decide +kernel)
set_option maxRecDepth 20000 in
theorem gX3_addSack_X1_init : GoodIn wsX3_addSack (wsX1_init) := ggX3_addSack_X1_init
set_option maxRecDepth 20000 in
theorem ggX3_addSack_Jx4a65c_add_9ea2d : GoodIn wsX3_addSack wsJx4a65c_add_9ea2d := goodIn_r _ [39, 40, 41, 42, 18, 43, 44, 45, 16, 46, 47, 48, 49, 50, 51, 52, 53, 54, 55, 56, 57, 58, 59, 60, 61, 62, 63, 64, 65, 66, 67, 68, 69, 70, 71, 72, 73, 74, 75, 76, 77, 78, 79, 80, 81, 82, 83, 84, 85, 86, 87, 88, 89, 100, 101, 102] (by decide +kernel) (by decide +kernel)
set_option maxRecDepth 20000 in
theorem gX3_addSack_Jx4a65c_add_9ea2d : GoodIn wsX3_addSack (wsV RX3 58 RJx4a65c yJx4a65c_add_9ea2d wsJx4a65c_add_9ea2d) := goodIn_app (goodIn_of _ (by decide +kernel)) ggX3_addSack_Jx4a65c_add_9ea2d
theorem dX3_addSack_0 : decode cX3_addSack 0 = .ok (.iload_n 1, 1) := by decide +kernel
theorem dX3_addSack_1 : decode cX3_addSack 1 = .ok (.iconst 0, 1) := by decide +kernel
theorem dX3_addSack_2 : decode cX3_addSack 2 = .ok (.bipush 9, 2) := by decide +kernel
theorem dX3_addSack_4 : decode cX3_addSack 4 = .ok (.invokestatic 39, 3) := by decide +kernel
theorem dX3_addSack_7 : decode cX3_addSack 7 = .ok (.aload_n 0, 1) := by decide +kernel
theorem dX3_addSack_8 : decode cX3_addSack 8 = .ok (.getfield 12, 3) := by decide +kernel
theorem dX3_addSack_11 : decode cX3_addSack 11 = .ok (.invokevirtual 42, 3) := by decide +kernel
theorem dX3_addSack_14 : decode cX3_addSack 14 = .ok (.bipush 12, 2) := by decide +kernel
theorem dX3_addSack_16 : decode cX3_addSack 16 = .ok (.if_icmp .lt 13, 3) := by decide +kernel
theorem dX3_addSack_19 : decode cX3_addSack 19 = .ok (.new 46, 3) := by decide +kernel
theorem dX3_addSack_22 : decode cX3_addSack 22 = .ok (.dup, 1) := by decide +kernel
theorem dX3_addSack_23 : decode cX3_addSack 23 = .ok (.ldc 48, 2) := by decide +kernel
theorem dX3_addSack_25 : decode cX3_addSack 25 = .ok (.invokespecial 50, 3) := by decide +kernel
theorem dX3_addSack_28 : decode cX3_addSack 28 = .ok (.athrow, 1) := by decide +kernel
theorem dX3_addSack_29 : decode cX3_addSack 29 = .ok (.aload_n 0, 1) := by decide +kernel
theorem dX3_addSack_30 : decode cX3_addSack 30 = .ok (.getfield 12, 3) := by decide +kernel
theorem dX3_addSack_33 : decode cX3_addSack 33 = .ok (.new 53, 3) := by decide +kernel
theorem dX3_addSack_36 : decode cX3_addSack 36 = .ok (.dup, 1) := by decide +kernel
theorem dX3_addSack_37 : decode cX3_addSack 37 = .ok (.iload_n 1, 1) := by decide +kernel
theorem dX3_addSack_38 : decode cX3_addSack 38 = .ok (.invokespecial 55, 3) := by decide +kernel
theorem dX3_addSack_41 : decode cX3_addSack 41 = .ok (.invokevirtual 58, 3) := by decide +kernel
theorem dX3_addSack_44 : decode cX3_addSack 44 = .ok (.pop, 1) := by decide +kernel
theorem dX3_addSack_45 : decode cX3_addSack 45 = .ok (.aload_n 0, 1) := by decide +kernel
theorem dX3_addSack_46 : decode cX3_addSack 46 = .ok (.getfield 12, 3) := by decide +kernel
theorem dX3_addSack_49 : decode cX3_addSack 49 = .ok (.invokevirtual 42, 3) := by decide +kernel
theorem dX3_addSack_52 : decode cX3_addSack 52 = .ok (.iconst 1, 1) := by decide +kernel
theorem dX3_addSack_53 : decode cX3_addSack 53 = .ok (.isub, 1) := by decide +kernel
theorem dX3_addSack_54 : decode cX3_addSack 54 = .ok (.ireturn, 1) := by decide +kernel
set_option maxRecDepth 20000 in
theorem ggX3_put_X3_needSack : GoodIn wsX3_put wsX3_needSack := goodIn_ca (goodIn_r _ [7, 8, 9, 10, 11, 12, 13, 14, 15, 16, 17, 18, 19, 20, 21, 22, 23, 24, 25, 26, 27, 28, 29, 30, 31, 32, 33, 34, 56, 57, 58, 59, 60, 61, 62, 63, 64, 65, 66] (by decide +kernel) (by decide +kernel)) (goodIn_sub (fun _ h => List.mem_cons_of_mem _ (List.mem_append_left _ (List.mem_append_right _ h))) (by decide +kernel))
set_option maxRecDepth 20000 in
theorem gX3_put_X3_needSack : GoodIn wsX3_put (wsV RX3 62 RX3 yX3_needSack wsX3_needSack) := goodIn_app (goodIn_of _ (by decide +kernel)) ggX3_put_X3_needSack
set_option maxRecDepth 20000 in
theorem ggX3_put_X3_needIndex : GoodIn wsX3_put wsX3_needIndex := goodIn_ca (goodIn_r _ [37, 8, 9] (by decide +kernel) (by decide +kernel)) (goodIn_sub (fun _ h => List.mem_cons_of_mem _ (List.mem_append_left _ (List.mem_append_right _ h))) (by decide +kernel))
set_option maxRecDepth 20000 in
theorem gX3_put_X3_needIndex : GoodIn wsX3_put (va_wsS RX3 70 yX3_needIndex wsX3_needIndex) := goodIn_app (goodIn_of _ (by decide +kernel)) ggX3_put_X3_needIndex
set_option maxRecDepth 20000 in
theorem ggX3_put_X3_needRange : GoodIn wsX3_put wsX3_needRange := goodIn_ca (goodIn_r _ [40, 41, 42] (by decide +kernel) (by decide +kernel)) (goodIn_sub (fun _ h => List.mem_cons_of_mem _ (List.mem_append_right _ h)) (by decide +kernel))
set_option maxRecDepth 20000 in
theorem gX3_put_X3_needRange : GoodIn wsX3_put (va_wsS RX3 39 yX3_needRange wsX3_needRange) := goodIn_app (goodIn_of _ (by decide +kernel)) ggX3_put_X3_needRange
set_option maxRecDepth 20000 in
theorem ggX3_put_X0_of : GoodIn wsX3_put wsX0_of := goodIn_r _ [47, 48, 67, 68] (by decide +kernel) (by decide +kernel)
set_option maxRecDepth 20000 in
theorem gX3_put_X0_of : GoodIn wsX3_put (wsV RX3 74 RX0 yX0_of wsX0_of) := goodIn_app (goodIn_of _ (by decide +kernel)) ggX3_put_X0_of
set_option maxRecDepth 20000 in
theorem ggX3_put_X0_change : GoodIn wsX3_put wsX0_change := goodIn_r _ [52, 48, 53, 67, 68] (by decide +kernel) (by decide +kernel)
set_option maxRecDepth 20000 in
theorem gX3_put_X0_change : GoodIn wsX3_put (wsV RX3 80 RX0 yX0_change wsX0_change) := goodIn_app (goodIn_of _ (by decide +kernel)) ggX3_put_X0_change
theorem dX3_put_0 : decode cX3_put 0 = .ok (.aload_n 0, 1) := by decide +kernel
theorem dX3_put_1 : decode cX3_put 1 = .ok (.iload_n 1, 1) := by decide +kernel
theorem dX3_put_2 : decode cX3_put 2 = .ok (.invokevirtual 62, 3) := by decide +kernel
theorem dX3_put_5 : decode cX3_put 5 = .ok (.getfield 66, 3) := by decide +kernel
theorem dX3_put_8 : decode cX3_put 8 = .ok (.astore 4, 2) := by decide +kernel
theorem dX3_put_10 : decode cX3_put 10 = .ok (.iload_n 2, 1) := by decide +kernel
theorem dX3_put_11 : decode cX3_put 11 = .ok (.bipush 6, 2) := by decide +kernel
theorem dX3_put_13 : decode cX3_put 13 = .ok (.invokestatic 70, 3) := by decide +kernel
theorem dX3_put_16 : decode cX3_put 16 = .ok (.iload_n 3, 1) := by decide +kernel
theorem dX3_put_17 : decode cX3_put 17 = .ok (.iconst 1, 1) := by decide +kernel
theorem dX3_put_18 : decode cX3_put 18 = .ok (.sipush 500, 3) := by decide +kernel
theorem dX3_put_21 : decode cX3_put 21 = .ok (.invokestatic 39, 3) := by decide +kernel
theorem dX3_put_24 : decode cX3_put 24 = .ok (.aload 4, 2) := by decide +kernel
theorem dX3_put_26 : decode cX3_put 26 = .ok (.iload_n 2, 1) := by decide +kernel
theorem dX3_put_27 : decode cX3_put 27 = .ok (.invokevirtual 74, 3) := by decide +kernel
theorem dX3_put_30 : decode cX3_put 30 = .ok (.iload_n 3, 1) := by decide +kernel
theorem dX3_put_31 : decode cX3_put 31 = .ok (.iadd, 1) := by decide +kernel
theorem dX3_put_32 : decode cX3_put 32 = .ok (.sipush 500, 3) := by decide +kernel
theorem dX3_put_35 : decode cX3_put 35 = .ok (.if_icmp .le 13, 3) := by decide +kernel
theorem dX3_put_38 : decode cX3_put 38 = .ok (.new 46, 3) := by decide +kernel
theorem dX3_put_41 : decode cX3_put 41 = .ok (.dup, 1) := by decide +kernel
theorem dX3_put_42 : decode cX3_put 42 = .ok (.ldc 78, 2) := by decide +kernel
theorem dX3_put_44 : decode cX3_put 44 = .ok (.invokespecial 50, 3) := by decide +kernel
theorem dX3_put_47 : decode cX3_put 47 = .ok (.athrow, 1) := by decide +kernel
theorem dX3_put_48 : decode cX3_put 48 = .ok (.aload 4, 2) := by decide +kernel
theorem dX3_put_50 : decode cX3_put 50 = .ok (.iload_n 2, 1) := by decide +kernel
theorem dX3_put_51 : decode cX3_put 51 = .ok (.iload_n 3, 1) := by decide +kernel
theorem dX3_put_52 : decode cX3_put 52 = .ok (.invokevirtual 80, 3) := by decide +kernel
theorem dX3_put_55 : decode cX3_put 55 = .ok (.aload 4, 2) := by decide +kernel
theorem dX3_put_57 : decode cX3_put 57 = .ok (.iload_n 2, 1) := by decide +kernel
theorem dX3_put_58 : decode cX3_put 58 = .ok (.invokevirtual 74, 3) := by decide +kernel
theorem dX3_put_61 : decode cX3_put 61 = .ok (.ireturn, 1) := by decide +kernel
set_option maxRecDepth 20000 in
theorem ggX3_dry_X3_needSack : GoodIn wsX3_dry wsX3_needSack := goodIn_ca (goodIn_r _ [9, 10, 11, 12, 13, 14, 15, 16, 17, 18, 19, 20, 21, 22, 23, 24, 25, 26, 27, 28, 29, 30, 31, 32, 33, 34, 35, 36, 44, 45, 46, 47, 48, 49, 50, 51, 52, 53, 54] (by decide +kernel) (by decide +kernel)) (goodIn_sub (fun _ h => List.mem_cons_of_mem _ (List.mem_append_left _ (List.mem_append_right _ h))) (by decide +kernel))
set_option maxRecDepth 20000 in
theorem gX3_dry_X3_needSack : GoodIn wsX3_dry (wsV RX3 62 RX3 yX3_needSack wsX3_needSack) := goodIn_app (goodIn_of _ (by decide +kernel)) ggX3_dry_X3_needSack
set_option maxRecDepth 20000 in
theorem ggX3_dry_X3_needRange : GoodIn wsX3_dry wsX3_needRange := goodIn_ca (goodIn_r _ [39, 40, 41] (by decide +kernel) (by decide +kernel)) (goodIn_sub (fun _ h => List.mem_cons_of_mem _ (List.mem_append_right _ h)) (by decide +kernel))
set_option maxRecDepth 20000 in
theorem gX3_dry_X3_needRange : GoodIn wsX3_dry (va_wsS RX3 39 yX3_needRange wsX3_needRange) := goodIn_app (goodIn_of _ (by decide +kernel)) ggX3_dry_X3_needRange
theorem dX3_dry_0 : decode cX3_dry 0 = .ok (.aload_n 0, 1) := by decide +kernel
theorem dX3_dry_1 : decode cX3_dry 1 = .ok (.iload_n 1, 1) := by decide +kernel
theorem dX3_dry_2 : decode cX3_dry 2 = .ok (.invokevirtual 62, 3) := by decide +kernel
theorem dX3_dry_5 : decode cX3_dry 5 = .ok (.astore_n 3, 1) := by decide +kernel
theorem dX3_dry_6 : decode cX3_dry 6 = .ok (.iload_n 2, 1) := by decide +kernel
theorem dX3_dry_7 : decode cX3_dry 7 = .ok (.iconst 1, 1) := by decide +kernel
theorem dX3_dry_8 : decode cX3_dry 8 = .ok (.bipush 9, 2) := by decide +kernel
theorem dX3_dry_10 : decode cX3_dry 10 = .ok (.invokestatic 39, 3) := by decide +kernel
theorem dX3_dry_13 : decode cX3_dry 13 = .ok (.aload_n 3, 1) := by decide +kernel
theorem dX3_dry_14 : decode cX3_dry 14 = .ok (.iconst 0, 1) := by decide +kernel
theorem dX3_dry_15 : decode cX3_dry 15 = .ok (.aload_n 3, 1) := by decide +kernel
theorem dX3_dry_16 : decode cX3_dry 16 = .ok (.getfield 83, 3) := by decide +kernel
theorem dX3_dry_19 : decode cX3_dry 19 = .ok (.iload_n 2, 1) := by decide +kernel
theorem dX3_dry_20 : decode cX3_dry 20 = .ok (.isub, 1) := by decide +kernel
theorem dX3_dry_21 : decode cX3_dry 21 = .ok (.invokestatic 86, 3) := by decide +kernel
theorem dX3_dry_24 : decode cX3_dry 24 = .ok (.putfield 83, 3) := by decide +kernel
theorem dX3_dry_27 : decode cX3_dry 27 = .ok (.aload_n 3, 1) := by decide +kernel
theorem dX3_dry_28 : decode cX3_dry 28 = .ok (.getfield 83, 3) := by decide +kernel
theorem dX3_dry_31 : decode cX3_dry 31 = .ok (.ireturn, 1) := by decide +kernel
set_option maxRecDepth 20000 in
theorem ggX3_sack_X3_needSack : GoodIn wsX3_sack wsX3_needSack := goodIn_ca (goodIn_r _ [5, 6, 7, 8, 9, 10, 11, 12, 13, 14, 15, 16, 17, 18, 19, 20, 21, 22, 23, 24, 25, 26, 27, 28, 29, 30, 31, 32, 49, 50, 51, 52, 53, 54, 55, 56, 57, 58, 59] (by decide +kernel) (by decide +kernel)) (goodIn_sub (fun _ h => List.mem_cons_of_mem _ (List.mem_append_right _ h)) (by decide +kernel))
set_option maxRecDepth 20000 in
theorem gX3_sack_X3_needSack : GoodIn wsX3_sack (wsV RX3 62 RX3 yX3_needSack wsX3_needSack) := goodIn_app (goodIn_of _ (by decide +kernel)) ggX3_sack_X3_needSack
set_option maxRecDepth 20000 in
theorem ggX3_sack_X3_needIndex : GoodIn wsX3_sack wsX3_needIndex := goodIn_ca (goodIn_r _ [35, 6, 7] (by decide +kernel) (by decide +kernel)) (goodIn_sub (fun _ h => List.mem_cons_of_mem _ (List.mem_append_right _ h)) (by decide +kernel))
set_option maxRecDepth 20000 in
theorem gX3_sack_X3_needIndex : GoodIn wsX3_sack (va_wsS RX3 70 yX3_needIndex wsX3_needIndex) := goodIn_app (goodIn_of _ (by decide +kernel)) ggX3_sack_X3_needIndex
set_option maxRecDepth 20000 in
theorem ggX3_sack_X1_tells : GoodIn wsX3_sack wsX1_tells := goodIn_r _ [40, 41, 42, 43, 44, 45, 46, 47, 48, 60, 61, 62, 63] (by decide +kernel) (by decide +kernel)
set_option maxRecDepth 20000 in
theorem gX3_sack_X1_tells : GoodIn wsX3_sack (wsV RX3 92 RX1 yX1_tells wsX1_tells) := goodIn_app (goodIn_of _ (by decide +kernel)) ggX3_sack_X1_tells
theorem dX3_sack_0 : decode cX3_sack 0 = .ok (.aload_n 0, 1) := by decide +kernel
theorem dX3_sack_1 : decode cX3_sack 1 = .ok (.iload_n 1, 1) := by decide +kernel
theorem dX3_sack_2 : decode cX3_sack 2 = .ok (.invokevirtual 62, 3) := by decide +kernel
theorem dX3_sack_5 : decode cX3_sack 5 = .ok (.astore_n 3, 1) := by decide +kernel
theorem dX3_sack_6 : decode cX3_sack 6 = .ok (.iload_n 2, 1) := by decide +kernel
theorem dX3_sack_7 : decode cX3_sack 7 = .ok (.bipush 8, 2) := by decide +kernel
theorem dX3_sack_9 : decode cX3_sack 9 = .ok (.invokestatic 70, 3) := by decide +kernel
theorem dX3_sack_12 : decode cX3_sack 12 = .ok (.aload_n 3, 1) := by decide +kernel
theorem dX3_sack_13 : decode cX3_sack 13 = .ok (.iload_n 2, 1) := by decide +kernel
theorem dX3_sack_14 : decode cX3_sack 14 = .ok (.invokevirtual 92, 3) := by decide +kernel
theorem dX3_sack_17 : decode cX3_sack 17 = .ok (.ireturn, 1) := by decide +kernel
set_option maxRecDepth 20000 in
theorem ggX3_setWind_X3_needRange : GoodIn wsX3_setWind wsX3_needRange := goodIn_ca (goodIn_r _ [5, 6, 7] (by decide +kernel) (by decide +kernel)) (goodIn_sub (fun _ h => List.mem_cons_of_mem _ (List.mem_append_right _ h)) (by decide +kernel))
set_option maxRecDepth 20000 in
theorem gX3_setWind_X3_needRange : GoodIn wsX3_setWind (va_wsS RX3 39 yX3_needRange wsX3_needRange) := goodIn_app (goodIn_of _ (by decide +kernel)) ggX3_setWind_X3_needRange
theorem dX3_setWind_0 : decode cX3_setWind 0 = .ok (.iload_n 1, 1) := by decide +kernel
theorem dX3_setWind_1 : decode cX3_setWind 1 = .ok (.iconst 1, 1) := by decide +kernel
theorem dX3_setWind_2 : decode cX3_setWind 2 = .ok (.bipush 20, 2) := by decide +kernel
theorem dX3_setWind_4 : decode cX3_setWind 4 = .ok (.invokestatic 39, 3) := by decide +kernel
theorem dX3_setWind_7 : decode cX3_setWind 7 = .ok (.aload_n 0, 1) := by decide +kernel
theorem dX3_setWind_8 : decode cX3_setWind 8 = .ok (.getfield 35, 3) := by decide +kernel
theorem dX3_setWind_11 : decode cX3_setWind 11 = .ok (.istore_n 2, 1) := by decide +kernel
theorem dX3_setWind_12 : decode cX3_setWind 12 = .ok (.aload_n 0, 1) := by decide +kernel
theorem dX3_setWind_13 : decode cX3_setWind 13 = .ok (.iload_n 1, 1) := by decide +kernel
theorem dX3_setWind_14 : decode cX3_setWind 14 = .ok (.putfield 35, 3) := by decide +kernel
theorem dX3_setWind_17 : decode cX3_setWind 17 = .ok (.iload_n 2, 1) := by decide +kernel
theorem dX3_setWind_18 : decode cX3_setWind 18 = .ok (.ireturn, 1) := by decide +kernel
set_option maxRecDepth 20000 in
theorem ggX3_blow_X3_needSack : GoodIn wsX3_blow wsX3_needSack := goodIn_ca (goodIn_r _ [8, 9, 10, 11, 12, 13, 14, 15, 16, 17, 18, 19, 20, 21, 22, 23, 24, 25, 26, 27, 28, 29, 30, 31, 32, 33, 34, 35, 63, 64, 65, 66, 67, 68, 69, 70, 73, 74, 75] (by decide +kernel) (by decide +kernel)) (goodIn_sub (fun _ h => List.mem_cons_of_mem _ (List.mem_append_right _ h)) (by decide +kernel))
set_option maxRecDepth 20000 in
theorem gX3_blow_X3_needSack : GoodIn wsX3_blow (wsV RX3 62 RX3 yX3_needSack wsX3_needSack) := goodIn_app (goodIn_of _ (by decide +kernel)) ggX3_blow_X3_needSack
set_option maxRecDepth 20000 in
theorem ggX3_blow_X1_brings : GoodIn wsX3_blow wsX1_brings := goodIn_r _ [40, 41, 42, 43, 44, 45, 46, 47, 48, 49, 50, 39, 51, 52, 53, 54, 55, 56, 71, 72, 76, 77] (by decide +kernel) (by decide +kernel)
set_option maxRecDepth 20000 in
theorem gX3_blow_X1_brings : GoodIn wsX3_blow (wsV RX3 95 RX1 yX1_brings wsX1_brings) := goodIn_app (goodIn_of _ (by decide +kernel)) ggX3_blow_X1_brings
set_option maxRecDepth 20000 in
theorem ggX3_blow_X0_change : GoodIn wsX3_blow wsX0_change := goodIn_r _ [60, 47, 61, 76, 77] (by decide +kernel) (by decide +kernel)
set_option maxRecDepth 20000 in
theorem gX3_blow_X0_change : GoodIn wsX3_blow (wsV RX3 80 RX0 yX0_change wsX0_change) := goodIn_app (goodIn_of _ (by decide +kernel)) ggX3_blow_X0_change
set_option maxRecDepth 20000 in
theorem ggX3_blow_X0_of : GoodIn wsX3_blow wsX0_of := goodIn_r _ [46, 47, 76, 77] (by decide +kernel) (by decide +kernel)
set_option maxRecDepth 20000 in
theorem gX3_blow_X0_of : GoodIn wsX3_blow (wsV RX3 74 RX0 yX0_of wsX0_of) := goodIn_app (goodIn_of _ (by decide +kernel)) ggX3_blow_X0_of
theorem dX3_blow_0 : decode cX3_blow 0 = .ok (.aload_n 0, 1) := by decide +kernel
theorem dX3_blow_1 : decode cX3_blow 1 = .ok (.iload_n 1, 1) := by decide +kernel
theorem dX3_blow_2 : decode cX3_blow 2 = .ok (.invokevirtual 62, 3) := by decide +kernel
theorem dX3_blow_5 : decode cX3_blow 5 = .ok (.astore_n 2, 1) := by decide +kernel
theorem dX3_blow_6 : decode cX3_blow 6 = .ok (.iconst 0, 1) := by decide +kernel
theorem dX3_blow_7 : decode cX3_blow 7 = .ok (.istore_n 3, 1) := by decide +kernel
theorem dX3_blow_8 : decode cX3_blow 8 = .ok (.iconst 0, 1) := by decide +kernel
theorem dX3_blow_9 : decode cX3_blow 9 = .ok (.istore 4, 2) := by decide +kernel
theorem dX3_blow_11 : decode cX3_blow 11 = .ok (.iload 4, 2) := by decide +kernel
theorem dX3_blow_13 : decode cX3_blow 13 = .ok (.bipush 6, 2) := by decide +kernel
theorem dX3_blow_15 : decode cX3_blow 15 = .ok (.if_icmp .ge 115, 3) := by decide +kernel
theorem dX3_blow_18 : decode cX3_blow 18 = .ok (.iconst 0, 1) := by decide +kernel
theorem dX3_blow_19 : decode cX3_blow 19 = .ok (.istore 5, 2) := by decide +kernel
theorem dX3_blow_21 : decode cX3_blow 21 = .ok (.iload 5, 2) := by decide +kernel
theorem dX3_blow_23 : decode cX3_blow 23 = .ok (.aload_n 0, 1) := by decide +kernel
theorem dX3_blow_24 : decode cX3_blow 24 = .ok (.getfield 21, 3) := by decide +kernel
theorem dX3_blow_27 : decode cX3_blow 27 = .ok (.arraylength, 1) := by decide +kernel
theorem dX3_blow_28 : decode cX3_blow 28 = .ok (.if_icmp .ge 42, 3) := by decide +kernel
theorem dX3_blow_31 : decode cX3_blow 31 = .ok (.aload_n 2, 1) := by decide +kernel
theorem dX3_blow_32 : decode cX3_blow 32 = .ok (.iload 4, 2) := by decide +kernel
theorem dX3_blow_34 : decode cX3_blow 34 = .ok (.aload_n 0, 1) := by decide +kernel
theorem dX3_blow_35 : decode cX3_blow 35 = .ok (.getfield 35, 3) := by decide +kernel
theorem dX3_blow_38 : decode cX3_blow 38 = .ok (.iload 5, 2) := by decide +kernel
theorem dX3_blow_40 : decode cX3_blow 40 = .ok (.invokevirtual 95, 3) := by decide +kernel
theorem dX3_blow_43 : decode cX3_blow 43 = .ok (.istore 6, 2) := by decide +kernel
theorem dX3_blow_45 : decode cX3_blow 45 = .ok (.aload_n 0, 1) := by decide +kernel
theorem dX3_blow_46 : decode cX3_blow 46 = .ok (.getfield 21, 3) := by decide +kernel
theorem dX3_blow_49 : decode cX3_blow 49 = .ok (.iload 5, 2) := by decide +kernel
theorem dX3_blow_51 : decode cX3_blow 51 = .ok (.aaload, 1) := by decide +kernel
theorem dX3_blow_52 : decode cX3_blow 52 = .ok (.iload 4, 2) := by decide +kernel
theorem dX3_blow_54 : decode cX3_blow 54 = .ok (.iload 6, 2) := by decide +kernel
theorem dX3_blow_56 : decode cX3_blow 56 = .ok (.invokevirtual 80, 3) := by decide +kernel
theorem dX3_blow_59 : decode cX3_blow 59 = .ok (.iload_n 3, 1) := by decide +kernel
theorem dX3_blow_60 : decode cX3_blow 60 = .ok (.iload 6, 2) := by decide +kernel
theorem dX3_blow_62 : decode cX3_blow 62 = .ok (.iadd, 1) := by decide +kernel
theorem dX3_blow_63 : decode cX3_blow 63 = .ok (.istore_n 3, 1) := by decide +kernel
theorem dX3_blow_64 : decode cX3_blow 64 = .ok (.iinc 5 1, 3) := by decide +kernel
theorem dX3_blow_67 : decode cX3_blow 67 = .ok (.goto (-46), 3) := by decide +kernel
theorem dX3_blow_70 : decode cX3_blow 70 = .ok (.aload_n 0, 1) := by decide +kernel
theorem dX3_blow_71 : decode cX3_blow 71 = .ok (.dup, 1) := by decide +kernel
theorem dX3_blow_72 : decode cX3_blow 72 = .ok (.getfield 99, 3) := by decide +kernel
theorem dX3_blow_75 : decode cX3_blow 75 = .ok (.aload_n 2, 1) := by decide +kernel
theorem dX3_blow_76 : decode cX3_blow 76 = .ok (.iload 4, 2) := by decide +kernel
theorem dX3_blow_78 : decode cX3_blow 78 = .ok (.aload_n 0, 1) := by decide +kernel
theorem dX3_blow_79 : decode cX3_blow 79 = .ok (.getfield 35, 3) := by decide +kernel
theorem dX3_blow_82 : decode cX3_blow 82 = .ok (.iconst 5, 1) := by decide +kernel
theorem dX3_blow_83 : decode cX3_blow 83 = .ok (.invokevirtual 95, 3) := by decide +kernel
theorem dX3_blow_86 : decode cX3_blow 86 = .ok (.iadd, 1) := by decide +kernel
theorem dX3_blow_87 : decode cX3_blow 87 = .ok (.putfield 99, 3) := by decide +kernel
theorem dX3_blow_90 : decode cX3_blow 90 = .ok (.aload_n 2, 1) := by decide +kernel
theorem dX3_blow_91 : decode cX3_blow 91 = .ok (.iload 4, 2) := by decide +kernel
theorem dX3_blow_93 : decode cX3_blow 93 = .ok (.aload_n 0, 1) := by decide +kernel
theorem dX3_blow_94 : decode cX3_blow 94 = .ok (.getfield 35, 3) := by decide +kernel
theorem dX3_blow_97 : decode cX3_blow 97 = .ok (.iconst (-1), 1) := by decide +kernel
theorem dX3_blow_98 : decode cX3_blow 98 = .ok (.invokevirtual 95, 3) := by decide +kernel
theorem dX3_blow_101 : decode cX3_blow 101 = .ok (.istore 5, 2) := by decide +kernel
theorem dX3_blow_103 : decode cX3_blow 103 = .ok (.aload_n 2, 1) := by decide +kernel
theorem dX3_blow_104 : decode cX3_blow 104 = .ok (.getfield 66, 3) := by decide +kernel
theorem dX3_blow_107 : decode cX3_blow 107 = .ok (.iload 4, 2) := by decide +kernel
theorem dX3_blow_109 : decode cX3_blow 109 = .ok (.iload 5, 2) := by decide +kernel
theorem dX3_blow_111 : decode cX3_blow 111 = .ok (.aload_n 2, 1) := by decide +kernel
theorem dX3_blow_112 : decode cX3_blow 112 = .ok (.getfield 66, 3) := by decide +kernel
theorem dX3_blow_115 : decode cX3_blow 115 = .ok (.iload 4, 2) := by decide +kernel
theorem dX3_blow_117 : decode cX3_blow 117 = .ok (.invokevirtual 74, 3) := by decide +kernel
theorem dX3_blow_120 : decode cX3_blow 120 = .ok (.isub, 1) := by decide +kernel
theorem dX3_blow_121 : decode cX3_blow 121 = .ok (.invokevirtual 80, 3) := by decide +kernel
theorem dX3_blow_124 : decode cX3_blow 124 = .ok (.iinc 4 1, 3) := by decide +kernel
theorem dX3_blow_127 : decode cX3_blow 127 = .ok (.goto (-116), 3) := by decide +kernel
theorem dX3_blow_130 : decode cX3_blow 130 = .ok (.iload_n 3, 1) := by decide +kernel
theorem dX3_blow_131 : decode cX3_blow 131 = .ok (.ireturn, 1) := by decide +kernel
set_option maxRecDepth 20000 in
theorem ggX3_sweep_X3_needChamber : GoodIn wsX3_sweep wsX3_needChamber := goodIn_ca (goodIn_r _ [9, 10, 11, 12, 55, 56, 57, 58, 59, 60, 61, 62] (by decide +kernel) (by decide +kernel)) (goodIn_sub (fun _ h => List.mem_cons_of_mem _ (List.mem_append_right _ h)) (by decide +kernel))
set_option maxRecDepth 20000 in
theorem gX3_sweep_X3_needChamber : GoodIn wsX3_sweep (wsV RX3 102 RX3 yX3_needChamber wsX3_needChamber) := goodIn_app (goodIn_of _ (by decide +kernel)) ggX3_sweep_X3_needChamber
set_option maxRecDepth 20000 in
theorem ggX3_sweep_X3_needSack : GoodIn wsX3_sweep wsX3_needSack := goodIn_ca (goodIn_r _ [16, 10, 11, 17, 18, 19, 20, 21, 22, 23, 24, 25, 26, 27, 28, 29, 30, 31, 32, 33, 34, 35, 36, 37, 38, 39, 40, 41, 55, 56, 57, 58, 59, 60, 61, 62, 63, 64, 65] (by decide +kernel) (by decide +kernel)) (goodIn_sub (fun _ h => List.mem_cons_of_mem _ (List.mem_append_right _ h)) (by decide +kernel))
set_option maxRecDepth 20000 in
theorem gX3_sweep_X3_needSack : GoodIn wsX3_sweep (wsV RX3 62 RX3 yX3_needSack wsX3_needSack) := goodIn_app (goodIn_of _ (by decide +kernel)) ggX3_sweep_X3_needSack
set_option maxRecDepth 20000 in
theorem ggX3_sweep_X0_of : GoodIn wsX3_sweep wsX0_of := goodIn_r _ [46, 47, 66, 67] (by decide +kernel) (by decide +kernel)
set_option maxRecDepth 20000 in
theorem gX3_sweep_X0_of : GoodIn wsX3_sweep (wsV RX3 74 RX0 yX0_of wsX0_of) := goodIn_app (goodIn_of _ (by decide +kernel)) ggX3_sweep_X0_of
set_option maxRecDepth 20000 in
theorem ggX3_sweep_X0_change : GoodIn wsX3_sweep wsX0_change := goodIn_r _ [51, 47, 52, 66, 67] (by decide +kernel) (by decide +kernel)
set_option maxRecDepth 20000 in
theorem gX3_sweep_X0_change : GoodIn wsX3_sweep (wsV RX3 80 RX0 yX0_change wsX0_change) := goodIn_app (goodIn_of _ (by decide +kernel)) ggX3_sweep_X0_change
theorem dX3_sweep_0 : decode cX3_sweep 0 = .ok (.aload_n 0, 1) := by decide +kernel
theorem dX3_sweep_1 : decode cX3_sweep 1 = .ok (.iload_n 1, 1) := by decide +kernel
theorem dX3_sweep_2 : decode cX3_sweep 2 = .ok (.invokevirtual 102, 3) := by decide +kernel
theorem dX3_sweep_5 : decode cX3_sweep 5 = .ok (.astore_n 3, 1) := by decide +kernel
theorem dX3_sweep_6 : decode cX3_sweep 6 = .ok (.aload_n 0, 1) := by decide +kernel
theorem dX3_sweep_7 : decode cX3_sweep 7 = .ok (.iload_n 2, 1) := by decide +kernel
theorem dX3_sweep_8 : decode cX3_sweep 8 = .ok (.invokevirtual 62, 3) := by decide +kernel
theorem dX3_sweep_11 : decode cX3_sweep 11 = .ok (.getfield 66, 3) := by decide +kernel
theorem dX3_sweep_14 : decode cX3_sweep 14 = .ok (.astore 4, 2) := by decide +kernel
theorem dX3_sweep_16 : decode cX3_sweep 16 = .ok (.iconst 0, 1) := by decide +kernel
theorem dX3_sweep_17 : decode cX3_sweep 17 = .ok (.istore 5, 2) := by decide +kernel
theorem dX3_sweep_19 : decode cX3_sweep 19 = .ok (.iconst 0, 1) := by decide +kernel
theorem dX3_sweep_20 : decode cX3_sweep 20 = .ok (.istore 6, 2) := by decide +kernel
theorem dX3_sweep_22 : decode cX3_sweep 22 = .ok (.iload 6, 2) := by decide +kernel
theorem dX3_sweep_24 : decode cX3_sweep 24 = .ok (.bipush 6, 2) := by decide +kernel
theorem dX3_sweep_26 : decode cX3_sweep 26 = .ok (.if_icmp .ge 56, 3) := by decide +kernel
theorem dX3_sweep_29 : decode cX3_sweep 29 = .ok (.aload_n 3, 1) := by decide +kernel
theorem dX3_sweep_30 : decode cX3_sweep 30 = .ok (.iload 6, 2) := by decide +kernel
theorem dX3_sweep_32 : decode cX3_sweep 32 = .ok (.invokevirtual 74, 3) := by decide +kernel
theorem dX3_sweep_35 : decode cX3_sweep 35 = .ok (.sipush 500, 3) := by decide +kernel
theorem dX3_sweep_38 : decode cX3_sweep 38 = .ok (.aload 4, 2) := by decide +kernel
theorem dX3_sweep_40 : decode cX3_sweep 40 = .ok (.iload 6, 2) := by decide +kernel
theorem dX3_sweep_42 : decode cX3_sweep 42 = .ok (.invokevirtual 74, 3) := by decide +kernel
theorem dX3_sweep_45 : decode cX3_sweep 45 = .ok (.isub, 1) := by decide +kernel
theorem dX3_sweep_46 : decode cX3_sweep 46 = .ok (.invokestatic 106, 3) := by decide +kernel
theorem dX3_sweep_49 : decode cX3_sweep 49 = .ok (.istore 7, 2) := by decide +kernel
theorem dX3_sweep_51 : decode cX3_sweep 51 = .ok (.aload_n 3, 1) := by decide +kernel
theorem dX3_sweep_52 : decode cX3_sweep 52 = .ok (.iload 6, 2) := by decide +kernel
theorem dX3_sweep_54 : decode cX3_sweep 54 = .ok (.iload 7, 2) := by decide +kernel
theorem dX3_sweep_56 : decode cX3_sweep 56 = .ok (.ineg, 1) := by decide +kernel
theorem dX3_sweep_57 : decode cX3_sweep 57 = .ok (.invokevirtual 80, 3) := by decide +kernel
theorem dX3_sweep_60 : decode cX3_sweep 60 = .ok (.aload 4, 2) := by decide +kernel
theorem dX3_sweep_62 : decode cX3_sweep 62 = .ok (.iload 6, 2) := by decide +kernel
theorem dX3_sweep_64 : decode cX3_sweep 64 = .ok (.iload 7, 2) := by decide +kernel
theorem dX3_sweep_66 : decode cX3_sweep 66 = .ok (.invokevirtual 80, 3) := by decide +kernel
theorem dX3_sweep_69 : decode cX3_sweep 69 = .ok (.iload 5, 2) := by decide +kernel
theorem dX3_sweep_71 : decode cX3_sweep 71 = .ok (.iload 7, 2) := by decide +kernel
theorem dX3_sweep_73 : decode cX3_sweep 73 = .ok (.iadd, 1) := by decide +kernel
theorem dX3_sweep_74 : decode cX3_sweep 74 = .ok (.istore 5, 2) := by decide +kernel
theorem dX3_sweep_76 : decode cX3_sweep 76 = .ok (.iinc 6 1, 3) := by decide +kernel
theorem dX3_sweep_79 : decode cX3_sweep 79 = .ok (.goto (-57), 3) := by decide +kernel
theorem dX3_sweep_82 : decode cX3_sweep 82 = .ok (.iload 5, 2) := by decide +kernel
theorem dX3_sweep_84 : decode cX3_sweep 84 = .ok (.ireturn, 1) := by decide +kernel
set_option maxRecDepth 20000 in
theorem ggX3_addTick_X3_needRange : GoodIn wsX3_addTick wsX3_needRange := goodIn_ca (goodIn_r _ [10, 11, 12] (by decide +kernel) (by decide +kernel)) (goodIn_sub (fun _ h => List.mem_cons_of_mem _ (List.mem_append_right _ h)) (by decide +kernel))
set_option maxRecDepth 20000 in
theorem gX3_addTick_X3_needRange : GoodIn wsX3_addTick (va_wsS RX3 39 yX3_needRange wsX3_needRange) := goodIn_app (goodIn_of _ (by decide +kernel)) ggX3_addTick_X3_needRange
set_option maxRecDepth 20000 in
theorem ggX3_addTick_Jx4a65c_size_8abf5 : GoodIn wsX3_addTick wsJx4a65c_size_8abf5 := goodIn_r _ [17, 18, 111, 112, 113] (by decide +kernel) (by decide +kernel)
set_option maxRecDepth 20000 in
theorem gX3_addTick_Jx4a65c_size_8abf5 : GoodIn wsX3_addTick (wsV RX3 42 RJx4a65c yJx4a65c_size_8abf5 wsJx4a65c_size_8abf5) := goodIn_app (goodIn_of _ (by decide +kernel)) ggX3_addTick_Jx4a65c_size_8abf5
set_option maxRecDepth 20000 in
theorem ggX3_addTick_X2_init : GoodIn wsX3_addTick wsX2_init := goodIn_r _ [21, 22, 23, 24, 25, 26, 27, 28, 29, 30, 31, 32, 33, 34, 35, 36, 37, 38, 39, 40, 41, 104, 105, 106, 107, 108, 109, 110, 114, 115] (by decide +kernel) (by decide +kernel)
set_option maxRecDepth 20000 in
theorem gX3_addTick_X2_init : GoodIn wsX3_addTick (wsX2_init) := ggX3_addTick_X2_init
set_option maxRecDepth 20000 in
theorem ggX3_addTick_Jx4a65c_add_9ea2d : GoodIn wsX3_addTick wsJx4a65c_add_9ea2d := goodIn_r _ [45, 46, 47, 48, 18, 49, 50, 51, 16, 52, 53, 54, 55, 56, 57, 58, 59, 60, 61, 62, 63, 64, 65, 66, 67, 68, 69, 70, 71, 72, 73, 74, 75, 76, 77, 78, 79, 80, 81, 82, 83, 84, 85, 86, 87, 88, 89, 90, 91, 92, 93, 94, 95, 111, 112, 113] (by decide +kernel) (by decide +kernel)
set_option maxRecDepth 20000 in
theorem gX3_addTick_Jx4a65c_add_9ea2d : GoodIn wsX3_addTick (wsV RX3 58 RJx4a65c yJx4a65c_add_9ea2d wsJx4a65c_add_9ea2d) := goodIn_app (goodIn_of _ (by decide +kernel)) ggX3_addTick_Jx4a65c_add_9ea2d
theorem dX3_addTick_0 : decode cX3_addTick 0 = .ok (.iload_n 1, 1) := by decide +kernel
theorem dX3_addTick_1 : decode cX3_addTick 1 = .ok (.iconst 1, 1) := by decide +kernel
theorem dX3_addTick_2 : decode cX3_addTick 2 = .ok (.bipush 6, 2) := by decide +kernel
theorem dX3_addTick_4 : decode cX3_addTick 4 = .ok (.invokestatic 39, 3) := by decide +kernel
theorem dX3_addTick_7 : decode cX3_addTick 7 = .ok (.iload_n 2, 1) := by decide +kernel
theorem dX3_addTick_8 : decode cX3_addTick 8 = .ok (.iconst 1, 1) := by decide +kernel
theorem dX3_addTick_9 : decode cX3_addTick 9 = .ok (.bipush 6, 2) := by decide +kernel
theorem dX3_addTick_11 : decode cX3_addTick 11 = .ok (.invokestatic 39, 3) := by decide +kernel
theorem dX3_addTick_14 : decode cX3_addTick 14 = .ok (.iload_n 3, 1) := by decide +kernel
theorem dX3_addTick_15 : decode cX3_addTick 15 = .ok (.iconst 1, 1) := by decide +kernel
theorem dX3_addTick_16 : decode cX3_addTick 16 = .ok (.bipush 9, 2) := by decide +kernel
theorem dX3_addTick_18 : decode cX3_addTick 18 = .ok (.invokestatic 39, 3) := by decide +kernel
theorem dX3_addTick_21 : decode cX3_addTick 21 = .ok (.aload_n 0, 1) := by decide +kernel
theorem dX3_addTick_22 : decode cX3_addTick 22 = .ok (.getfield 16, 3) := by decide +kernel
theorem dX3_addTick_25 : decode cX3_addTick 25 = .ok (.invokevirtual 42, 3) := by decide +kernel
theorem dX3_addTick_28 : decode cX3_addTick 28 = .ok (.bipush 6, 2) := by decide +kernel
theorem dX3_addTick_30 : decode cX3_addTick 30 = .ok (.if_icmp .lt 13, 3) := by decide +kernel
theorem dX3_addTick_33 : decode cX3_addTick 33 = .ok (.new 46, 3) := by decide +kernel
theorem dX3_addTick_36 : decode cX3_addTick 36 = .ok (.dup, 1) := by decide +kernel
theorem dX3_addTick_37 : decode cX3_addTick 37 = .ok (.ldc 116, 2) := by decide +kernel
theorem dX3_addTick_39 : decode cX3_addTick 39 = .ok (.invokespecial 50, 3) := by decide +kernel
theorem dX3_addTick_42 : decode cX3_addTick 42 = .ok (.athrow, 1) := by decide +kernel
theorem dX3_addTick_43 : decode cX3_addTick 43 = .ok (.aload_n 0, 1) := by decide +kernel
theorem dX3_addTick_44 : decode cX3_addTick 44 = .ok (.getfield 16, 3) := by decide +kernel
theorem dX3_addTick_47 : decode cX3_addTick 47 = .ok (.new 26, 3) := by decide +kernel
theorem dX3_addTick_50 : decode cX3_addTick 50 = .ok (.dup, 1) := by decide +kernel
theorem dX3_addTick_51 : decode cX3_addTick 51 = .ok (.iload_n 1, 1) := by decide +kernel
theorem dX3_addTick_52 : decode cX3_addTick 52 = .ok (.iload_n 2, 1) := by decide +kernel
theorem dX3_addTick_53 : decode cX3_addTick 53 = .ok (.iload_n 3, 1) := by decide +kernel
theorem dX3_addTick_54 : decode cX3_addTick 54 = .ok (.invokespecial 28, 3) := by decide +kernel
theorem dX3_addTick_57 : decode cX3_addTick 57 = .ok (.invokevirtual 58, 3) := by decide +kernel
theorem dX3_addTick_60 : decode cX3_addTick 60 = .ok (.pop, 1) := by decide +kernel
theorem dX3_addTick_61 : decode cX3_addTick 61 = .ok (.aload_n 0, 1) := by decide +kernel
theorem dX3_addTick_62 : decode cX3_addTick 62 = .ok (.getfield 16, 3) := by decide +kernel
theorem dX3_addTick_65 : decode cX3_addTick 65 = .ok (.invokevirtual 42, 3) := by decide +kernel
theorem dX3_addTick_68 : decode cX3_addTick 68 = .ok (.iconst 1, 1) := by decide +kernel
theorem dX3_addTick_69 : decode cX3_addTick 69 = .ok (.isub, 1) := by decide +kernel
theorem dX3_addTick_70 : decode cX3_addTick 70 = .ok (.ireturn, 1) := by decide +kernel
set_option maxRecDepth 20000 in
theorem ggX3_sew_X3_needTick : GoodIn wsX3_sew wsX3_needTick := goodIn_ca (goodIn_r _ [7, 8, 9, 10, 11, 12, 13, 14, 15, 16, 17, 18, 19, 20, 21, 22, 23, 24, 25, 26, 27, 28, 29, 30, 31, 32, 33, 34, 66, 67, 68, 69, 70, 71, 72, 73, 74, 75, 76] (by decide +kernel) (by decide +kernel)) (goodIn_sub (fun _ h => List.mem_cons_of_mem _ (List.mem_append_right _ h)) (by decide +kernel))
set_option maxRecDepth 20000 in
theorem gX3_sew_X3_needTick : GoodIn wsX3_sew (wsV RX3 118 RX3 yX3_needTick wsX3_needTick) := goodIn_app (goodIn_of _ (by decide +kernel)) ggX3_sew_X3_needTick
set_option maxRecDepth 20000 in
theorem ggX3_sew_X3_needIndex : GoodIn wsX3_sew wsX3_needIndex := goodIn_ca (goodIn_r _ [37, 8, 9] (by decide +kernel) (by decide +kernel)) (goodIn_sub (fun _ h => List.mem_cons_of_mem _ (List.mem_append_right _ h)) (by decide +kernel))
set_option maxRecDepth 20000 in
theorem gX3_sew_X3_needIndex : GoodIn wsX3_sew (va_wsS RX3 70 yX3_needIndex wsX3_needIndex) := goodIn_app (goodIn_of _ (by decide +kernel)) ggX3_sew_X3_needIndex
set_option maxRecDepth 20000 in
theorem ggX3_sew_X2_otherOfPair : GoodIn wsX3_sew wsX2_otherOfPair := goodIn_r _ [42, 43, 44, 59, 60, 61, 62, 63, 64, 65] (by decide +kernel) (by decide +kernel)
set_option maxRecDepth 20000 in
theorem gX3_sew_X2_otherOfPair : GoodIn wsX3_sew (wsV RX3 125 RX2 yX2_otherOfPair wsX2_otherOfPair) := goodIn_app (goodIn_of _ (by decide +kernel)) ggX3_sew_X2_otherOfPair
set_option maxRecDepth 20000 in
theorem ggX3_sew_X2_setSeam : GoodIn wsX3_sew wsX2_setSeam := goodIn_r _ [48, 49, 59, 60, 61, 62, 63, 64, 65] (by decide +kernel) (by decide +kernel)
set_option maxRecDepth 20000 in
theorem gX3_sew_X2_setSeam : GoodIn wsX3_sew (wsV RX3 133 RX2 yX2_setSeam wsX2_setSeam) := goodIn_app (goodIn_of _ (by decide +kernel)) ggX3_sew_X2_setSeam
set_option maxRecDepth 20000 in
theorem ggX3_sew_X2_openPairs : GoodIn wsX3_sew wsX2_openPairs := goodIn_r _ [53, 43, 54, 55, 56, 41, 57, 49, 58, 39, 40, 42, 44, 59, 60, 61, 62, 63, 64, 65] (by decide +kernel) (by decide +kernel)
set_option maxRecDepth 20000 in
theorem gX3_sew_X2_openPairs : GoodIn wsX3_sew (wsV RX3 137 RX2 yX2_openPairs wsX2_openPairs) := goodIn_app (goodIn_of _ (by decide +kernel)) ggX3_sew_X2_openPairs
theorem dX3_sew_0 : decode cX3_sew 0 = .ok (.aload_n 0, 1) := by decide +kernel
theorem dX3_sew_1 : decode cX3_sew 1 = .ok (.iload_n 1, 1) := by decide +kernel
theorem dX3_sew_2 : decode cX3_sew 2 = .ok (.invokevirtual 118, 3) := by decide +kernel
theorem dX3_sew_5 : decode cX3_sew 5 = .ok (.astore 5, 2) := by decide +kernel
theorem dX3_sew_7 : decode cX3_sew 7 = .ok (.iload_n 2, 1) := by decide +kernel
theorem dX3_sew_8 : decode cX3_sew 8 = .ok (.aload 5, 2) := by decide +kernel
theorem dX3_sew_10 : decode cX3_sew 10 = .ok (.getfield 122, 3) := by decide +kernel
theorem dX3_sew_13 : decode cX3_sew 13 = .ok (.invokestatic 70, 3) := by decide +kernel
theorem dX3_sew_16 : decode cX3_sew 16 = .ok (.aload 5, 2) := by decide +kernel
theorem dX3_sew_18 : decode cX3_sew 18 = .ok (.iload_n 2, 1) := by decide +kernel
theorem dX3_sew_19 : decode cX3_sew 19 = .ok (.iload_n 3, 1) := by decide +kernel
theorem dX3_sew_20 : decode cX3_sew 20 = .ok (.invokevirtual 125, 3) := by decide +kernel
theorem dX3_sew_23 : decode cX3_sew 23 = .ok (.ifCond .ge 13, 3) := by decide +kernel
theorem dX3_sew_26 : decode cX3_sew 26 = .ok (.new 128, 3) := by decide +kernel
theorem dX3_sew_29 : decode cX3_sew 29 = .ok (.dup, 1) := by decide +kernel
theorem dX3_sew_30 : decode cX3_sew 30 = .ok (.ldc 130, 2) := by decide +kernel
theorem dX3_sew_32 : decode cX3_sew 32 = .ok (.invokespecial 132, 3) := by decide +kernel
theorem dX3_sew_35 : decode cX3_sew 35 = .ok (.athrow, 1) := by decide +kernel
theorem dX3_sew_36 : decode cX3_sew 36 = .ok (.aload 5, 2) := by decide +kernel
theorem dX3_sew_38 : decode cX3_sew 38 = .ok (.iload_n 2, 1) := by decide +kernel
theorem dX3_sew_39 : decode cX3_sew 39 = .ok (.iload_n 3, 1) := by decide +kernel
theorem dX3_sew_40 : decode cX3_sew 40 = .ok (.iload 4, 2) := by decide +kernel
theorem dX3_sew_42 : decode cX3_sew 42 = .ok (.invokevirtual 133, 3) := by decide +kernel
theorem dX3_sew_45 : decode cX3_sew 45 = .ok (.aload 5, 2) := by decide +kernel
theorem dX3_sew_47 : decode cX3_sew 47 = .ok (.invokevirtual 137, 3) := by decide +kernel
theorem dX3_sew_50 : decode cX3_sew 50 = .ok (.ireturn, 1) := by decide +kernel
set_option maxRecDepth 20000 in
theorem ggX3_fill_X3_needTick : GoodIn wsX3_fill wsX3_needTick := goodIn_ca (goodIn_r _ [5, 6, 7, 8, 9, 10, 11, 12, 13, 14, 15, 16, 17, 18, 19, 20, 21, 22, 23, 24, 25, 26, 27, 28, 29, 30, 31, 32, 69, 70, 71, 72, 73, 74, 75, 76, 77, 78, 79] (by decide +kernel) (by decide +kernel)) (goodIn_sub (fun _ h => List.mem_cons_of_mem _ (List.mem_append_left _ (List.mem_append_right _ h))) (by decide +kernel))
set_option maxRecDepth 20000 in
theorem gX3_fill_X3_needTick : GoodIn wsX3_fill (wsV RX3 118 RX3 yX3_needTick wsX3_needTick) := goodIn_app (goodIn_of _ (by decide +kernel)) ggX3_fill_X3_needTick
set_option maxRecDepth 20000 in
theorem ggX3_fill_X3_needSquare : GoodIn wsX3_fill wsX3_needSquare := goodIn_ca (goodIn_r _ [35, 6, 7, 80, 81, 82, 83, 84, 85, 86] (by decide +kernel) (by decide +kernel)) (goodIn_sub (fun _ h => List.mem_cons_of_mem _ (List.mem_append_left _ (List.mem_append_right _ h))) (by decide +kernel))
set_option maxRecDepth 20000 in
theorem gX3_fill_X3_needSquare : GoodIn wsX3_fill (va_wsS RX3 140 yX3_needSquare wsX3_needSquare) := goodIn_app (goodIn_of _ (by decide +kernel)) ggX3_fill_X3_needSquare
set_option maxRecDepth 20000 in
theorem ggX3_fill_X3_needChamber : GoodIn wsX3_fill wsX3_needChamber := goodIn_ca (goodIn_r _ [39, 6, 7, 40, 69, 70, 71, 72, 73, 74, 75, 76] (by decide +kernel) (by decide +kernel)) (goodIn_sub (fun _ h => List.mem_cons_of_mem _ (List.mem_append_left _ (List.mem_append_right _ h))) (by decide +kernel))
set_option maxRecDepth 20000 in
theorem gX3_fill_X3_needChamber : GoodIn wsX3_fill (wsV RX3 102 RX3 yX3_needChamber wsX3_needChamber) := goodIn_app (goodIn_of _ (by decide +kernel)) ggX3_fill_X3_needChamber
set_option maxRecDepth 20000 in
theorem ggX3_fill_X3_needRange : GoodIn wsX3_fill wsX3_needRange := goodIn_ca (goodIn_r _ [43, 44, 45] (by decide +kernel) (by decide +kernel)) (goodIn_sub (fun _ h => List.mem_cons_of_mem _ (List.mem_append_right _ h)) (by decide +kernel))
set_option maxRecDepth 20000 in
theorem gX3_fill_X3_needRange : GoodIn wsX3_fill (va_wsS RX3 39 yX3_needRange wsX3_needRange) := goodIn_app (goodIn_of _ (by decide +kernel)) ggX3_fill_X3_needRange
set_option maxRecDepth 20000 in
theorem ggX3_fill_X3_moveByHand : GoodIn wsX3_fill wsX3_moveByHand := goodIn_r _ [48, 49, 50, 51, 52, 53, 54, 55, 56, 57, 58, 59, 60, 61, 62, 63, 64, 65, 66, 67, 68, 87, 88] (by decide +kernel) (by decide +kernel)
set_option maxRecDepth 20000 in
theorem gX3_fill_X3_moveByHand : GoodIn wsX3_fill (va_wsS RX3 144 yX3_moveByHand wsX3_moveByHand) := goodIn_app (goodIn_of _ (by decide +kernel)) ggX3_fill_X3_moveByHand
theorem dX3_fill_0 : decode cX3_fill 0 = .ok (.aload_n 0, 1) := by decide +kernel
theorem dX3_fill_1 : decode cX3_fill 1 = .ok (.iload_n 1, 1) := by decide +kernel
theorem dX3_fill_2 : decode cX3_fill 2 = .ok (.invokevirtual 118, 3) := by decide +kernel
theorem dX3_fill_5 : decode cX3_fill 5 = .ok (.iload_n 2, 1) := by decide +kernel
theorem dX3_fill_6 : decode cX3_fill 6 = .ok (.invokestatic 140, 3) := by decide +kernel
theorem dX3_fill_9 : decode cX3_fill 9 = .ok (.astore 5, 2) := by decide +kernel
theorem dX3_fill_11 : decode cX3_fill 11 = .ok (.aload_n 0, 1) := by decide +kernel
theorem dX3_fill_12 : decode cX3_fill 12 = .ok (.iload_n 3, 1) := by decide +kernel
theorem dX3_fill_13 : decode cX3_fill 13 = .ok (.invokevirtual 102, 3) := by decide +kernel
theorem dX3_fill_16 : decode cX3_fill 16 = .ok (.astore 6, 2) := by decide +kernel
theorem dX3_fill_18 : decode cX3_fill 18 = .ok (.iload 4, 2) := by decide +kernel
theorem dX3_fill_20 : decode cX3_fill 20 = .ok (.iconst 1, 1) := by decide +kernel
theorem dX3_fill_21 : decode cX3_fill 21 = .ok (.sipush 300, 3) := by decide +kernel
theorem dX3_fill_24 : decode cX3_fill 24 = .ok (.invokestatic 39, 3) := by decide +kernel
theorem dX3_fill_27 : decode cX3_fill 27 = .ok (.aload 6, 2) := by decide +kernel
theorem dX3_fill_29 : decode cX3_fill 29 = .ok (.aload 5, 2) := by decide +kernel
theorem dX3_fill_31 : decode cX3_fill 31 = .ok (.iload 4, 2) := by decide +kernel
theorem dX3_fill_33 : decode cX3_fill 33 = .ok (.invokestatic 144, 3) := by decide +kernel
theorem dX3_fill_36 : decode cX3_fill 36 = .ok (.ireturn, 1) := by decide +kernel
set_option maxRecDepth 20000 in
theorem ggX3_shift_X3_needTick : GoodIn wsX3_shift wsX3_needTick := goodIn_ca (goodIn_r _ [7, 8, 9, 10, 11, 12, 13, 14, 15, 16, 17, 18, 19, 20, 21, 22, 23, 24, 25, 26, 27, 28, 29, 30, 31, 32, 33, 34, 64, 65, 66, 67, 68, 69, 70, 71, 72, 73, 74] (by decide +kernel) (by decide +kernel)) (goodIn_sub (fun _ h => List.mem_cons_of_mem _ (List.mem_append_right _ h)) (by decide +kernel))
set_option maxRecDepth 20000 in
theorem gX3_shift_X3_needTick : GoodIn wsX3_shift (wsV RX3 118 RX3 yX3_needTick wsX3_needTick) := goodIn_app (goodIn_of _ (by decide +kernel)) ggX3_shift_X3_needTick
set_option maxRecDepth 20000 in
theorem ggX3_shift_X3_needSquare : GoodIn wsX3_shift wsX3_needSquare := goodIn_ca (goodIn_r _ [37, 8, 9, 75, 76, 77, 78, 79, 80, 81] (by decide +kernel) (by decide +kernel)) (goodIn_sub (fun _ h => List.mem_cons_of_mem _ (List.mem_append_right _ h)) (by decide +kernel))
set_option maxRecDepth 20000 in
theorem gX3_shift_X3_needSquare : GoodIn wsX3_shift (va_wsS RX3 140 yX3_needSquare wsX3_needSquare) := goodIn_app (goodIn_of _ (by decide +kernel)) ggX3_shift_X3_needSquare
set_option maxRecDepth 20000 in
theorem ggX3_shift_X3_needRange : GoodIn wsX3_shift wsX3_needRange := goodIn_ca (goodIn_r _ [40, 1, 2] (by decide +kernel) (by decide +kernel)) (goodIn_sub (fun _ h => List.mem_cons_of_mem _ (List.mem_append_left _ (List.mem_append_right _ h))) (by decide +kernel))
set_option maxRecDepth 20000 in
theorem gX3_shift_X3_needRange : GoodIn wsX3_shift (va_wsS RX3 39 yX3_needRange wsX3_needRange) := goodIn_app (goodIn_of _ (by decide +kernel)) ggX3_shift_X3_needRange
set_option maxRecDepth 20000 in
theorem ggX3_shift_X3_moveByHand : GoodIn wsX3_shift wsX3_moveByHand := goodIn_r _ [43, 44, 45, 46, 47, 48, 49, 50, 51, 52, 53, 54, 55, 56, 57, 58, 59, 60, 61, 62, 63, 82, 83] (by decide +kernel) (by decide +kernel)
set_option maxRecDepth 20000 in
theorem gX3_shift_X3_moveByHand : GoodIn wsX3_shift (va_wsS RX3 144 yX3_moveByHand wsX3_moveByHand) := goodIn_app (goodIn_of _ (by decide +kernel)) ggX3_shift_X3_moveByHand
theorem dX3_shift_0 : decode cX3_shift 0 = .ok (.aload_n 0, 1) := by decide +kernel
theorem dX3_shift_1 : decode cX3_shift 1 = .ok (.iload_n 1, 1) := by decide +kernel
theorem dX3_shift_2 : decode cX3_shift 2 = .ok (.invokevirtual 118, 3) := by decide +kernel
theorem dX3_shift_5 : decode cX3_shift 5 = .ok (.astore 5, 2) := by decide +kernel
theorem dX3_shift_7 : decode cX3_shift 7 = .ok (.aload 5, 2) := by decide +kernel
theorem dX3_shift_9 : decode cX3_shift 9 = .ok (.iload_n 2, 1) := by decide +kernel
theorem dX3_shift_10 : decode cX3_shift 10 = .ok (.invokestatic 140, 3) := by decide +kernel
theorem dX3_shift_13 : decode cX3_shift 13 = .ok (.astore 6, 2) := by decide +kernel
theorem dX3_shift_15 : decode cX3_shift 15 = .ok (.aload 5, 2) := by decide +kernel
theorem dX3_shift_17 : decode cX3_shift 17 = .ok (.iload_n 3, 1) := by decide +kernel
theorem dX3_shift_18 : decode cX3_shift 18 = .ok (.invokestatic 140, 3) := by decide +kernel
theorem dX3_shift_21 : decode cX3_shift 21 = .ok (.astore 7, 2) := by decide +kernel
theorem dX3_shift_23 : decode cX3_shift 23 = .ok (.iload_n 2, 1) := by decide +kernel
theorem dX3_shift_24 : decode cX3_shift 24 = .ok (.iload_n 3, 1) := by decide +kernel
theorem dX3_shift_25 : decode cX3_shift 25 = .ok (.if_icmp .ne 13, 3) := by decide +kernel
theorem dX3_shift_28 : decode cX3_shift 28 = .ok (.new 128, 3) := by decide +kernel
theorem dX3_shift_31 : decode cX3_shift 31 = .ok (.dup, 1) := by decide +kernel
theorem dX3_shift_32 : decode cX3_shift 32 = .ok (.ldc 148, 2) := by decide +kernel
theorem dX3_shift_34 : decode cX3_shift 34 = .ok (.invokespecial 132, 3) := by decide +kernel
theorem dX3_shift_37 : decode cX3_shift 37 = .ok (.athrow, 1) := by decide +kernel
theorem dX3_shift_38 : decode cX3_shift 38 = .ok (.iload 4, 2) := by decide +kernel
theorem dX3_shift_40 : decode cX3_shift 40 = .ok (.iconst 1, 1) := by decide +kernel
theorem dX3_shift_41 : decode cX3_shift 41 = .ok (.sipush 300, 3) := by decide +kernel
theorem dX3_shift_44 : decode cX3_shift 44 = .ok (.invokestatic 39, 3) := by decide +kernel
theorem dX3_shift_47 : decode cX3_shift 47 = .ok (.aload 6, 2) := by decide +kernel
theorem dX3_shift_49 : decode cX3_shift 49 = .ok (.aload 7, 2) := by decide +kernel
theorem dX3_shift_51 : decode cX3_shift 51 = .ok (.iload 4, 2) := by decide +kernel
theorem dX3_shift_53 : decode cX3_shift 53 = .ok (.invokestatic 144, 3) := by decide +kernel
theorem dX3_shift_56 : decode cX3_shift 56 = .ok (.ireturn, 1) := by decide +kernel
set_option maxRecDepth 20000 in
theorem ggX3_square_X3_needTick : GoodIn wsX3_square wsX3_needTick := goodIn_ca (goodIn_r _ [5, 6, 7, 8, 9, 10, 11, 12, 13, 14, 15, 16, 17, 18, 19, 20, 21, 22, 23, 24, 25, 26, 27, 28, 29, 30, 31, 32, 74, 75, 76, 77, 78, 79, 80, 81, 82, 83, 84] (by decide +kernel) (by decide +kernel)) (goodIn_sub (fun _ h => List.mem_cons_of_mem _ (List.mem_append_right _ h)) (by decide +kernel))
set_option maxRecDepth 20000 in
theorem gX3_square_X3_needTick : GoodIn wsX3_square (wsV RX3 118 RX3 yX3_needTick wsX3_needTick) := goodIn_app (goodIn_of _ (by decide +kernel)) ggX3_square_X3_needTick
set_option maxRecDepth 20000 in
theorem ggX3_square_X3_needIndex : GoodIn wsX3_square wsX3_needIndex := goodIn_ca (goodIn_r _ [35, 6, 7] (by decide +kernel) (by decide +kernel)) (goodIn_sub (fun _ h => List.mem_cons_of_mem _ (List.mem_append_right _ h)) (by decide +kernel))
set_option maxRecDepth 20000 in
theorem gX3_square_X3_needIndex : GoodIn wsX3_square (va_wsS RX3 70 yX3_needIndex wsX3_needIndex) := goodIn_app (goodIn_of _ (by decide +kernel)) ggX3_square_X3_needIndex
set_option maxRecDepth 20000 in
theorem ggX3_square_X2_squareTells : GoodIn wsX3_square wsX2_squareTells := goodIn_r _ [40, 41, 42, 43, 44, 45, 46, 47, 48, 49, 50, 51, 52, 53, 54, 55, 56, 57, 58, 39, 59, 60, 61, 62, 63, 64, 65, 66, 67, 68, 69, 70, 71, 72, 73, 85, 86] (by decide +kernel) (by decide +kernel)
set_option maxRecDepth 20000 in
theorem gX3_square_X2_squareTells : GoodIn wsX3_square (wsV RX3 150 RX2 yX2_squareTells wsX2_squareTells) := goodIn_app (goodIn_of _ (by decide +kernel)) ggX3_square_X2_squareTells
theorem dX3_square_0 : decode cX3_square 0 = .ok (.aload_n 0, 1) := by decide +kernel
theorem dX3_square_1 : decode cX3_square 1 = .ok (.iload_n 1, 1) := by decide +kernel
theorem dX3_square_2 : decode cX3_square 2 = .ok (.invokevirtual 118, 3) := by decide +kernel
theorem dX3_square_5 : decode cX3_square 5 = .ok (.astore 4, 2) := by decide +kernel
theorem dX3_square_7 : decode cX3_square 7 = .ok (.iload_n 2, 1) := by decide +kernel
theorem dX3_square_8 : decode cX3_square 8 = .ok (.aload 4, 2) := by decide +kernel
theorem dX3_square_10 : decode cX3_square 10 = .ok (.getfield 122, 3) := by decide +kernel
theorem dX3_square_13 : decode cX3_square 13 = .ok (.invokestatic 70, 3) := by decide +kernel
theorem dX3_square_16 : decode cX3_square 16 = .ok (.iload_n 3, 1) := by decide +kernel
theorem dX3_square_17 : decode cX3_square 17 = .ok (.bipush 10, 2) := by decide +kernel
theorem dX3_square_19 : decode cX3_square 19 = .ok (.invokestatic 70, 3) := by decide +kernel
theorem dX3_square_22 : decode cX3_square 22 = .ok (.aload 4, 2) := by decide +kernel
theorem dX3_square_24 : decode cX3_square 24 = .ok (.iload_n 2, 1) := by decide +kernel
theorem dX3_square_25 : decode cX3_square 25 = .ok (.iload_n 3, 1) := by decide +kernel
theorem dX3_square_26 : decode cX3_square 26 = .ok (.invokevirtual 150, 3) := by decide +kernel
theorem dX3_square_29 : decode cX3_square 29 = .ok (.ireturn, 1) := by decide +kernel
set_option maxRecDepth 20000 in
theorem ggX3_tick_X3_needTick : GoodIn wsX3_tick wsX3_needTick := goodIn_ca (goodIn_r _ [5, 6, 7, 8, 9, 10, 11, 12, 13, 14, 15, 16, 17, 18, 19, 20, 21, 22, 23, 24, 25, 26, 27, 28, 29, 30, 31, 32, 98, 99, 100, 101, 102, 103, 104, 105, 106, 107, 108] (by decide +kernel) (by decide +kernel)) (goodIn_sub (fun _ h => List.mem_cons_of_mem _ (List.mem_append_right _ h)) (by decide +kernel))
set_option maxRecDepth 20000 in
theorem gX3_tick_X3_needTick : GoodIn wsX3_tick (wsV RX3 118 RX3 yX3_needTick wsX3_needTick) := goodIn_app (goodIn_of _ (by decide +kernel)) ggX3_tick_X3_needTick
set_option maxRecDepth 20000 in
theorem ggX3_tick_X3_needIndex : GoodIn wsX3_tick wsX3_needIndex := goodIn_ca (goodIn_r _ [35, 6, 7] (by decide +kernel) (by decide +kernel)) (goodIn_sub (fun _ h => List.mem_cons_of_mem _ (List.mem_append_right _ h)) (by decide +kernel))
set_option maxRecDepth 20000 in
theorem gX3_tick_X3_needIndex : GoodIn wsX3_tick (va_wsS RX3 70 yX3_needIndex wsX3_needIndex) := goodIn_app (goodIn_of _ (by decide +kernel)) ggX3_tick_X3_needIndex
set_option maxRecDepth 20000 in
theorem ggX3_tick_X2_tells : GoodIn wsX3_tick wsX2_tells := goodIn_r _ [40, 41, 42, 43, 44, 45, 46, 39, 47, 48, 49, 50, 51, 52, 53, 54, 55, 56, 57, 58, 59, 60, 61, 62, 63, 64, 65, 66, 67, 68, 69, 70, 71, 72, 73, 74, 75, 76, 77, 78, 79, 80, 81, 82, 83, 84, 85, 86, 87, 88, 89, 90, 91, 92, 93, 94, 95, 96, 97, 109, 110, 111, 112, 113, 114, 115, 116, 117] (by decide +kernel) (by decide +kernel)
set_option maxRecDepth 20000 in
theorem gX3_tick_X2_tells : GoodIn wsX3_tick (wsV RX3 153 RX2 yX2_tells wsX2_tells) := goodIn_app (goodIn_of _ (by decide +kernel)) ggX3_tick_X2_tells
theorem dX3_tick_0 : decode cX3_tick 0 = .ok (.aload_n 0, 1) := by decide +kernel
theorem dX3_tick_1 : decode cX3_tick 1 = .ok (.iload_n 1, 1) := by decide +kernel
theorem dX3_tick_2 : decode cX3_tick 2 = .ok (.invokevirtual 118, 3) := by decide +kernel
theorem dX3_tick_5 : decode cX3_tick 5 = .ok (.astore_n 3, 1) := by decide +kernel
theorem dX3_tick_6 : decode cX3_tick 6 = .ok (.iload_n 2, 1) := by decide +kernel
theorem dX3_tick_7 : decode cX3_tick 7 = .ok (.bipush 9, 2) := by decide +kernel
theorem dX3_tick_9 : decode cX3_tick 9 = .ok (.invokestatic 70, 3) := by decide +kernel
theorem dX3_tick_12 : decode cX3_tick 12 = .ok (.aload_n 3, 1) := by decide +kernel
theorem dX3_tick_13 : decode cX3_tick 13 = .ok (.iload_n 2, 1) := by decide +kernel
theorem dX3_tick_14 : decode cX3_tick 14 = .ok (.invokevirtual 153, 3) := by decide +kernel
theorem dX3_tick_17 : decode cX3_tick 17 = .ok (.ireturn, 1) := by decide +kernel
set_option maxRecDepth 20000 in
theorem ggX3_pass_X3_needRange : GoodIn wsX3_pass wsX3_needRange := goodIn_ca (goodIn_r _ [8, 9, 10] (by decide +kernel) (by decide +kernel)) (goodIn_sub (fun _ h => List.mem_cons_of_mem _ (List.mem_append_right _ h)) (by decide +kernel))
set_option maxRecDepth 20000 in
theorem gX3_pass_X3_needRange : GoodIn wsX3_pass (va_wsS RX3 39 yX3_needRange wsX3_needRange) := goodIn_app (goodIn_of _ (by decide +kernel)) ggX3_pass_X3_needRange
set_option maxRecDepth 20000 in
theorem ggX3_pass_Jx4a65c_size_8abf5 : GoodIn wsX3_pass wsJx4a65c_size_8abf5 := goodIn_r _ [15, 16, 95, 96, 97] (by decide +kernel) (by decide +kernel)
set_option maxRecDepth 20000 in
theorem gX3_pass_Jx4a65c_size_8abf5 : GoodIn wsX3_pass (wsV RX3 42 RJx4a65c yJx4a65c_size_8abf5 wsJx4a65c_size_8abf5) := goodIn_app (goodIn_of _ (by decide +kernel)) ggX3_pass_Jx4a65c_size_8abf5
set_option maxRecDepth 20000 in
theorem ggX3_pass_Jx4a65c_get_915e3 : GoodIn wsX3_pass wsJx4a65c_get_915e3 := goodIn_r _ [20, 16, 21, 22, 23, 24, 25, 26, 27, 28, 29, 30, 31, 14, 32, 33, 95, 96, 97] (by decide +kernel) (by decide +kernel)
set_option maxRecDepth 20000 in
theorem gX3_pass_Jx4a65c_get_915e3 : GoodIn wsX3_pass (wsV RX3 154 RJx4a65c yJx4a65c_get_915e3 wsJx4a65c_get_915e3) := goodIn_app (goodIn_of _ (by decide +kernel)) ggX3_pass_Jx4a65c_get_915e3
set_option maxRecDepth 20000 in
theorem ggX3_pass_X2_sleep : GoodIn wsX3_pass wsX2_sleep := goodIn_r _ [38, 39, 40, 41, 37, 42, 43, 44, 45, 46, 47, 48, 49, 50, 51, 52, 53, 54, 55, 56, 57, 58, 59, 60, 61, 62, 63, 64, 65, 66, 67, 68, 69, 70, 71, 72, 73, 74, 75, 76, 77, 78, 79, 80, 81, 82, 83, 84, 85, 86, 98, 99, 100, 101, 102, 103, 104, 105, 106] (by decide +kernel) (by decide +kernel)
set_option maxRecDepth 20000 in
theorem gX3_pass_X2_sleep : GoodIn wsX3_pass (wsV RX3 158 RX2 yX2_sleep wsX2_sleep) := goodIn_app (goodIn_of _ (by decide +kernel)) ggX3_pass_X2_sleep
theorem dX3_pass_0 : decode cX3_pass 0 = .ok (.iload_n 1, 1) := by decide +kernel
theorem dX3_pass_1 : decode cX3_pass 1 = .ok (.iconst 1, 1) := by decide +kernel
theorem dX3_pass_2 : decode cX3_pass 2 = .ok (.sipush 200, 3) := by decide +kernel
theorem dX3_pass_5 : decode cX3_pass 5 = .ok (.invokestatic 39, 3) := by decide +kernel
theorem dX3_pass_8 : decode cX3_pass 8 = .ok (.iconst 0, 1) := by decide +kernel
theorem dX3_pass_9 : decode cX3_pass 9 = .ok (.istore_n 2, 1) := by decide +kernel
theorem dX3_pass_10 : decode cX3_pass 10 = .ok (.iconst 0, 1) := by decide +kernel
theorem dX3_pass_11 : decode cX3_pass 11 = .ok (.istore_n 3, 1) := by decide +kernel
theorem dX3_pass_12 : decode cX3_pass 12 = .ok (.iload_n 3, 1) := by decide +kernel
theorem dX3_pass_13 : decode cX3_pass 13 = .ok (.aload_n 0, 1) := by decide +kernel
theorem dX3_pass_14 : decode cX3_pass 14 = .ok (.getfield 16, 3) := by decide +kernel
theorem dX3_pass_17 : decode cX3_pass 17 = .ok (.invokevirtual 42, 3) := by decide +kernel
theorem dX3_pass_20 : decode cX3_pass 20 = .ok (.if_icmp .ge 27, 3) := by decide +kernel
theorem dX3_pass_23 : decode cX3_pass 23 = .ok (.iload_n 2, 1) := by decide +kernel
theorem dX3_pass_24 : decode cX3_pass 24 = .ok (.aload_n 0, 1) := by decide +kernel
theorem dX3_pass_25 : decode cX3_pass 25 = .ok (.getfield 16, 3) := by decide +kernel
theorem dX3_pass_28 : decode cX3_pass 28 = .ok (.iload_n 3, 1) := by decide +kernel
theorem dX3_pass_29 : decode cX3_pass 29 = .ok (.invokevirtual 154, 3) := by decide +kernel
theorem dX3_pass_32 : decode cX3_pass 32 = .ok (.checkcast 26, 3) := by decide +kernel
theorem dX3_pass_35 : decode cX3_pass 35 = .ok (.iload_n 1, 1) := by decide +kernel
theorem dX3_pass_36 : decode cX3_pass 36 = .ok (.invokevirtual 158, 3) := by decide +kernel
theorem dX3_pass_39 : decode cX3_pass 39 = .ok (.iadd, 1) := by decide +kernel
theorem dX3_pass_40 : decode cX3_pass 40 = .ok (.istore_n 2, 1) := by decide +kernel
theorem dX3_pass_41 : decode cX3_pass 41 = .ok (.iinc 3 1, 3) := by decide +kernel
theorem dX3_pass_44 : decode cX3_pass 44 = .ok (.goto (-32), 3) := by decide +kernel
theorem dX3_pass_47 : decode cX3_pass 47 = .ok (.aload_n 0, 1) := by decide +kernel
theorem dX3_pass_48 : decode cX3_pass 48 = .ok (.dup, 1) := by decide +kernel
theorem dX3_pass_49 : decode cX3_pass 49 = .ok (.getfield 161, 3) := by decide +kernel
theorem dX3_pass_52 : decode cX3_pass 52 = .ok (.iload_n 1, 1) := by decide +kernel
theorem dX3_pass_53 : decode cX3_pass 53 = .ok (.iadd, 1) := by decide +kernel
theorem dX3_pass_54 : decode cX3_pass 54 = .ok (.putfield 161, 3) := by decide +kernel
theorem dX3_pass_57 : decode cX3_pass 57 = .ok (.aload_n 0, 1) := by decide +kernel
theorem dX3_pass_58 : decode cX3_pass 58 = .ok (.dup, 1) := by decide +kernel
theorem dX3_pass_59 : decode cX3_pass 59 = .ok (.getfield 164, 3) := by decide +kernel
theorem dX3_pass_62 : decode cX3_pass 62 = .ok (.iload_n 2, 1) := by decide +kernel
theorem dX3_pass_63 : decode cX3_pass 63 = .ok (.iadd, 1) := by decide +kernel
theorem dX3_pass_64 : decode cX3_pass 64 = .ok (.putfield 164, 3) := by decide +kernel
theorem dX3_pass_67 : decode cX3_pass 67 = .ok (.iload_n 2, 1) := by decide +kernel
theorem dX3_pass_68 : decode cX3_pass 68 = .ok (.ireturn, 1) := by decide +kernel
set_option maxRecDepth 20000 in
theorem ggX3_count_X3_needIndex : GoodIn wsX3_count wsX3_needIndex := goodIn_ca (goodIn_r _ [4, 5, 6] (by decide +kernel) (by decide +kernel)) (goodIn_sub (fun _ h => List.mem_cons_of_mem _ (List.mem_append_right _ h)) (by decide +kernel))
set_option maxRecDepth 20000 in
theorem gX3_count_X3_needIndex : GoodIn wsX3_count (va_wsS RX3 70 yX3_needIndex wsX3_needIndex) := goodIn_app (goodIn_of _ (by decide +kernel)) ggX3_count_X3_needIndex
set_option maxRecDepth 20000 in
theorem ggX3_count_X3_countTells : GoodIn wsX3_count wsX3_countTells := goodIn_r _ [10, 11, 12, 13, 14, 15, 16, 17, 18, 19, 20, 21, 22, 23, 24, 25, 3, 26, 27, 28, 29, 30, 31, 32, 33, 34, 35, 36, 37, 38, 39, 40, 41, 42, 43, 44, 45, 46, 47, 48, 49, 50, 51, 52, 53, 54, 55, 56, 57, 58, 59, 60, 61, 62, 63, 64, 65, 66, 67, 68, 69, 70, 71, 72, 73, 74, 75, 76, 77, 78, 79, 80, 81, 82] (by decide +kernel) (by decide +kernel)
set_option maxRecDepth 20000 in
theorem gX3_count_X3_countTells : GoodIn wsX3_count (wsV RX3 167 RX3 yX3_countTells wsX3_countTells) := goodIn_app (goodIn_of _ (by decide +kernel)) ggX3_count_X3_countTells
theorem dX3_count_0 : decode cX3_count 0 = .ok (.iload_n 1, 1) := by decide +kernel
theorem dX3_count_1 : decode cX3_count 1 = .ok (.bipush 9, 2) := by decide +kernel
theorem dX3_count_3 : decode cX3_count 3 = .ok (.invokestatic 70, 3) := by decide +kernel
theorem dX3_count_6 : decode cX3_count 6 = .ok (.aload_n 0, 1) := by decide +kernel
theorem dX3_count_7 : decode cX3_count 7 = .ok (.iload_n 1, 1) := by decide +kernel
theorem dX3_count_8 : decode cX3_count 8 = .ok (.invokevirtual 167, 3) := by decide +kernel
theorem dX3_count_11 : decode cX3_count 11 = .ok (.ireturn, 1) := by decide +kernel
set_option maxRecDepth 20000 in
theorem ggX3_foresee_X3_needTick : GoodIn wsX3_foresee wsX3_needTick := goodIn_ca (goodIn_r _ [6, 7, 8, 9, 10, 11, 12, 13, 14, 15, 16, 17, 18, 19, 20, 21, 22, 23, 24, 25, 26, 27, 28, 29, 30, 31, 32, 33, 125, 126, 127, 128, 129, 130, 131, 132, 133, 134, 135] (by decide +kernel) (by decide +kernel)) (goodIn_sub (fun _ h => List.mem_cons_of_mem _ (List.mem_append_left _ (List.mem_append_right _ h))) (by decide +kernel))
set_option maxRecDepth 20000 in
theorem gX3_foresee_X3_needTick : GoodIn wsX3_foresee (wsV RX3 118 RX3 yX3_needTick wsX3_needTick) := goodIn_app (goodIn_of _ (by decide +kernel)) ggX3_foresee_X3_needTick
set_option maxRecDepth 20000 in
theorem ggX3_foresee_X3_needIndex : GoodIn wsX3_foresee wsX3_needIndex := goodIn_ca (goodIn_r _ [36, 7, 8] (by decide +kernel) (by decide +kernel)) (goodIn_sub (fun _ h => List.mem_cons_of_mem _ (List.mem_append_left _ (List.mem_append_right _ h))) (by decide +kernel))
set_option maxRecDepth 20000 in
theorem gX3_foresee_X3_needIndex : GoodIn wsX3_foresee (va_wsS RX3 70 yX3_needIndex wsX3_needIndex) := goodIn_app (goodIn_of _ (by decide +kernel)) ggX3_foresee_X3_needIndex
set_option maxRecDepth 20000 in
theorem ggX3_foresee_X3_needRange : GoodIn wsX3_foresee wsX3_needRange := goodIn_ca (goodIn_r _ [39, 40, 41] (by decide +kernel) (by decide +kernel)) (goodIn_sub (fun _ h => List.mem_cons_of_mem _ (List.mem_append_right _ h)) (by decide +kernel))
set_option maxRecDepth 20000 in
theorem gX3_foresee_X3_needRange : GoodIn wsX3_foresee (va_wsS RX3 39 yX3_needRange wsX3_needRange) := goodIn_app (goodIn_of _ (by decide +kernel)) ggX3_foresee_X3_needRange
set_option maxRecDepth 20000 in
theorem ggX3_foresee_X2_become : GoodIn wsX3_foresee wsX2_become := goodIn_r _ [46, 47, 48, 49, 50, 51, 52, 53, 54, 55, 56, 57, 58, 59, 60, 61, 62, 63, 64, 65, 66, 67, 136, 137, 138, 139, 140, 141, 142, 143, 144] (by decide +kernel) (by decide +kernel)
set_option maxRecDepth 20000 in
theorem gX3_foresee_X2_become : GoodIn wsX3_foresee (wsV RX3 170 RX2 yX2_become wsX2_become) := goodIn_app (goodIn_of _ (by decide +kernel)) ggX3_foresee_X2_become
set_option maxRecDepth 20000 in
theorem ggX3_foresee_X2_sleep : GoodIn wsX3_foresee wsX2_sleep := goodIn_r _ [71, 72, 73, 74, 45, 75, 51, 49, 76, 77, 78, 56, 79, 58, 59, 60, 61, 62, 63, 64, 65, 66, 67, 80, 81, 82, 83, 50, 84, 85, 86, 87, 52, 88, 89, 90, 91, 47, 92, 93, 94, 95, 96, 97, 98, 99, 100, 101, 102, 103, 136, 137, 138, 139, 140, 141, 142, 143, 144] (by decide +kernel) (by decide +kernel)
set_option maxRecDepth 20000 in
theorem gX3_foresee_X2_sleep : GoodIn wsX3_foresee (wsV RX3 158 RX2 yX2_sleep wsX2_sleep) := goodIn_app (goodIn_of _ (by decide +kernel)) ggX3_foresee_X2_sleep
set_option maxRecDepth 20000 in
theorem ggX3_foresee_X2_feathers : GoodIn wsX3_foresee wsX2_feathers := goodIn_r _ [107, 51, 136, 137, 138, 139, 140, 141, 142, 143, 144] (by decide +kernel) (by decide +kernel)
set_option maxRecDepth 20000 in
theorem gX3_foresee_X2_feathers : GoodIn wsX3_foresee (wsV RX3 174 RX2 yX2_feathers wsX2_feathers) := goodIn_app (goodIn_of _ (by decide +kernel)) ggX3_foresee_X2_feathers
set_option maxRecDepth 20000 in
theorem ggX3_foresee_X2_coldestWarmth : GoodIn wsX3_foresee wsX2_coldestWarmth := goodIn_r _ [111, 112, 113, 114, 45, 115, 50, 116, 117, 118, 119, 51, 120, 121, 122, 56, 123, 62, 100, 101, 102, 103, 136, 137, 138, 139, 140, 141, 142, 143, 144] (by decide +kernel) (by decide +kernel)
set_option maxRecDepth 20000 in
theorem gX3_foresee_X2_coldestWarmth : GoodIn wsX3_foresee (wsV RX3 177 RX2 yX2_coldestWarmth wsX2_coldestWarmth) := goodIn_app (goodIn_of _ (by decide +kernel)) ggX3_foresee_X2_coldestWarmth
set_option maxRecDepth 20000 in
theorem ggX3_foresee_X2_coldestSquare : GoodIn wsX3_foresee wsX2_coldestSquare := goodIn_r _ [115, 50, 116, 117, 118, 45, 119, 51, 120, 121, 122, 56, 123, 62, 100, 101, 102, 103, 136, 137, 138, 139, 140, 141, 142, 143, 144] (by decide +kernel) (by decide +kernel)
set_option maxRecDepth 20000 in
theorem gX3_foresee_X2_coldestSquare : GoodIn wsX3_foresee (wsV RX3 180 RX2 yX2_coldestSquare wsX2_coldestSquare) := goodIn_app (goodIn_of _ (by decide +kernel)) ggX3_foresee_X2_coldestSquare
theorem dX3_foresee_0 : decode cX3_foresee 0 = .ok (.aload_n 0, 1) := by decide +kernel
theorem dX3_foresee_1 : decode cX3_foresee 1 = .ok (.iload_n 1, 1) := by decide +kernel
theorem dX3_foresee_2 : decode cX3_foresee 2 = .ok (.invokevirtual 118, 3) := by decide +kernel
theorem dX3_foresee_5 : decode cX3_foresee 5 = .ok (.astore 4, 2) := by decide +kernel
theorem dX3_foresee_7 : decode cX3_foresee 7 = .ok (.iload_n 3, 1) := by decide +kernel
theorem dX3_foresee_8 : decode cX3_foresee 8 = .ok (.iconst 3, 1) := by decide +kernel
theorem dX3_foresee_9 : decode cX3_foresee 9 = .ok (.invokestatic 70, 3) := by decide +kernel
theorem dX3_foresee_12 : decode cX3_foresee 12 = .ok (.iload_n 2, 1) := by decide +kernel
theorem dX3_foresee_13 : decode cX3_foresee 13 = .ok (.iconst 1, 1) := by decide +kernel
theorem dX3_foresee_14 : decode cX3_foresee 14 = .ok (.sipush 200, 3) := by decide +kernel
theorem dX3_foresee_17 : decode cX3_foresee 17 = .ok (.invokestatic 39, 3) := by decide +kernel
theorem dX3_foresee_20 : decode cX3_foresee 20 = .ok (.aload_n 0, 1) := by decide +kernel
theorem dX3_foresee_21 : decode cX3_foresee 21 = .ok (.getfield 31, 3) := by decide +kernel
theorem dX3_foresee_24 : decode cX3_foresee 24 = .ok (.aload 4, 2) := by decide +kernel
theorem dX3_foresee_26 : decode cX3_foresee 26 = .ok (.invokevirtual 170, 3) := by decide +kernel
theorem dX3_foresee_29 : decode cX3_foresee 29 = .ok (.aload_n 0, 1) := by decide +kernel
theorem dX3_foresee_30 : decode cX3_foresee 30 = .ok (.getfield 31, 3) := by decide +kernel
theorem dX3_foresee_33 : decode cX3_foresee 33 = .ok (.iload_n 2, 1) := by decide +kernel
theorem dX3_foresee_34 : decode cX3_foresee 34 = .ok (.invokevirtual 158, 3) := by decide +kernel
theorem dX3_foresee_37 : decode cX3_foresee 37 = .ok (.pop, 1) := by decide +kernel
theorem dX3_foresee_38 : decode cX3_foresee 38 = .ok (.iload_n 3, 1) := by decide +kernel
theorem dX3_foresee_39 : decode cX3_foresee 39 = .ok (.lookupswitch 41 #[(0, 25), (1, 33)], 25) := by decide +kernel
theorem dX3_foresee_64 : decode cX3_foresee 64 = .ok (.aload_n 0, 1) := by decide +kernel
theorem dX3_foresee_65 : decode cX3_foresee 65 = .ok (.getfield 31, 3) := by decide +kernel
theorem dX3_foresee_68 : decode cX3_foresee 68 = .ok (.invokevirtual 174, 3) := by decide +kernel
theorem dX3_foresee_71 : decode cX3_foresee 71 = .ok (.ireturn, 1) := by decide +kernel
theorem dX3_foresee_72 : decode cX3_foresee 72 = .ok (.aload_n 0, 1) := by decide +kernel
theorem dX3_foresee_73 : decode cX3_foresee 73 = .ok (.getfield 31, 3) := by decide +kernel
theorem dX3_foresee_76 : decode cX3_foresee 76 = .ok (.invokevirtual 177, 3) := by decide +kernel
theorem dX3_foresee_79 : decode cX3_foresee 79 = .ok (.ireturn, 1) := by decide +kernel
theorem dX3_foresee_80 : decode cX3_foresee 80 = .ok (.aload_n 0, 1) := by decide +kernel
theorem dX3_foresee_81 : decode cX3_foresee 81 = .ok (.getfield 31, 3) := by decide +kernel
theorem dX3_foresee_84 : decode cX3_foresee 84 = .ok (.invokevirtual 180, 3) := by decide +kernel
theorem dX3_foresee_87 : decode cX3_foresee 87 = .ok (.ireturn, 1) := by decide +kernel
set_option maxRecDepth 20000 in
theorem ggX3_lasts_X3_needTick : GoodIn wsX3_lasts wsX3_needTick := goodIn_ca (goodIn_r _ [6, 7, 8, 9, 10, 11, 12, 13, 14, 15, 16, 17, 18, 19, 20, 21, 22, 23, 24, 25, 26, 27, 28, 29, 30, 31, 32, 33, 117, 118, 119, 120, 121, 122, 123, 124, 125, 126, 127] (by decide +kernel) (by decide +kernel)) (goodIn_sub (fun _ h => List.mem_cons_of_mem _ (List.mem_append_left _ (List.mem_append_right _ h))) (by decide +kernel))
set_option maxRecDepth 20000 in
theorem gX3_lasts_X3_needTick : GoodIn wsX3_lasts (wsV RX3 118 RX3 yX3_needTick wsX3_needTick) := goodIn_app (goodIn_of _ (by decide +kernel)) ggX3_lasts_X3_needTick
set_option maxRecDepth 20000 in
theorem ggX3_lasts_X3_needRange : GoodIn wsX3_lasts wsX3_needRange := goodIn_ca (goodIn_r _ [36, 37, 38] (by decide +kernel) (by decide +kernel)) (goodIn_sub (fun _ h => List.mem_cons_of_mem _ (List.mem_append_right _ h)) (by decide +kernel))
set_option maxRecDepth 20000 in
theorem gX3_lasts_X3_needRange : GoodIn wsX3_lasts (va_wsS RX3 39 yX3_needRange wsX3_needRange) := goodIn_app (goodIn_of _ (by decide +kernel)) ggX3_lasts_X3_needRange
set_option maxRecDepth 20000 in
theorem ggX3_lasts_X2_become : GoodIn wsX3_lasts wsX2_become := goodIn_r _ [43, 44, 45, 46, 47, 48, 49, 50, 51, 52, 53, 54, 55, 56, 57, 58, 59, 60, 61, 62, 63, 64, 128, 129, 130, 131, 132, 133, 134, 135, 136] (by decide +kernel) (by decide +kernel)
set_option maxRecDepth 20000 in
theorem gX3_lasts_X2_become : GoodIn wsX3_lasts (wsV RX3 170 RX2 yX2_become wsX2_become) := goodIn_app (goodIn_of _ (by decide +kernel)) ggX3_lasts_X2_become
set_option maxRecDepth 20000 in
theorem ggX3_lasts_X2_coldestWarmth : GoodIn wsX3_lasts wsX2_coldestWarmth := goodIn_r _ [68, 69, 70, 71, 42, 72, 47, 73, 74, 75, 76, 48, 77, 78, 79, 53, 80, 59, 81, 82, 83, 84, 128, 129, 130, 131, 132, 133, 134, 135, 136] (by decide +kernel) (by decide +kernel)
set_option maxRecDepth 20000 in
theorem gX3_lasts_X2_coldestWarmth : GoodIn wsX3_lasts (wsV RX3 177 RX2 yX2_coldestWarmth wsX2_coldestWarmth) := goodIn_app (goodIn_of _ (by decide +kernel)) ggX3_lasts_X2_coldestWarmth
set_option maxRecDepth 20000 in
theorem ggX3_lasts_X2_sleep : GoodIn wsX3_lasts wsX2_sleep := goodIn_r _ [88, 89, 90, 91, 42, 92, 48, 46, 93, 94, 95, 53, 96, 55, 56, 57, 58, 59, 60, 61, 62, 63, 64, 97, 98, 99, 100, 47, 101, 102, 103, 104, 49, 105, 106, 107, 108, 44, 109, 110, 111, 112, 113, 114, 115, 116, 81, 82, 83, 84, 128, 129, 130, 131, 132, 133, 134, 135, 136] (by decide +kernel) (by decide +kernel)
set_option maxRecDepth 20000 in
theorem gX3_lasts_X2_sleep : GoodIn wsX3_lasts (wsV RX3 158 RX2 yX2_sleep wsX2_sleep) := goodIn_app (goodIn_of _ (by decide +kernel)) ggX3_lasts_X2_sleep
theorem dX3_lasts_0 : decode cX3_lasts 0 = .ok (.aload_n 0, 1) := by decide +kernel
theorem dX3_lasts_1 : decode cX3_lasts 1 = .ok (.iload_n 1, 1) := by decide +kernel
theorem dX3_lasts_2 : decode cX3_lasts 2 = .ok (.invokevirtual 118, 3) := by decide +kernel
theorem dX3_lasts_5 : decode cX3_lasts 5 = .ok (.astore_n 3, 1) := by decide +kernel
theorem dX3_lasts_6 : decode cX3_lasts 6 = .ok (.iload_n 2, 1) := by decide +kernel
theorem dX3_lasts_7 : decode cX3_lasts 7 = .ok (.iconst 0, 1) := by decide +kernel
theorem dX3_lasts_8 : decode cX3_lasts 8 = .ok (.sipush 900, 3) := by decide +kernel
theorem dX3_lasts_11 : decode cX3_lasts 11 = .ok (.invokestatic 39, 3) := by decide +kernel
theorem dX3_lasts_14 : decode cX3_lasts 14 = .ok (.aload_n 0, 1) := by decide +kernel
theorem dX3_lasts_15 : decode cX3_lasts 15 = .ok (.getfield 31, 3) := by decide +kernel
theorem dX3_lasts_18 : decode cX3_lasts 18 = .ok (.aload_n 3, 1) := by decide +kernel
theorem dX3_lasts_19 : decode cX3_lasts 19 = .ok (.invokevirtual 170, 3) := by decide +kernel
theorem dX3_lasts_22 : decode cX3_lasts 22 = .ok (.iconst 0, 1) := by decide +kernel
theorem dX3_lasts_23 : decode cX3_lasts 23 = .ok (.istore 4, 2) := by decide +kernel
theorem dX3_lasts_25 : decode cX3_lasts 25 = .ok (.iload 4, 2) := by decide +kernel
theorem dX3_lasts_27 : decode cX3_lasts 27 = .ok (.sipush 200, 3) := by decide +kernel
theorem dX3_lasts_30 : decode cX3_lasts 30 = .ok (.if_icmp .gt 32, 3) := by decide +kernel
theorem dX3_lasts_33 : decode cX3_lasts 33 = .ok (.aload_n 0, 1) := by decide +kernel
theorem dX3_lasts_34 : decode cX3_lasts 34 = .ok (.getfield 31, 3) := by decide +kernel
theorem dX3_lasts_37 : decode cX3_lasts 37 = .ok (.invokevirtual 177, 3) := by decide +kernel
theorem dX3_lasts_40 : decode cX3_lasts 40 = .ok (.iload_n 2, 1) := by decide +kernel
theorem dX3_lasts_41 : decode cX3_lasts 41 = .ok (.if_icmp .ge 6, 3) := by decide +kernel
theorem dX3_lasts_44 : decode cX3_lasts 44 = .ok (.iload 4, 2) := by decide +kernel
theorem dX3_lasts_46 : decode cX3_lasts 46 = .ok (.ireturn, 1) := by decide +kernel
theorem dX3_lasts_47 : decode cX3_lasts 47 = .ok (.aload_n 0, 1) := by decide +kernel
theorem dX3_lasts_48 : decode cX3_lasts 48 = .ok (.getfield 31, 3) := by decide +kernel
theorem dX3_lasts_51 : decode cX3_lasts 51 = .ok (.iconst 1, 1) := by decide +kernel
theorem dX3_lasts_52 : decode cX3_lasts 52 = .ok (.invokevirtual 158, 3) := by decide +kernel
theorem dX3_lasts_55 : decode cX3_lasts 55 = .ok (.pop, 1) := by decide +kernel
theorem dX3_lasts_56 : decode cX3_lasts 56 = .ok (.iinc 4 1, 3) := by decide +kernel
theorem dX3_lasts_59 : decode cX3_lasts 59 = .ok (.goto (-34), 3) := by decide +kernel
theorem dX3_lasts_62 : decode cX3_lasts 62 = .ok (.iconst (-1), 1) := by decide +kernel
theorem dX3_lasts_63 : decode cX3_lasts 63 = .ok (.ireturn, 1) := by decide +kernel
theorem dX3_needRange_0 : decode cX3_needRange 0 = .ok (.iload_n 0, 1) := by decide +kernel
theorem dX3_needRange_1 : decode cX3_needRange 1 = .ok (.iload_n 1, 1) := by decide +kernel
theorem dX3_needRange_2 : decode cX3_needRange 2 = .ok (.if_icmp .lt 8, 3) := by decide +kernel
theorem dX3_needRange_5 : decode cX3_needRange 5 = .ok (.iload_n 0, 1) := by decide +kernel
theorem dX3_needRange_6 : decode cX3_needRange 6 = .ok (.iload_n 2, 1) := by decide +kernel
theorem dX3_needRange_7 : decode cX3_needRange 7 = .ok (.if_icmp .le 13, 3) := by decide +kernel
theorem dX3_needRange_10 : decode cX3_needRange 10 = .ok (.new 128, 3) := by decide +kernel
theorem dX3_needRange_13 : decode cX3_needRange 13 = .ok (.dup, 1) := by decide +kernel
theorem dX3_needRange_14 : decode cX3_needRange 14 = .ok (.ldc 208, 2) := by decide +kernel
theorem dX3_needRange_16 : decode cX3_needRange 16 = .ok (.invokespecial 132, 3) := by decide +kernel
theorem dX3_needRange_19 : decode cX3_needRange 19 = .ok (.athrow, 1) := by decide +kernel
theorem dX3_needRange_20 : decode cX3_needRange 20 = .ok (.return_, 1) := by decide +kernel
theorem dX3_needIndex_0 : decode cX3_needIndex 0 = .ok (.iload_n 0, 1) := by decide +kernel
theorem dX3_needIndex_1 : decode cX3_needIndex 1 = .ok (.ifCond .lt 8, 3) := by decide +kernel
theorem dX3_needIndex_4 : decode cX3_needIndex 4 = .ok (.iload_n 0, 1) := by decide +kernel
theorem dX3_needIndex_5 : decode cX3_needIndex 5 = .ok (.iload_n 1, 1) := by decide +kernel
theorem dX3_needIndex_6 : decode cX3_needIndex 6 = .ok (.if_icmp .lt 13, 3) := by decide +kernel
theorem dX3_needIndex_9 : decode cX3_needIndex 9 = .ok (.new 210, 3) := by decide +kernel
theorem dX3_needIndex_12 : decode cX3_needIndex 12 = .ok (.dup, 1) := by decide +kernel
theorem dX3_needIndex_13 : decode cX3_needIndex 13 = .ok (.ldc 212, 2) := by decide +kernel
theorem dX3_needIndex_15 : decode cX3_needIndex 15 = .ok (.invokespecial 214, 3) := by decide +kernel
theorem dX3_needIndex_18 : decode cX3_needIndex 18 = .ok (.athrow, 1) := by decide +kernel
theorem dX3_needIndex_19 : decode cX3_needIndex 19 = .ok (.return_, 1) := by decide +kernel
set_option maxRecDepth 20000 in
theorem ggX3_needSack_Jx4a65c_size_8abf5 : GoodIn wsX3_needSack wsJx4a65c_size_8abf5 := goodIn_r _ [9, 10, 36, 37, 38] (by decide +kernel) (by decide +kernel)
set_option maxRecDepth 20000 in
theorem gX3_needSack_Jx4a65c_size_8abf5 : GoodIn wsX3_needSack (wsV RX3 42 RJx4a65c yJx4a65c_size_8abf5 wsJx4a65c_size_8abf5) := goodIn_app (goodIn_of _ (by decide +kernel)) ggX3_needSack_Jx4a65c_size_8abf5
set_option maxRecDepth 20000 in
theorem ggX3_needSack_Jx4a65c_get_915e3 : GoodIn wsX3_needSack wsJx4a65c_get_915e3 := goodIn_r _ [14, 10, 15, 16, 17, 18, 19, 20, 21, 22, 23, 24, 25, 8, 26, 27, 36, 37, 38] (by decide +kernel) (by decide +kernel)
set_option maxRecDepth 20000 in
theorem gX3_needSack_Jx4a65c_get_915e3 : GoodIn wsX3_needSack (wsV RX3 154 RJx4a65c yJx4a65c_get_915e3 wsJx4a65c_get_915e3) := goodIn_app (goodIn_of _ (by decide +kernel)) ggX3_needSack_Jx4a65c_get_915e3
theorem dX3_needSack_0 : decode cX3_needSack 0 = .ok (.iload_n 1, 1) := by decide +kernel
theorem dX3_needSack_1 : decode cX3_needSack 1 = .ok (.ifCond .lt 14, 3) := by decide +kernel
theorem dX3_needSack_4 : decode cX3_needSack 4 = .ok (.iload_n 1, 1) := by decide +kernel
theorem dX3_needSack_5 : decode cX3_needSack 5 = .ok (.aload_n 0, 1) := by decide +kernel
theorem dX3_needSack_6 : decode cX3_needSack 6 = .ok (.getfield 12, 3) := by decide +kernel
theorem dX3_needSack_9 : decode cX3_needSack 9 = .ok (.invokevirtual 42, 3) := by decide +kernel
theorem dX3_needSack_12 : decode cX3_needSack 12 = .ok (.if_icmp .lt 13, 3) := by decide +kernel
theorem dX3_needSack_15 : decode cX3_needSack 15 = .ok (.new 210, 3) := by decide +kernel
theorem dX3_needSack_18 : decode cX3_needSack 18 = .ok (.dup, 1) := by decide +kernel
theorem dX3_needSack_19 : decode cX3_needSack 19 = .ok (.ldc 215, 2) := by decide +kernel
theorem dX3_needSack_21 : decode cX3_needSack 21 = .ok (.invokespecial 214, 3) := by decide +kernel
theorem dX3_needSack_24 : decode cX3_needSack 24 = .ok (.athrow, 1) := by decide +kernel
theorem dX3_needSack_25 : decode cX3_needSack 25 = .ok (.aload_n 0, 1) := by decide +kernel
theorem dX3_needSack_26 : decode cX3_needSack 26 = .ok (.getfield 12, 3) := by decide +kernel
theorem dX3_needSack_29 : decode cX3_needSack 29 = .ok (.iload_n 1, 1) := by decide +kernel
theorem dX3_needSack_30 : decode cX3_needSack 30 = .ok (.invokevirtual 154, 3) := by decide +kernel
theorem dX3_needSack_33 : decode cX3_needSack 33 = .ok (.checkcast 53, 3) := by decide +kernel
theorem dX3_needSack_36 : decode cX3_needSack 36 = .ok (.areturn, 1) := by decide +kernel
theorem dX3_needChamber_0 : decode cX3_needChamber 0 = .ok (.iload_n 1, 1) := by decide +kernel
theorem dX3_needChamber_1 : decode cX3_needChamber 1 = .ok (.ifCond .lt 12, 3) := by decide +kernel
theorem dX3_needChamber_4 : decode cX3_needChamber 4 = .ok (.iload_n 1, 1) := by decide +kernel
theorem dX3_needChamber_5 : decode cX3_needChamber 5 = .ok (.aload_n 0, 1) := by decide +kernel
theorem dX3_needChamber_6 : decode cX3_needChamber 6 = .ok (.getfield 21, 3) := by decide +kernel
theorem dX3_needChamber_9 : decode cX3_needChamber 9 = .ok (.arraylength, 1) := by decide +kernel
theorem dX3_needChamber_10 : decode cX3_needChamber 10 = .ok (.if_icmp .lt 13, 3) := by decide +kernel
theorem dX3_needChamber_13 : decode cX3_needChamber 13 = .ok (.new 210, 3) := by decide +kernel
theorem dX3_needChamber_16 : decode cX3_needChamber 16 = .ok (.dup, 1) := by decide +kernel
theorem dX3_needChamber_17 : decode cX3_needChamber 17 = .ok (.ldc 217, 2) := by decide +kernel
theorem dX3_needChamber_19 : decode cX3_needChamber 19 = .ok (.invokespecial 214, 3) := by decide +kernel
theorem dX3_needChamber_22 : decode cX3_needChamber 22 = .ok (.athrow, 1) := by decide +kernel
theorem dX3_needChamber_23 : decode cX3_needChamber 23 = .ok (.aload_n 0, 1) := by decide +kernel
theorem dX3_needChamber_24 : decode cX3_needChamber 24 = .ok (.getfield 21, 3) := by decide +kernel
theorem dX3_needChamber_27 : decode cX3_needChamber 27 = .ok (.iload_n 1, 1) := by decide +kernel
theorem dX3_needChamber_28 : decode cX3_needChamber 28 = .ok (.aaload, 1) := by decide +kernel
theorem dX3_needChamber_29 : decode cX3_needChamber 29 = .ok (.areturn, 1) := by decide +kernel
set_option maxRecDepth 20000 in
theorem ggX3_needTick_Jx4a65c_size_8abf5 : GoodIn wsX3_needTick wsJx4a65c_size_8abf5 := goodIn_r _ [9, 10, 36, 37, 38] (by decide +kernel) (by decide +kernel)
set_option maxRecDepth 20000 in
theorem gX3_needTick_Jx4a65c_size_8abf5 : GoodIn wsX3_needTick (wsV RX3 42 RJx4a65c yJx4a65c_size_8abf5 wsJx4a65c_size_8abf5) := goodIn_app (goodIn_of _ (by decide +kernel)) ggX3_needTick_Jx4a65c_size_8abf5
set_option maxRecDepth 20000 in
theorem ggX3_needTick_Jx4a65c_get_915e3 : GoodIn wsX3_needTick wsJx4a65c_get_915e3 := goodIn_r _ [14, 10, 15, 16, 17, 18, 19, 20, 21, 22, 23, 24, 25, 8, 26, 27, 36, 37, 38] (by decide +kernel) (by decide +kernel)
set_option maxRecDepth 20000 in
theorem gX3_needTick_Jx4a65c_get_915e3 : GoodIn wsX3_needTick (wsV RX3 154 RJx4a65c yJx4a65c_get_915e3 wsJx4a65c_get_915e3) := goodIn_app (goodIn_of _ (by decide +kernel)) ggX3_needTick_Jx4a65c_get_915e3
theorem dX3_needTick_0 : decode cX3_needTick 0 = .ok (.iload_n 1, 1) := by decide +kernel
theorem dX3_needTick_1 : decode cX3_needTick 1 = .ok (.ifCond .lt 14, 3) := by decide +kernel
theorem dX3_needTick_4 : decode cX3_needTick 4 = .ok (.iload_n 1, 1) := by decide +kernel
theorem dX3_needTick_5 : decode cX3_needTick 5 = .ok (.aload_n 0, 1) := by decide +kernel
theorem dX3_needTick_6 : decode cX3_needTick 6 = .ok (.getfield 16, 3) := by decide +kernel
theorem dX3_needTick_9 : decode cX3_needTick 9 = .ok (.invokevirtual 42, 3) := by decide +kernel
theorem dX3_needTick_12 : decode cX3_needTick 12 = .ok (.if_icmp .lt 13, 3) := by decide +kernel
theorem dX3_needTick_15 : decode cX3_needTick 15 = .ok (.new 210, 3) := by decide +kernel
theorem dX3_needTick_18 : decode cX3_needTick 18 = .ok (.dup, 1) := by decide +kernel
theorem dX3_needTick_19 : decode cX3_needTick 19 = .ok (.ldc 219, 2) := by decide +kernel
theorem dX3_needTick_21 : decode cX3_needTick 21 = .ok (.invokespecial 214, 3) := by decide +kernel
theorem dX3_needTick_24 : decode cX3_needTick 24 = .ok (.athrow, 1) := by decide +kernel
theorem dX3_needTick_25 : decode cX3_needTick 25 = .ok (.aload_n 0, 1) := by decide +kernel
theorem dX3_needTick_26 : decode cX3_needTick 26 = .ok (.getfield 16, 3) := by decide +kernel
theorem dX3_needTick_29 : decode cX3_needTick 29 = .ok (.iload_n 1, 1) := by decide +kernel
theorem dX3_needTick_30 : decode cX3_needTick 30 = .ok (.invokevirtual 154, 3) := by decide +kernel
theorem dX3_needTick_33 : decode cX3_needTick 33 = .ok (.checkcast 26, 3) := by decide +kernel
theorem dX3_needTick_36 : decode cX3_needTick 36 = .ok (.areturn, 1) := by decide +kernel
theorem dX3_needSquare_0 : decode cX3_needSquare 0 = .ok (.iload_n 1, 1) := by decide +kernel
theorem dX3_needSquare_1 : decode cX3_needSquare 1 = .ok (.ifCond .lt 20, 3) := by decide +kernel
theorem dX3_needSquare_4 : decode cX3_needSquare 4 = .ok (.iload_n 1, 1) := by decide +kernel
theorem dX3_needSquare_5 : decode cX3_needSquare 5 = .ok (.aload_n 0, 1) := by decide +kernel
theorem dX3_needSquare_6 : decode cX3_needSquare 6 = .ok (.getfield 122, 3) := by decide +kernel
theorem dX3_needSquare_9 : decode cX3_needSquare 9 = .ok (.if_icmp .ge 12, 3) := by decide +kernel
theorem dX3_needSquare_12 : decode cX3_needSquare 12 = .ok (.iload_n 1, 1) := by decide +kernel
theorem dX3_needSquare_13 : decode cX3_needSquare 13 = .ok (.aload_n 0, 1) := by decide +kernel
theorem dX3_needSquare_14 : decode cX3_needSquare 14 = .ok (.getfield 221, 3) := by decide +kernel
theorem dX3_needSquare_17 : decode cX3_needSquare 17 = .ok (.arraylength, 1) := by decide +kernel
theorem dX3_needSquare_18 : decode cX3_needSquare 18 = .ok (.if_icmp .lt 13, 3) := by decide +kernel
theorem dX3_needSquare_21 : decode cX3_needSquare 21 = .ok (.new 210, 3) := by decide +kernel
theorem dX3_needSquare_24 : decode cX3_needSquare 24 = .ok (.dup, 1) := by decide +kernel
theorem dX3_needSquare_25 : decode cX3_needSquare 25 = .ok (.ldc 224, 2) := by decide +kernel
theorem dX3_needSquare_27 : decode cX3_needSquare 27 = .ok (.invokespecial 214, 3) := by decide +kernel
theorem dX3_needSquare_30 : decode cX3_needSquare 30 = .ok (.athrow, 1) := by decide +kernel
theorem dX3_needSquare_31 : decode cX3_needSquare 31 = .ok (.aload_n 0, 1) := by decide +kernel
theorem dX3_needSquare_32 : decode cX3_needSquare 32 = .ok (.getfield 221, 3) := by decide +kernel
theorem dX3_needSquare_35 : decode cX3_needSquare 35 = .ok (.iload_n 1, 1) := by decide +kernel
theorem dX3_needSquare_36 : decode cX3_needSquare 36 = .ok (.aaload, 1) := by decide +kernel
theorem dX3_needSquare_37 : decode cX3_needSquare 37 = .ok (.areturn, 1) := by decide +kernel
set_option maxRecDepth 20000 in
theorem ggX3_moveByHand_X0_moveTo : GoodIn wsX3_moveByHand wsX0_moveTo := goodIn_r _ [9, 10, 2, 3, 4, 11, 12, 13, 8, 14, 15, 16, 17, 18, 19, 20, 21, 22] (by decide +kernel) (by decide +kernel)
set_option maxRecDepth 20000 in
theorem gX3_moveByHand_X0_moveTo : GoodIn wsX3_moveByHand (wsV RX3 229 RX0 yX0_moveTo wsX0_moveTo) := goodIn_app (goodIn_of _ (by decide +kernel)) ggX3_moveByHand_X0_moveTo
theorem dX3_moveByHand_0 : decode cX3_moveByHand 0 = .ok (.aload_n 0, 1) := by decide +kernel
theorem dX3_moveByHand_1 : decode cX3_moveByHand 1 = .ok (.aload_n 1, 1) := by decide +kernel
theorem dX3_moveByHand_2 : decode cX3_moveByHand 2 = .ok (.iload_n 2, 1) := by decide +kernel
theorem dX3_moveByHand_3 : decode cX3_moveByHand 3 = .ok (.sipush 300, 3) := by decide +kernel
theorem dX3_moveByHand_6 : decode cX3_moveByHand 6 = .ok (.aload_n 1, 1) := by decide +kernel
theorem dX3_moveByHand_7 : decode cX3_moveByHand 7 = .ok (.getfield 226, 3) := by decide +kernel
theorem dX3_moveByHand_10 : decode cX3_moveByHand 10 = .ok (.isub, 1) := by decide +kernel
theorem dX3_moveByHand_11 : decode cX3_moveByHand 11 = .ok (.invokestatic 106, 3) := by decide +kernel
theorem dX3_moveByHand_14 : decode cX3_moveByHand 14 = .ok (.bipush 6, 2) := by decide +kernel
theorem dX3_moveByHand_16 : decode cX3_moveByHand 16 = .ok (.invokevirtual 229, 3) := by decide +kernel
theorem dX3_moveByHand_19 : decode cX3_moveByHand 19 = .ok (.ireturn, 1) := by decide +kernel
set_option maxRecDepth 20000 in
theorem ggX3_countTells_Jx4a65c_size_8abf5 : GoodIn wsX3_countTells wsJx4a65c_size_8abf5 := goodIn_r _ [11, 12, 60, 61, 62] (by decide +kernel) (by decide +kernel)
set_option maxRecDepth 20000 in
theorem gX3_countTells_Jx4a65c_size_8abf5 : GoodIn wsX3_countTells (wsV RX3 42 RJx4a65c yJx4a65c_size_8abf5 wsJx4a65c_size_8abf5) := goodIn_app (goodIn_of _ (by decide +kernel)) ggX3_countTells_Jx4a65c_size_8abf5
set_option maxRecDepth 20000 in
theorem ggX3_countTells_X3_inSacks : GoodIn wsX3_countTells wsX3_inSacks := goodIn_r _ [17, 2, 18, 7, 8, 9, 10, 11, 12, 19, 20, 21, 22, 23, 24, 25, 26, 27, 28, 29, 30, 31, 32, 33, 34, 35, 52, 53, 54, 55, 56, 57, 58, 59, 63, 64, 65, 66, 60, 61, 62] (by decide +kernel) (by decide +kernel)
set_option maxRecDepth 20000 in
theorem gX3_countTells_X3_inSacks : GoodIn wsX3_countTells (wsV RX3 194 RX3 yX3_inSacks wsX3_inSacks) := goodIn_app (goodIn_of _ (by decide +kernel)) ggX3_countTells_X3_inSacks
set_option maxRecDepth 20000 in
theorem ggX3_countTells_X3_inChambers : GoodIn wsX3_countTells wsX3_inChambers := goodIn_r _ [39, 40, 52, 53, 54, 55, 56, 57, 58, 59, 65, 66] (by decide +kernel) (by decide +kernel)
set_option maxRecDepth 20000 in
theorem gX3_countTells_X3_inChambers : GoodIn wsX3_countTells (wsV RX3 197 RX3 yX3_inChambers wsX3_inChambers) := goodIn_app (goodIn_of _ (by decide +kernel)) ggX3_countTells_X3_inChambers
set_option maxRecDepth 20000 in
theorem ggX3_countTells_X3_inTicks : GoodIn wsX3_countTells wsX3_inTicks := goodIn_r _ [44, 3, 45, 7, 8, 9, 10, 11, 12, 19, 20, 21, 22, 23, 24, 25, 26, 27, 28, 29, 30, 31, 32, 33, 34, 35, 46, 47, 48, 49, 50, 51, 52, 53, 54, 55, 56, 57, 58, 59, 60, 61, 62, 67, 68, 69, 70, 71, 72, 73, 65, 66] (by decide +kernel) (by decide +kernel)
set_option maxRecDepth 20000 in
theorem gX3_countTells_X3_inTicks : GoodIn wsX3_countTells (wsV RX3 191 RX3 yX3_inTicks wsX3_inTicks) := goodIn_app (goodIn_of _ (by decide +kernel)) ggX3_countTells_X3_inTicks
theorem dX3_countTells_0 : decode cX3_countTells 0 = .ok (.iload_n 1, 1) := by decide +kernel
theorem dX3_countTells_1 : decode cX3_countTells 1 = .ok (.tableswitch 93 0 7 #[47, 52, 60, 68, 73, 78, 83, 88], 47) := by decide +kernel
theorem dX3_countTells_48 : decode cX3_countTells 48 = .ok (.aload_n 0, 1) := by decide +kernel
theorem dX3_countTells_49 : decode cX3_countTells 49 = .ok (.getfield 161, 3) := by decide +kernel
theorem dX3_countTells_52 : decode cX3_countTells 52 = .ok (.ireturn, 1) := by decide +kernel
theorem dX3_countTells_53 : decode cX3_countTells 53 = .ok (.aload_n 0, 1) := by decide +kernel
theorem dX3_countTells_54 : decode cX3_countTells 54 = .ok (.getfield 12, 3) := by decide +kernel
theorem dX3_countTells_57 : decode cX3_countTells 57 = .ok (.invokevirtual 42, 3) := by decide +kernel
theorem dX3_countTells_60 : decode cX3_countTells 60 = .ok (.ireturn, 1) := by decide +kernel
theorem dX3_countTells_61 : decode cX3_countTells 61 = .ok (.aload_n 0, 1) := by decide +kernel
theorem dX3_countTells_62 : decode cX3_countTells 62 = .ok (.getfield 16, 3) := by decide +kernel
theorem dX3_countTells_65 : decode cX3_countTells 65 = .ok (.invokevirtual 42, 3) := by decide +kernel
theorem dX3_countTells_68 : decode cX3_countTells 68 = .ok (.ireturn, 1) := by decide +kernel
theorem dX3_countTells_69 : decode cX3_countTells 69 = .ok (.aload_n 0, 1) := by decide +kernel
theorem dX3_countTells_70 : decode cX3_countTells 70 = .ok (.invokevirtual 194, 3) := by decide +kernel
theorem dX3_countTells_73 : decode cX3_countTells 73 = .ok (.ireturn, 1) := by decide +kernel
theorem dX3_countTells_74 : decode cX3_countTells 74 = .ok (.aload_n 0, 1) := by decide +kernel
theorem dX3_countTells_75 : decode cX3_countTells 75 = .ok (.invokevirtual 197, 3) := by decide +kernel
theorem dX3_countTells_78 : decode cX3_countTells 78 = .ok (.ireturn, 1) := by decide +kernel
theorem dX3_countTells_79 : decode cX3_countTells 79 = .ok (.aload_n 0, 1) := by decide +kernel
theorem dX3_countTells_80 : decode cX3_countTells 80 = .ok (.invokevirtual 191, 3) := by decide +kernel
theorem dX3_countTells_83 : decode cX3_countTells 83 = .ok (.ireturn, 1) := by decide +kernel
theorem dX3_countTells_84 : decode cX3_countTells 84 = .ok (.aload_n 0, 1) := by decide +kernel
theorem dX3_countTells_85 : decode cX3_countTells 85 = .ok (.getfield 99, 3) := by decide +kernel
theorem dX3_countTells_88 : decode cX3_countTells 88 = .ok (.ireturn, 1) := by decide +kernel
theorem dX3_countTells_89 : decode cX3_countTells 89 = .ok (.aload_n 0, 1) := by decide +kernel
theorem dX3_countTells_90 : decode cX3_countTells 90 = .ok (.getfield 164, 3) := by decide +kernel
theorem dX3_countTells_93 : decode cX3_countTells 93 = .ok (.ireturn, 1) := by decide +kernel
theorem dX3_countTells_94 : decode cX3_countTells 94 = .ok (.aload_n 0, 1) := by decide +kernel
theorem dX3_countTells_95 : decode cX3_countTells 95 = .ok (.getfield 35, 3) := by decide +kernel
theorem dX3_countTells_98 : decode cX3_countTells 98 = .ok (.ireturn, 1) := by decide +kernel
set_option maxRecDepth 20000 in
theorem ggX3_inSacks_Jx4a65c_size_8abf5 : GoodIn wsX3_inSacks wsJx4a65c_size_8abf5 := goodIn_r _ [7, 8, 38, 39, 40] (by decide +kernel) (by decide +kernel)
set_option maxRecDepth 20000 in
theorem gX3_inSacks_Jx4a65c_size_8abf5 : GoodIn wsX3_inSacks (wsV RX3 42 RJx4a65c yJx4a65c_size_8abf5 wsJx4a65c_size_8abf5) := goodIn_app (goodIn_of _ (by decide +kernel)) ggX3_inSacks_Jx4a65c_size_8abf5
set_option maxRecDepth 20000 in
theorem ggX3_inSacks_Jx4a65c_get_915e3 : GoodIn wsX3_inSacks wsJx4a65c_get_915e3 := goodIn_r _ [12, 8, 13, 14, 15, 16, 17, 18, 19, 20, 21, 22, 23, 6, 24, 25, 38, 39, 40] (by decide +kernel) (by decide +kernel)
set_option maxRecDepth 20000 in
theorem gX3_inSacks_Jx4a65c_get_915e3 : GoodIn wsX3_inSacks (wsV RX3 154 RJx4a65c yJx4a65c_get_915e3 wsJx4a65c_get_915e3) := goodIn_app (goodIn_of _ (by decide +kernel)) ggX3_inSacks_Jx4a65c_get_915e3
theorem dX3_inSacks_0 : decode cX3_inSacks 0 = .ok (.iconst 0, 1) := by decide +kernel
theorem dX3_inSacks_1 : decode cX3_inSacks 1 = .ok (.istore_n 1, 1) := by decide +kernel
theorem dX3_inSacks_2 : decode cX3_inSacks 2 = .ok (.iconst 0, 1) := by decide +kernel
theorem dX3_inSacks_3 : decode cX3_inSacks 3 = .ok (.istore_n 2, 1) := by decide +kernel
theorem dX3_inSacks_4 : decode cX3_inSacks 4 = .ok (.iload_n 2, 1) := by decide +kernel
theorem dX3_inSacks_5 : decode cX3_inSacks 5 = .ok (.aload_n 0, 1) := by decide +kernel
theorem dX3_inSacks_6 : decode cX3_inSacks 6 = .ok (.getfield 12, 3) := by decide +kernel
theorem dX3_inSacks_9 : decode cX3_inSacks 9 = .ok (.invokevirtual 42, 3) := by decide +kernel
theorem dX3_inSacks_12 : decode cX3_inSacks 12 = .ok (.if_icmp .ge 29, 3) := by decide +kernel
theorem dX3_inSacks_15 : decode cX3_inSacks 15 = .ok (.iload_n 1, 1) := by decide +kernel
theorem dX3_inSacks_16 : decode cX3_inSacks 16 = .ok (.aload_n 0, 1) := by decide +kernel
theorem dX3_inSacks_17 : decode cX3_inSacks 17 = .ok (.getfield 12, 3) := by decide +kernel
theorem dX3_inSacks_20 : decode cX3_inSacks 20 = .ok (.iload_n 2, 1) := by decide +kernel
theorem dX3_inSacks_21 : decode cX3_inSacks 21 = .ok (.invokevirtual 154, 3) := by decide +kernel
theorem dX3_inSacks_24 : decode cX3_inSacks 24 = .ok (.checkcast 53, 3) := by decide +kernel
theorem dX3_inSacks_27 : decode cX3_inSacks 27 = .ok (.getfield 66, 3) := by decide +kernel
theorem dX3_inSacks_30 : decode cX3_inSacks 30 = .ok (.getfield 226, 3) := by decide +kernel
theorem dX3_inSacks_33 : decode cX3_inSacks 33 = .ok (.iadd, 1) := by decide +kernel
theorem dX3_inSacks_34 : decode cX3_inSacks 34 = .ok (.istore_n 1, 1) := by decide +kernel
theorem dX3_inSacks_35 : decode cX3_inSacks 35 = .ok (.iinc 2 1, 3) := by decide +kernel
theorem dX3_inSacks_38 : decode cX3_inSacks 38 = .ok (.goto (-34), 3) := by decide +kernel
theorem dX3_inSacks_41 : decode cX3_inSacks 41 = .ok (.iload_n 1, 1) := by decide +kernel
theorem dX3_inSacks_42 : decode cX3_inSacks 42 = .ok (.ireturn, 1) := by decide +kernel
theorem dX3_inChambers_0 : decode cX3_inChambers 0 = .ok (.iconst 0, 1) := by decide +kernel
theorem dX3_inChambers_1 : decode cX3_inChambers 1 = .ok (.istore_n 1, 1) := by decide +kernel
theorem dX3_inChambers_2 : decode cX3_inChambers 2 = .ok (.iconst 0, 1) := by decide +kernel
theorem dX3_inChambers_3 : decode cX3_inChambers 3 = .ok (.istore_n 2, 1) := by decide +kernel
theorem dX3_inChambers_4 : decode cX3_inChambers 4 = .ok (.iload_n 2, 1) := by decide +kernel
theorem dX3_inChambers_5 : decode cX3_inChambers 5 = .ok (.aload_n 0, 1) := by decide +kernel
theorem dX3_inChambers_6 : decode cX3_inChambers 6 = .ok (.getfield 21, 3) := by decide +kernel
theorem dX3_inChambers_9 : decode cX3_inChambers 9 = .ok (.arraylength, 1) := by decide +kernel
theorem dX3_inChambers_10 : decode cX3_inChambers 10 = .ok (.if_icmp .ge 21, 3) := by decide +kernel
theorem dX3_inChambers_13 : decode cX3_inChambers 13 = .ok (.iload_n 1, 1) := by decide +kernel
theorem dX3_inChambers_14 : decode cX3_inChambers 14 = .ok (.aload_n 0, 1) := by decide +kernel
theorem dX3_inChambers_15 : decode cX3_inChambers 15 = .ok (.getfield 21, 3) := by decide +kernel
theorem dX3_inChambers_18 : decode cX3_inChambers 18 = .ok (.iload_n 2, 1) := by decide +kernel
theorem dX3_inChambers_19 : decode cX3_inChambers 19 = .ok (.aaload, 1) := by decide +kernel
theorem dX3_inChambers_20 : decode cX3_inChambers 20 = .ok (.getfield 226, 3) := by decide +kernel
theorem dX3_inChambers_23 : decode cX3_inChambers 23 = .ok (.iadd, 1) := by decide +kernel
theorem dX3_inChambers_24 : decode cX3_inChambers 24 = .ok (.istore_n 1, 1) := by decide +kernel
theorem dX3_inChambers_25 : decode cX3_inChambers 25 = .ok (.iinc 2 1, 3) := by decide +kernel
theorem dX3_inChambers_28 : decode cX3_inChambers 28 = .ok (.goto (-24), 3) := by decide +kernel
theorem dX3_inChambers_31 : decode cX3_inChambers 31 = .ok (.iload_n 1, 1) := by decide +kernel
theorem dX3_inChambers_32 : decode cX3_inChambers 32 = .ok (.ireturn, 1) := by decide +kernel
set_option maxRecDepth 20000 in
theorem ggX3_inTicks_Jx4a65c_size_8abf5 : GoodIn wsX3_inTicks wsJx4a65c_size_8abf5 := goodIn_r _ [7, 8, 40, 41, 42] (by decide +kernel) (by decide +kernel)
set_option maxRecDepth 20000 in
theorem gX3_inTicks_Jx4a65c_size_8abf5 : GoodIn wsX3_inTicks (wsV RX3 42 RJx4a65c yJx4a65c_size_8abf5 wsJx4a65c_size_8abf5) := goodIn_app (goodIn_of _ (by decide +kernel)) ggX3_inTicks_Jx4a65c_size_8abf5
set_option maxRecDepth 20000 in
theorem ggX3_inTicks_Jx4a65c_get_915e3 : GoodIn wsX3_inTicks wsJx4a65c_get_915e3 := goodIn_r _ [12, 8, 13, 14, 15, 16, 17, 18, 19, 20, 21, 22, 23, 6, 24, 25, 40, 41, 42] (by decide +kernel) (by decide +kernel)
set_option maxRecDepth 20000 in
theorem gX3_inTicks_Jx4a65c_get_915e3 : GoodIn wsX3_inTicks (wsV RX3 154 RJx4a65c yJx4a65c_get_915e3 wsJx4a65c_get_915e3) := goodIn_app (goodIn_of _ (by decide +kernel)) ggX3_inTicks_Jx4a65c_get_915e3
set_option maxRecDepth 20000 in
theorem ggX3_inTicks_X2_feathers : GoodIn wsX3_inTicks wsX2_feathers := goodIn_r _ [30, 31, 43, 44, 45, 46, 47, 48, 49, 50, 51] (by decide +kernel) (by decide +kernel)
set_option maxRecDepth 20000 in
theorem gX3_inTicks_X2_feathers : GoodIn wsX3_inTicks (wsV RX3 174 RX2 yX2_feathers wsX2_feathers) := goodIn_app (goodIn_of _ (by decide +kernel)) ggX3_inTicks_X2_feathers
theorem dX3_inTicks_0 : decode cX3_inTicks 0 = .ok (.iconst 0, 1) := by decide +kernel
theorem dX3_inTicks_1 : decode cX3_inTicks 1 = .ok (.istore_n 1, 1) := by decide +kernel
theorem dX3_inTicks_2 : decode cX3_inTicks 2 = .ok (.iconst 0, 1) := by decide +kernel
theorem dX3_inTicks_3 : decode cX3_inTicks 3 = .ok (.istore_n 2, 1) := by decide +kernel
theorem dX3_inTicks_4 : decode cX3_inTicks 4 = .ok (.iload_n 2, 1) := by decide +kernel
theorem dX3_inTicks_5 : decode cX3_inTicks 5 = .ok (.aload_n 0, 1) := by decide +kernel
theorem dX3_inTicks_6 : decode cX3_inTicks 6 = .ok (.getfield 16, 3) := by decide +kernel
theorem dX3_inTicks_9 : decode cX3_inTicks 9 = .ok (.invokevirtual 42, 3) := by decide +kernel
theorem dX3_inTicks_12 : decode cX3_inTicks 12 = .ok (.if_icmp .ge 26, 3) := by decide +kernel
theorem dX3_inTicks_15 : decode cX3_inTicks 15 = .ok (.iload_n 1, 1) := by decide +kernel
theorem dX3_inTicks_16 : decode cX3_inTicks 16 = .ok (.aload_n 0, 1) := by decide +kernel
theorem dX3_inTicks_17 : decode cX3_inTicks 17 = .ok (.getfield 16, 3) := by decide +kernel
theorem dX3_inTicks_20 : decode cX3_inTicks 20 = .ok (.iload_n 2, 1) := by decide +kernel
theorem dX3_inTicks_21 : decode cX3_inTicks 21 = .ok (.invokevirtual 154, 3) := by decide +kernel
theorem dX3_inTicks_24 : decode cX3_inTicks 24 = .ok (.checkcast 26, 3) := by decide +kernel
theorem dX3_inTicks_27 : decode cX3_inTicks 27 = .ok (.invokevirtual 174, 3) := by decide +kernel
theorem dX3_inTicks_30 : decode cX3_inTicks 30 = .ok (.iadd, 1) := by decide +kernel
theorem dX3_inTicks_31 : decode cX3_inTicks 31 = .ok (.istore_n 1, 1) := by decide +kernel
theorem dX3_inTicks_32 : decode cX3_inTicks 32 = .ok (.iinc 2 1, 3) := by decide +kernel
theorem dX3_inTicks_35 : decode cX3_inTicks 35 = .ok (.goto (-31), 3) := by decide +kernel
theorem dX3_inTicks_38 : decode cX3_inTicks 38 = .ok (.iload_n 1, 1) := by decide +kernel
theorem dX3_inTicks_39 : decode cX3_inTicks 39 = .ok (.ireturn, 1) := by decide +kernel
