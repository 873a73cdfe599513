theorem dL_below_0 : decode cL_below 0 = .ok (.iload_n 0, 1) := by decide +kernel
theorem dL_below_1 : decode cL_below 1 = .ok (.ldc 7, 2) := by decide +kernel
theorem dL_below_3 : decode cL_below 3 = .ok (.iand, 1) := by decide +kernel
theorem dL_below_4 : decode cL_below 4 = .ok (.iload_n 1, 1) := by decide +kernel
theorem dL_below_5 : decode cL_below 5 = .ok (.irem, 1) := by decide +kernel
theorem dL_below_6 : decode cL_below 6 = .ok (.ireturn, 1) := by decide +kernel
theorem dL_cell_0 : decode cL_cell 0 = .ok (.iload_n 1, 1) := by decide +kernel
theorem dL_cell_1 : decode cL_cell 1 = .ok (.aload_n 0, 1) := by decide +kernel
theorem dL_cell_2 : decode cL_cell 2 = .ok (.arraylength, 1) := by decide +kernel
theorem dL_cell_3 : decode cL_cell 3 = .ok (.if_icmp .ge 9, 3) := by decide +kernel
theorem dL_cell_6 : decode cL_cell 6 = .ok (.aload_n 0, 1) := by decide +kernel
theorem dL_cell_7 : decode cL_cell 7 = .ok (.iload_n 1, 1) := by decide +kernel
theorem dL_cell_8 : decode cL_cell 8 = .ok (.iaload, 1) := by decide +kernel
theorem dL_cell_9 : decode cL_cell 9 = .ok (.goto 9, 3) := by decide +kernel
theorem dL_cell_12 : decode cL_cell 12 = .ok (.ldc 8, 2) := by decide +kernel
theorem dL_cell_14 : decode cL_cell 14 = .ok (.iload_n 1, 1) := by decide +kernel
theorem dL_cell_15 : decode cL_cell 15 = .ok (.iconst 3, 1) := by decide +kernel
theorem dL_cell_16 : decode cL_cell 16 = .ok (.iadd, 1) := by decide +kernel
theorem dL_cell_17 : decode cL_cell 17 = .ok (.imul, 1) := by decide +kernel
theorem dL_cell_18 : decode cL_cell 18 = .ok (.ireturn, 1) := by decide +kernel
set_option maxRecDepth 20000 in
theorem ggL_build_X4_init : GoodIn wsL_build wsX4_init := goodIn_r _ [6, 7, 8, 9, 10, 11, 12, 13, 14, 15, 16, 17, 18, 200, 201, 202, 203, 204, 205, 206, 207] (by decide +kernel) (by decide +kernel)
set_option maxRecDepth 20000 in
theorem gL_build_X4_init_n11 : GoodIn wsL_build (wsX4_init) := ggL_build_X4_init
set_option maxRecDepth 20000 in
theorem ggL_build_L_cell : GoodIn wsL_build wsL_cell := goodIn_r _ [22, 23] (by decide +kernel) (by decide +kernel)
set_option maxRecDepth 20000 in
theorem gL_build_L_cell : GoodIn wsL_build (va_wsS RL 12 yL_cell wsL_cell) := goodIn_app (goodIn_of _ (by decide +kernel)) ggL_build_L_cell
set_option maxRecDepth 20000 in
theorem ggL_build_L_below : GoodIn wsL_build wsL_below := goodIn_r _ [26, 27] (by decide +kernel) (by decide +kernel)
set_option maxRecDepth 20000 in
theorem gL_build_L_below : GoodIn wsL_build (va_wsS RL 18 yL_below wsL_below) := goodIn_app (goodIn_of _ (by decide +kernel)) ggL_build_L_below
set_option maxRecDepth 20000 in
theorem ggL_build_X3_addSack : GoodIn wsL_build wsX3_addSack := goodIn_ca (goodIn_ca (goodIn_r _ [32, 33, 34, 35, 36, 37, 38, 39, 40, 31, 41, 42, 43, 44, 45, 46, 47, 48, 49, 50, 51, 52, 53, 8, 9, 54, 55, 56, 57, 58, 59, 60, 61, 62, 12, 63, 64, 65, 66, 67, 68, 69, 70, 71, 72, 73, 74, 75, 76, 77, 78, 79, 80, 81, 82, 83, 84, 85, 86, 87, 88, 89, 90, 91, 92, 93, 94, 95, 96, 97, 98, 99, 100, 101, 102, 103, 104, 105, 106, 107, 108, 109, 110, 111, 112, 113, 114, 115, 116, 117, 208, 209, 210, 211, 212, 213, 214, 215, 216, 217, 218, 219, 220, 221, 222] (by decide +kernel) (by decide +kernel)) (goodIn_sub (fun _ h => List.mem_cons_of_mem _ (List.mem_append_left _ (List.mem_append_left _ (List.mem_append_right _ h)))) (by decide +kernel))) (goodIn_sub (fun _ h => List.mem_cons_of_mem _ (List.mem_append_left _ (List.mem_append_right _ h))) (by decide +kernel))
set_option maxRecDepth 20000 in
theorem gL_build_X3_addSack : GoodIn wsL_build (wsV RL 22 RX3 yX3_addSack wsX3_addSack) := goodIn_app (goodIn_of _ (by decide +kernel)) ggL_build_X3_addSack
set_option maxRecDepth 20000 in
theorem ggL_build_X4_sack : GoodIn wsL_build wsX4_sack := goodIn_r _ [121, 11, 10, 12, 13, 200, 201, 202, 203, 204, 205, 206, 207] (by decide +kernel) (by decide +kernel)
set_option maxRecDepth 20000 in
theorem gL_build_X4_sack : GoodIn wsL_build (wsV RL 28 RX4 yX4_sack wsX4_sack) := goodIn_app (goodIn_of _ (by decide +kernel)) ggL_build_X4_sack
set_option maxRecDepth 20000 in
theorem ggL_build_X3_put : GoodIn wsL_build wsX3_put := goodIn_ca (goodIn_ca (goodIn_ca (goodIn_r _ [125, 33, 34, 126, 127, 128, 31, 129, 130, 131, 35, 132, 44, 45, 46, 47, 48, 49, 133, 134, 135, 136, 137, 138, 139, 140, 141, 142, 143, 144, 145, 146, 147, 148, 70, 149, 150, 151, 39, 40, 41, 42, 43, 152, 153, 154, 56, 155, 63, 156, 157, 158, 159, 160, 216, 217, 208, 209, 210, 211, 212, 213, 214, 215, 218, 219, 220, 221, 222] (by decide +kernel) (by decide +kernel)) (goodIn_sub (fun _ h => List.mem_cons_of_mem _ (List.mem_append_left _ (List.mem_append_left _ (List.mem_append_right _ h)))) (by decide +kernel))) (goodIn_sub (fun _ h => List.mem_cons_of_mem _ (List.mem_append_right _ h)) (by decide +kernel))) (goodIn_sub (fun _ h => List.mem_cons_of_mem _ (List.mem_append_left _ (List.mem_append_right _ h))) (by decide +kernel))
set_option maxRecDepth 20000 in
theorem gL_build_X3_put : GoodIn wsL_build (wsV RL 36 RX3 yX3_put wsX3_put) := goodIn_app (goodIn_of _ (by decide +kernel)) ggL_build_X3_put
set_option maxRecDepth 20000 in
theorem ggL_build_X3_addTick : GoodIn wsL_build wsX3_addTick := goodIn_ca (goodIn_ca (goodIn_r _ [164, 33, 34, 165, 166, 167, 168, 39, 40, 31, 41, 42, 43, 44, 45, 46, 47, 48, 49, 169, 170, 171, 172, 8, 9, 173, 174, 175, 176, 177, 178, 55, 56, 179, 180, 12, 181, 182, 60, 61, 62, 63, 64, 65, 66, 67, 68, 69, 70, 71, 72, 73, 74, 75, 76, 77, 78, 79, 80, 81, 82, 83, 84, 85, 86, 87, 88, 89, 90, 91, 92, 93, 94, 95, 96, 97, 98, 99, 100, 101, 102, 103, 104, 105, 106, 107, 108, 109, 110, 111, 112, 113, 114, 115, 116, 117, 208, 209, 210, 211, 212, 213, 214, 215, 223, 224, 225, 226, 227, 228, 229, 218, 219, 220, 221, 222] (by decide +kernel) (by decide +kernel)) (goodIn_sub (fun _ h => List.mem_cons_of_mem _ (List.mem_append_left _ (List.mem_append_left _ (List.mem_append_right _ h)))) (by decide +kernel))) (goodIn_sub (fun _ h => List.mem_cons_of_mem _ (List.mem_append_left _ (List.mem_append_right _ h))) (by decide +kernel))
set_option maxRecDepth 20000 in
theorem gL_build_X3_addTick : GoodIn wsL_build (wsV RL 40 RX3 yX3_addTick wsX3_addTick) := goodIn_app (goodIn_of _ (by decide +kernel)) ggL_build_X3_addTick
set_option maxRecDepth 20000 in
theorem ggL_build_X4_tick : GoodIn wsL_build wsX4_tick := goodIn_r _ [186, 18, 17, 187, 188, 189, 190, 191, 192, 8, 9, 193, 194, 195, 196, 12, 197, 198, 179, 199, 200, 201, 202, 203, 204, 205, 206, 207, 230, 231, 232, 233, 234] (by decide +kernel) (by decide +kernel)
set_option maxRecDepth 20000 in
theorem gL_build_X4_tick : GoodIn wsL_build (wsV RL 43 RX4 yX4_tick wsX4_tick) := goodIn_app (goodIn_of _ (by decide +kernel)) ggL_build_X4_tick
theorem dL_build_0 : decode cL_build 0 = .ok (.new 9, 3) := by decide +kernel
theorem dL_build_3 : decode cL_build 3 = .ok (.dup, 1) := by decide +kernel
theorem dL_build_4 : decode cL_build 4 = .ok (.invokespecial 11, 3) := by decide +kernel
theorem dL_build_7 : decode cL_build 7 = .ok (.astore_n 2, 1) := by decide +kernel
theorem dL_build_8 : decode cL_build 8 = .ok (.iconst 1, 1) := by decide +kernel
theorem dL_build_9 : decode cL_build 9 = .ok (.aload_n 1, 1) := by decide +kernel
theorem dL_build_10 : decode cL_build 10 = .ok (.iconst 0, 1) := by decide +kernel
theorem dL_build_11 : decode cL_build 11 = .ok (.invokestatic 12, 3) := by decide +kernel
theorem dL_build_14 : decode cL_build 14 = .ok (.iconst 4, 1) := by decide +kernel
theorem dL_build_15 : decode cL_build 15 = .ok (.invokestatic 18, 3) := by decide +kernel
theorem dL_build_18 : decode cL_build 18 = .ok (.iadd, 1) := by decide +kernel
theorem dL_build_19 : decode cL_build 19 = .ok (.istore_n 3, 1) := by decide +kernel
theorem dL_build_20 : decode cL_build 20 = .ok (.iconst 0, 1) := by decide +kernel
theorem dL_build_21 : decode cL_build 21 = .ok (.istore 4, 2) := by decide +kernel
theorem dL_build_23 : decode cL_build 23 = .ok (.iload 4, 2) := by decide +kernel
theorem dL_build_25 : decode cL_build 25 = .ok (.iload_n 3, 1) := by decide +kernel
theorem dL_build_26 : decode cL_build 26 = .ok (.if_icmp .ge 119, 3) := by decide +kernel
theorem dL_build_29 : decode cL_build 29 = .ok (.aload_n 1, 1) := by decide +kernel
theorem dL_build_30 : decode cL_build 30 = .ok (.iconst 1, 1) := by decide +kernel
theorem dL_build_31 : decode cL_build 31 = .ok (.invokestatic 12, 3) := by decide +kernel
theorem dL_build_34 : decode cL_build 34 = .ok (.iconst 3, 1) := by decide +kernel
theorem dL_build_35 : decode cL_build 35 = .ok (.iload 4, 2) := by decide +kernel
theorem dL_build_37 : decode cL_build 37 = .ok (.imul, 1) := by decide +kernel
theorem dL_build_38 : decode cL_build 38 = .ok (.ishr, 1) := by decide +kernel
theorem dL_build_39 : decode cL_build 39 = .ok (.bipush 10, 2) := by decide +kernel
theorem dL_build_41 : decode cL_build 41 = .ok (.invokestatic 18, 3) := by decide +kernel
theorem dL_build_44 : decode cL_build 44 = .ok (.istore 5, 2) := by decide +kernel
theorem dL_build_46 : decode cL_build 46 = .ok (.aload_n 0, 1) := by decide +kernel
theorem dL_build_47 : decode cL_build 47 = .ok (.iload 5, 2) := by decide +kernel
theorem dL_build_49 : decode cL_build 49 = .ok (.invokevirtual 22, 3) := by decide +kernel
theorem dL_build_52 : decode cL_build 52 = .ok (.iload 4, 2) := by decide +kernel
theorem dL_build_54 : decode cL_build 54 = .ok (.if_icmp .eq 5, 3) := by decide +kernel
theorem dL_build_57 : decode cL_build 57 = .ok (.aconst_null, 1) := by decide +kernel
theorem dL_build_58 : decode cL_build 58 = .ok (.areturn, 1) := by decide +kernel
theorem dL_build_59 : decode cL_build 59 = .ok (.aload_n 2, 1) := by decide +kernel
theorem dL_build_60 : decode cL_build 60 = .ok (.iload 5, 2) := by decide +kernel
theorem dL_build_62 : decode cL_build 62 = .ok (.invokevirtual 28, 3) := by decide +kernel
theorem dL_build_65 : decode cL_build 65 = .ok (.iconst 0, 1) := by decide +kernel
theorem dL_build_66 : decode cL_build 66 = .ok (.istore 6, 2) := by decide +kernel
theorem dL_build_68 : decode cL_build 68 = .ok (.iload 6, 2) := by decide +kernel
theorem dL_build_70 : decode cL_build 70 = .ok (.bipush 6, 2) := by decide +kernel
theorem dL_build_72 : decode cL_build 72 = .ok (.if_icmp .ge 67, 3) := by decide +kernel
theorem dL_build_75 : decode cL_build 75 = .ok (.aload_n 1, 1) := by decide +kernel
theorem dL_build_76 : decode cL_build 76 = .ok (.iconst 2, 1) := by decide +kernel
theorem dL_build_77 : decode cL_build 77 = .ok (.iload 4, 2) := by decide +kernel
theorem dL_build_79 : decode cL_build 79 = .ok (.iadd, 1) := by decide +kernel
theorem dL_build_80 : decode cL_build 80 = .ok (.invokestatic 12, 3) := by decide +kernel
theorem dL_build_83 : decode cL_build 83 = .ok (.iconst 2, 1) := by decide +kernel
theorem dL_build_84 : decode cL_build 84 = .ok (.iload 6, 2) := by decide +kernel
theorem dL_build_86 : decode cL_build 86 = .ok (.imul, 1) := by decide +kernel
theorem dL_build_87 : decode cL_build 87 = .ok (.ishr, 1) := by decide +kernel
theorem dL_build_88 : decode cL_build 88 = .ok (.sipush 501, 3) := by decide +kernel
theorem dL_build_91 : decode cL_build 91 = .ok (.invokestatic 18, 3) := by decide +kernel
theorem dL_build_94 : decode cL_build 94 = .ok (.istore 7, 2) := by decide +kernel
theorem dL_build_96 : decode cL_build 96 = .ok (.iload 7, 2) := by decide +kernel
theorem dL_build_98 : decode cL_build 98 = .ok (.ifCond .ne 6, 3) := by decide +kernel
theorem dL_build_101 : decode cL_build 101 = .ok (.goto 32, 3) := by decide +kernel
theorem dL_build_104 : decode cL_build 104 = .ok (.aload_n 2, 1) := by decide +kernel
theorem dL_build_105 : decode cL_build 105 = .ok (.getfield 32, 3) := by decide +kernel
theorem dL_build_108 : decode cL_build 108 = .ok (.iload 4, 2) := by decide +kernel
theorem dL_build_110 : decode cL_build 110 = .ok (.aaload, 1) := by decide +kernel
theorem dL_build_111 : decode cL_build 111 = .ok (.iload 6, 2) := by decide +kernel
theorem dL_build_113 : decode cL_build 113 = .ok (.iload 7, 2) := by decide +kernel
theorem dL_build_115 : decode cL_build 115 = .ok (.iastore, 1) := by decide +kernel
theorem dL_build_116 : decode cL_build 116 = .ok (.aload_n 0, 1) := by decide +kernel
theorem dL_build_117 : decode cL_build 117 = .ok (.iload 4, 2) := by decide +kernel
theorem dL_build_119 : decode cL_build 119 = .ok (.iload 6, 2) := by decide +kernel
theorem dL_build_121 : decode cL_build 121 = .ok (.iload 7, 2) := by decide +kernel
theorem dL_build_123 : decode cL_build 123 = .ok (.invokevirtual 36, 3) := by decide +kernel
theorem dL_build_126 : decode cL_build 126 = .ok (.iload 7, 2) := by decide +kernel
theorem dL_build_128 : decode cL_build 128 = .ok (.if_icmp .eq 5, 3) := by decide +kernel
theorem dL_build_131 : decode cL_build 131 = .ok (.aconst_null, 1) := by decide +kernel
theorem dL_build_132 : decode cL_build 132 = .ok (.areturn, 1) := by decide +kernel
theorem dL_build_133 : decode cL_build 133 = .ok (.iinc 6 1, 3) := by decide +kernel
theorem dL_build_136 : decode cL_build 136 = .ok (.goto (-68), 3) := by decide +kernel
theorem dL_build_139 : decode cL_build 139 = .ok (.iinc 4 1, 3) := by decide +kernel
theorem dL_build_142 : decode cL_build 142 = .ok (.goto (-119), 3) := by decide +kernel
theorem dL_build_145 : decode cL_build 145 = .ok (.iconst 1, 1) := by decide +kernel
theorem dL_build_146 : decode cL_build 146 = .ok (.aload_n 1, 1) := by decide +kernel
theorem dL_build_147 : decode cL_build 147 = .ok (.bipush 6, 2) := by decide +kernel
theorem dL_build_149 : decode cL_build 149 = .ok (.invokestatic 12, 3) := by decide +kernel
theorem dL_build_152 : decode cL_build 152 = .ok (.iconst 3, 1) := by decide +kernel
theorem dL_build_153 : decode cL_build 153 = .ok (.invokestatic 18, 3) := by decide +kernel
theorem dL_build_156 : decode cL_build 156 = .ok (.iadd, 1) := by decide +kernel
theorem dL_build_157 : decode cL_build 157 = .ok (.istore 4, 2) := by decide +kernel
theorem dL_build_159 : decode cL_build 159 = .ok (.iconst 0, 1) := by decide +kernel
theorem dL_build_160 : decode cL_build 160 = .ok (.istore 5, 2) := by decide +kernel
theorem dL_build_162 : decode cL_build 162 = .ok (.iload 5, 2) := by decide +kernel
theorem dL_build_164 : decode cL_build 164 = .ok (.iload 4, 2) := by decide +kernel
theorem dL_build_166 : decode cL_build 166 = .ok (.if_icmp .ge 84, 3) := by decide +kernel
theorem dL_build_169 : decode cL_build 169 = .ok (.aload_n 1, 1) := by decide +kernel
theorem dL_build_170 : decode cL_build 170 = .ok (.bipush 7, 2) := by decide +kernel
theorem dL_build_172 : decode cL_build 172 = .ok (.invokestatic 12, 3) := by decide +kernel
theorem dL_build_175 : decode cL_build 175 = .ok (.iconst 4, 1) := by decide +kernel
theorem dL_build_176 : decode cL_build 176 = .ok (.iload 5, 2) := by decide +kernel
theorem dL_build_178 : decode cL_build 178 = .ok (.imul, 1) := by decide +kernel
theorem dL_build_179 : decode cL_build 179 = .ok (.ishr, 1) := by decide +kernel
theorem dL_build_180 : decode cL_build 180 = .ok (.istore 6, 2) := by decide +kernel
theorem dL_build_182 : decode cL_build 182 = .ok (.iconst 1, 1) := by decide +kernel
theorem dL_build_183 : decode cL_build 183 = .ok (.iload 6, 2) := by decide +kernel
theorem dL_build_185 : decode cL_build 185 = .ok (.iconst 4, 1) := by decide +kernel
theorem dL_build_186 : decode cL_build 186 = .ok (.invokestatic 18, 3) := by decide +kernel
theorem dL_build_189 : decode cL_build 189 = .ok (.iadd, 1) := by decide +kernel
theorem dL_build_190 : decode cL_build 190 = .ok (.istore 7, 2) := by decide +kernel
theorem dL_build_192 : decode cL_build 192 = .ok (.iconst 1, 1) := by decide +kernel
theorem dL_build_193 : decode cL_build 193 = .ok (.iload 6, 2) := by decide +kernel
theorem dL_build_195 : decode cL_build 195 = .ok (.iconst 2, 1) := by decide +kernel
theorem dL_build_196 : decode cL_build 196 = .ok (.ishr, 1) := by decide +kernel
theorem dL_build_197 : decode cL_build 197 = .ok (.iconst 4, 1) := by decide +kernel
theorem dL_build_198 : decode cL_build 198 = .ok (.invokestatic 18, 3) := by decide +kernel
theorem dL_build_201 : decode cL_build 201 = .ok (.iadd, 1) := by decide +kernel
theorem dL_build_202 : decode cL_build 202 = .ok (.istore 8, 2) := by decide +kernel
theorem dL_build_204 : decode cL_build 204 = .ok (.iconst 1, 1) := by decide +kernel
theorem dL_build_205 : decode cL_build 205 = .ok (.iload 6, 2) := by decide +kernel
theorem dL_build_207 : decode cL_build 207 = .ok (.iconst 3, 1) := by decide +kernel
theorem dL_build_208 : decode cL_build 208 = .ok (.ishr, 1) := by decide +kernel
theorem dL_build_209 : decode cL_build 209 = .ok (.bipush 9, 2) := by decide +kernel
theorem dL_build_211 : decode cL_build 211 = .ok (.invokestatic 18, 3) := by decide +kernel
theorem dL_build_214 : decode cL_build 214 = .ok (.iadd, 1) := by decide +kernel
theorem dL_build_215 : decode cL_build 215 = .ok (.istore 9, 2) := by decide +kernel
theorem dL_build_217 : decode cL_build 217 = .ok (.aload_n 0, 1) := by decide +kernel
theorem dL_build_218 : decode cL_build 218 = .ok (.iload 7, 2) := by decide +kernel
theorem dL_build_220 : decode cL_build 220 = .ok (.iload 8, 2) := by decide +kernel
theorem dL_build_222 : decode cL_build 222 = .ok (.iload 9, 2) := by decide +kernel
theorem dL_build_224 : decode cL_build 224 = .ok (.invokevirtual 40, 3) := by decide +kernel
theorem dL_build_227 : decode cL_build 227 = .ok (.iload 5, 2) := by decide +kernel
theorem dL_build_229 : decode cL_build 229 = .ok (.if_icmp .eq 5, 3) := by decide +kernel
theorem dL_build_232 : decode cL_build 232 = .ok (.aconst_null, 1) := by decide +kernel
theorem dL_build_233 : decode cL_build 233 = .ok (.areturn, 1) := by decide +kernel
theorem dL_build_234 : decode cL_build 234 = .ok (.aload_n 2, 1) := by decide +kernel
theorem dL_build_235 : decode cL_build 235 = .ok (.iload 7, 2) := by decide +kernel
theorem dL_build_237 : decode cL_build 237 = .ok (.iload 8, 2) := by decide +kernel
theorem dL_build_239 : decode cL_build 239 = .ok (.iload 9, 2) := by decide +kernel
theorem dL_build_241 : decode cL_build 241 = .ok (.invokevirtual 43, 3) := by decide +kernel
theorem dL_build_244 : decode cL_build 244 = .ok (.iinc 5 1, 3) := by decide +kernel
theorem dL_build_247 : decode cL_build 247 = .ok (.goto (-85), 3) := by decide +kernel
theorem dL_build_250 : decode cL_build 250 = .ok (.aload_n 2, 1) := by decide +kernel
theorem dL_build_251 : decode cL_build 251 = .ok (.areturn, 1) := by decide +kernel
set_option maxRecDepth 20000 in
theorem ggL_act_L_below : GoodIn wsL_act wsL_below := goodIn_r _ [18, 19] (by decide +kernel) (by decide +kernel)
set_option maxRecDepth 20000 in
theorem gL_act_L_below : GoodIn wsL_act (va_wsS RL 18 yL_below wsL_below) := goodIn_app (goodIn_of _ (by decide +kernel)) ggL_act_L_below
set_option maxRecDepth 20000 in
theorem ggL_act_X3_blow : GoodIn wsL_act wsX3_blow := goodIn_ca (goodIn_r _ [24, 25, 26, 27, 28, 29, 30, 23, 31, 32, 33, 34, 35, 36, 37, 38, 39, 40, 41, 42, 43, 44, 45, 46, 47, 48, 49, 50, 51, 52, 53, 54, 55, 56, 57, 58, 59, 60, 61, 62, 63, 64, 65, 66, 67, 68, 69, 70, 71, 72, 73, 74, 75, 76, 6, 7, 8, 77, 78, 79, 80, 81, 82, 222, 223, 224, 225, 226, 227, 228, 229, 230, 231, 232, 233, 234, 235, 236] (by decide +kernel) (by decide +kernel)) (goodIn_sub (fun _ h => List.mem_cons_of_mem _ (List.mem_append_left _ (List.mem_append_left _ (List.mem_append_right _ h)))) (by decide +kernel))
set_option maxRecDepth 20000 in
theorem gL_act_X3_blow : GoodIn wsL_act (wsV RL 56 RX3 yX3_blow wsX3_blow) := goodIn_app (goodIn_of _ (by decide +kernel)) ggL_act_X3_blow
set_option maxRecDepth 20000 in
theorem ggL_act_X4_blow : GoodIn wsL_act wsX4_blow := goodIn_r _ [87, 88, 89, 90, 91, 92, 93, 94, 86, 95, 96, 97, 98, 99, 6, 7, 8, 100, 101, 102, 103, 209, 210, 211, 212, 213, 214, 215, 216] (by decide +kernel) (by decide +kernel)
set_option maxRecDepth 20000 in
theorem gL_act_X4_blow : GoodIn wsL_act (wsV RL 59 RX4 yX4_blow wsX4_blow) := goodIn_app (goodIn_of _ (by decide +kernel)) ggL_act_X4_blow
set_option maxRecDepth 20000 in
theorem ggL_act_X3_sweep : GoodIn wsL_act wsX3_sweep := goodIn_ca (goodIn_r _ [107, 108, 6, 7, 8, 109, 110, 111, 23, 112, 32, 33, 25, 28, 29, 30, 31, 34, 35, 36, 37, 38, 39, 40, 41, 42, 43, 44, 45, 46, 47, 48, 49, 50, 51, 52, 53, 54, 55, 56, 57, 58, 82, 66, 67, 68, 69, 70, 77, 78, 79, 80, 81, 230, 231, 222, 223, 224, 225, 226, 227, 228, 229, 232, 233, 234, 235, 236] (by decide +kernel) (by decide +kernel)) (goodIn_sub (fun _ h => List.mem_cons_of_mem _ (List.mem_append_left _ (List.mem_append_left _ (List.mem_append_right _ h)))) (by decide +kernel))
set_option maxRecDepth 20000 in
theorem gL_act_X3_sweep : GoodIn wsL_act (wsV RL 68 RX3 yX3_sweep wsX3_sweep) := goodIn_app (goodIn_of _ (by decide +kernel)) ggL_act_X3_sweep
set_option maxRecDepth 20000 in
theorem ggL_act_X3_setWind : GoodIn wsL_act wsX3_setWind := goodIn_ca (goodIn_r _ [116, 26, 117, 118, 23, 119, 120, 121, 222, 223, 224, 225, 226, 227, 228, 229] (by decide +kernel) (by decide +kernel)) (goodIn_sub (fun _ h => List.mem_cons_of_mem _ (List.mem_append_left _ (List.mem_append_right _ h))) (by decide +kernel))
set_option maxRecDepth 20000 in
theorem gL_act_X3_setWind : GoodIn wsL_act (wsV RL 75 RX3 yX3_setWind wsX3_setWind) := goodIn_app (goodIn_of _ (by decide +kernel)) ggL_act_X3_setWind
set_option maxRecDepth 20000 in
theorem ggL_act_X3_dry : GoodIn wsL_act wsX3_dry := goodIn_ca (goodIn_ca (goodIn_r _ [125, 126, 12, 7, 13, 28, 29, 30, 23, 31, 32, 33, 34, 35, 36, 37, 38, 39, 40, 41, 42, 43, 44, 45, 46, 47, 48, 49, 50, 51, 52, 53, 54, 55, 56, 57, 58, 117, 118, 119, 120, 121, 230, 231, 222, 223, 224, 225, 226, 227, 228, 229, 232, 233, 234] (by decide +kernel) (by decide +kernel)) (goodIn_sub (fun _ h => List.mem_cons_of_mem _ (List.mem_append_left _ (List.mem_append_left _ (List.mem_append_right _ h)))) (by decide +kernel))) (goodIn_sub (fun _ h => List.mem_cons_of_mem _ (List.mem_append_left _ (List.mem_append_right _ h))) (by decide +kernel))
set_option maxRecDepth 20000 in
theorem gL_act_X3_dry : GoodIn wsL_act (wsV RL 85 RX3 yX3_dry wsX3_dry) := goodIn_app (goodIn_of _ (by decide +kernel)) ggL_act_X3_dry
set_option maxRecDepth 20000 in
theorem ggL_act_X3_put : GoodIn wsL_act wsX3_put := goodIn_ca (goodIn_ca (goodIn_ca (goodIn_r _ [130, 131, 132, 28, 29, 30, 23, 31, 32, 33, 34, 35, 36, 37, 38, 39, 40, 41, 42, 43, 44, 45, 46, 47, 48, 49, 50, 51, 52, 53, 54, 55, 56, 57, 58, 133, 134, 135, 117, 118, 119, 120, 121, 82, 66, 67, 68, 69, 70, 77, 78, 79, 80, 81, 230, 231, 222, 223, 224, 225, 226, 227, 228, 229, 232, 233, 234, 235, 236] (by decide +kernel) (by decide +kernel)) (goodIn_sub (fun _ h => List.mem_cons_of_mem _ (List.mem_append_right _ h)) (by decide +kernel))) (goodIn_sub (fun _ h => List.mem_cons_of_mem _ (List.mem_append_left _ (List.mem_append_left _ (List.mem_append_right _ h)))) (by decide +kernel))) (goodIn_sub (fun _ h => List.mem_cons_of_mem _ (List.mem_append_left _ (List.mem_append_right _ h))) (by decide +kernel))
set_option maxRecDepth 20000 in
theorem gL_act_X3_put : GoodIn wsL_act (wsV RL 36 RX3 yX3_put wsX3_put) := goodIn_app (goodIn_of _ (by decide +kernel)) ggL_act_X3_put
set_option maxRecDepth 20000 in
theorem ggL_act_X5_has : GoodIn wsL_act wsX5_has := goodIn_r _ [139, 140, 141, 217, 218, 219, 220, 221] (by decide +kernel) (by decide +kernel)
set_option maxRecDepth 20000 in
theorem gL_act_X5_has : GoodIn wsL_act (wsV RL 88 RX5 yX5_has wsX5_has) := goodIn_app (goodIn_of _ (by decide +kernel)) ggL_act_X5_has
set_option maxRecDepth 20000 in
theorem ggL_act_X3_sew : GoodIn wsL_act wsX3_sew := goodIn_ca (goodIn_ca (goodIn_r _ [145, 120, 121, 146, 147, 148, 23, 149, 32, 33, 150, 151, 36, 37, 38, 39, 40, 41, 42, 43, 44, 45, 46, 47, 48, 49, 50, 51, 52, 53, 54, 55, 56, 57, 58, 133, 134, 135, 152, 153, 154, 155, 156, 157, 158, 159, 160, 161, 162, 163, 164, 165, 166, 167, 168, 169, 170, 171, 172, 237, 238, 239, 240, 241, 242, 243, 222, 223, 224, 225, 226, 227, 228, 229, 232, 233, 234] (by decide +kernel) (by decide +kernel)) (goodIn_sub (fun _ h => List.mem_cons_of_mem _ (List.mem_append_left _ (List.mem_append_right _ h))) (by decide +kernel))) (goodIn_sub (fun _ h => List.mem_cons_of_mem _ (List.mem_append_left _ (List.mem_append_left _ (List.mem_append_right _ h)))) (by decide +kernel))
set_option maxRecDepth 20000 in
theorem gL_act_X3_sew : GoodIn wsL_act (wsV RL 96 RX3 yX3_sew wsX3_sew) := goodIn_app (goodIn_of _ (by decide +kernel)) ggL_act_X3_sew
set_option maxRecDepth 20000 in
theorem ggL_act_X5_open : GoodIn wsL_act wsX5_open := goodIn_r _ [176, 177, 178, 179, 180, 102, 181, 182, 183, 137, 138, 139, 140, 141, 217, 218, 219, 220, 221] (by decide +kernel) (by decide +kernel)
set_option maxRecDepth 20000 in
theorem gL_act_X5_open : GoodIn wsL_act (wsV RL 100 RX5 yX5_open wsX5_open) := goodIn_app (goodIn_of _ (by decide +kernel)) ggL_act_X5_open
set_option maxRecDepth 20000 in
theorem ggL_act_X3_shift : GoodIn wsL_act wsX3_shift := goodIn_ca (goodIn_ca (goodIn_r _ [187, 120, 121, 146, 147, 148, 23, 149, 32, 33, 150, 151, 36, 37, 38, 39, 40, 41, 42, 43, 44, 45, 46, 47, 48, 49, 50, 51, 52, 53, 54, 55, 56, 57, 58, 188, 189, 190, 117, 118, 119, 191, 192, 193, 108, 6, 7, 8, 194, 195, 196, 68, 197, 198, 199, 66, 67, 69, 70, 200, 78, 79, 80, 81, 222, 223, 224, 225, 226, 227, 228, 229, 232, 233, 234, 237, 238, 239, 240, 241, 242, 243, 235, 236] (by decide +kernel) (by decide +kernel)) (goodIn_sub (fun _ h => List.mem_cons_of_mem _ (List.mem_append_left _ (List.mem_append_right _ h))) (by decide +kernel))) (goodIn_sub (fun _ h => List.mem_cons_of_mem _ (List.mem_append_left _ (List.mem_append_left _ (List.mem_append_right _ h)))) (by decide +kernel))
set_option maxRecDepth 20000 in
theorem gL_act_X3_shift : GoodIn wsL_act (wsV RL 104 RX3 yX3_shift wsX3_shift) := goodIn_app (goodIn_of _ (by decide +kernel)) ggL_act_X3_shift
set_option maxRecDepth 20000 in
theorem ggL_act_X4_take : GoodIn wsL_act wsX4_take := goodIn_r _ [203, 99, 6, 7, 8, 100, 101, 102, 103] (by decide +kernel) (by decide +kernel)
set_option maxRecDepth 20000 in
theorem gL_act_X4_take : GoodIn wsL_act (va_wsS RL 108 yX4_take wsX4_take) := goodIn_app (goodIn_of _ (by decide +kernel)) ggL_act_X4_take
set_option maxRecDepth 20000 in
theorem ggL_act_X5_all : GoodIn wsL_act wsX5_all := goodIn_r _ [103] (by decide +kernel) (by decide +kernel)
set_option maxRecDepth 20000 in
theorem gL_act_X5_all : GoodIn wsL_act (va_wsS RL 112 yX5_all wsX5_all) := goodIn_app (goodIn_of _ (by decide +kernel)) ggL_act_X5_all
set_option maxRecDepth 20000 in
theorem ggL_act_X3_fill : GoodIn wsL_act wsX3_fill := goodIn_ca (goodIn_ca (goodIn_r _ [208, 146, 147, 148, 23, 149, 32, 33, 150, 151, 36, 37, 38, 39, 40, 41, 42, 43, 44, 45, 46, 47, 48, 49, 50, 51, 52, 53, 54, 55, 56, 57, 58, 188, 189, 190, 109, 110, 111, 112, 25, 117, 118, 119, 120, 121, 191, 192, 193, 108, 6, 7, 8, 194, 195, 196, 68, 197, 198, 199, 66, 67, 69, 70, 200, 78, 79, 80, 81, 222, 223, 224, 225, 226, 227, 228, 229, 232, 233, 234, 237, 238, 239, 240, 241, 242, 243, 235, 236] (by decide +kernel) (by decide +kernel)) (goodIn_sub (fun _ h => List.mem_cons_of_mem _ (List.mem_append_left _ (List.mem_append_left _ (List.mem_append_right _ h)))) (by decide +kernel))) (goodIn_sub (fun _ h => List.mem_cons_of_mem _ (List.mem_append_left _ (List.mem_append_right _ h))) (by decide +kernel))
set_option maxRecDepth 20000 in
theorem gL_act_X3_fill : GoodIn wsL_act (wsV RL 116 RX3 yX3_fill wsX3_fill) := goodIn_app (goodIn_of _ (by decide +kernel)) ggL_act_X3_fill
theorem dL_act_0 : decode cL_act 0 = .ok (.iload_n 2, 1) := by decide +kernel
theorem dL_act_1 : decode cL_act 1 = .ok (.aload_n 1, 1) := by decide +kernel
theorem dL_act_2 : decode cL_act 2 = .ok (.getfield 32, 3) := by decide +kernel
theorem dL_act_5 : decode cL_act 5 = .ok (.arraylength, 1) := by decide +kernel
theorem dL_act_6 : decode cL_act 6 = .ok (.invokestatic 18, 3) := by decide +kernel
theorem dL_act_9 : decode cL_act 9 = .ok (.istore_n 3, 1) := by decide +kernel
theorem dL_act_10 : decode cL_act 10 = .ok (.iload_n 2, 1) := by decide +kernel
theorem dL_act_11 : decode cL_act 11 = .ok (.iconst 3, 1) := by decide +kernel
theorem dL_act_12 : decode cL_act 12 = .ok (.ishr, 1) := by decide +kernel
theorem dL_act_13 : decode cL_act 13 = .ok (.iconst 5, 1) := by decide +kernel
theorem dL_act_14 : decode cL_act 14 = .ok (.invokestatic 18, 3) := by decide +kernel
theorem dL_act_17 : decode cL_act 17 = .ok (.istore 4, 2) := by decide +kernel
theorem dL_act_19 : decode cL_act 19 = .ok (.iload_n 2, 1) := by decide +kernel
theorem dL_act_20 : decode cL_act 20 = .ok (.iconst 2, 1) := by decide +kernel
theorem dL_act_21 : decode cL_act 21 = .ok (.ishr, 1) := by decide +kernel
theorem dL_act_22 : decode cL_act 22 = .ok (.aload_n 1, 1) := by decide +kernel
theorem dL_act_23 : decode cL_act 23 = .ok (.getfield 47, 3) := by decide +kernel
theorem dL_act_26 : decode cL_act 26 = .ok (.arraylength, 1) := by decide +kernel
theorem dL_act_27 : decode cL_act 27 = .ok (.invokestatic 18, 3) := by decide +kernel
theorem dL_act_30 : decode cL_act 30 = .ok (.istore 5, 2) := by decide +kernel
theorem dL_act_32 : decode cL_act 32 = .ok (.aload_n 1, 1) := by decide +kernel
theorem dL_act_33 : decode cL_act 33 = .ok (.getfield 47, 3) := by decide +kernel
theorem dL_act_36 : decode cL_act 36 = .ok (.iload 5, 2) := by decide +kernel
theorem dL_act_38 : decode cL_act 38 = .ok (.aaload, 1) := by decide +kernel
theorem dL_act_39 : decode cL_act 39 = .ok (.astore 6, 2) := by decide +kernel
theorem dL_act_41 : decode cL_act 41 = .ok (.iload_n 2, 1) := by decide +kernel
theorem dL_act_42 : decode cL_act 42 = .ok (.iconst 4, 1) := by decide +kernel
theorem dL_act_43 : decode cL_act 43 = .ok (.ishr, 1) := by decide +kernel
theorem dL_act_44 : decode cL_act 44 = .ok (.aload 6, 2) := by decide +kernel
theorem dL_act_46 : decode cL_act 46 = .ok (.getfield 51, 3) := by decide +kernel
theorem dL_act_49 : decode cL_act 49 = .ok (.arraylength, 1) := by decide +kernel
theorem dL_act_50 : decode cL_act 50 = .ok (.invokestatic 18, 3) := by decide +kernel
theorem dL_act_53 : decode cL_act 53 = .ok (.istore 7, 2) := by decide +kernel
theorem dL_act_55 : decode cL_act 55 = .ok (.iconst 1, 1) := by decide +kernel
theorem dL_act_56 : decode cL_act 56 = .ok (.iload_n 2, 1) := by decide +kernel
theorem dL_act_57 : decode cL_act 57 = .ok (.iconst 5, 1) := by decide +kernel
theorem dL_act_58 : decode cL_act 58 = .ok (.ishr, 1) := by decide +kernel
theorem dL_act_59 : decode cL_act 59 = .ok (.sipush 300, 3) := by decide +kernel
theorem dL_act_62 : decode cL_act 62 = .ok (.invokestatic 18, 3) := by decide +kernel
theorem dL_act_65 : decode cL_act 65 = .ok (.iadd, 1) := by decide +kernel
theorem dL_act_66 : decode cL_act 66 = .ok (.istore 8, 2) := by decide +kernel
theorem dL_act_68 : decode cL_act 68 = .ok (.iload_n 2, 1) := by decide +kernel
theorem dL_act_69 : decode cL_act 69 = .ok (.bipush 8, 2) := by decide +kernel
theorem dL_act_71 : decode cL_act 71 = .ok (.ishr, 1) := by decide +kernel
theorem dL_act_72 : decode cL_act 72 = .ok (.bipush 9, 2) := by decide +kernel
theorem dL_act_74 : decode cL_act 74 = .ok (.invokestatic 18, 3) := by decide +kernel
theorem dL_act_77 : decode cL_act 77 = .ok (.tableswitch 479 0 6 #[43, 62, 163, 202, 259, 330, 415], 43) := by decide +kernel
theorem dL_act_120 : decode cL_act 120 = .ok (.aload_n 0, 1) := by decide +kernel
theorem dL_act_121 : decode cL_act 121 = .ok (.iload_n 3, 1) := by decide +kernel
theorem dL_act_122 : decode cL_act 122 = .ok (.invokevirtual 56, 3) := by decide +kernel
theorem dL_act_125 : decode cL_act 125 = .ok (.aload_n 1, 1) := by decide +kernel
theorem dL_act_126 : decode cL_act 126 = .ok (.iload_n 3, 1) := by decide +kernel
theorem dL_act_127 : decode cL_act 127 = .ok (.invokevirtual 59, 3) := by decide +kernel
theorem dL_act_130 : decode cL_act 130 = .ok (.if_icmp .ne 7, 3) := by decide +kernel
theorem dL_act_133 : decode cL_act 133 = .ok (.iconst 1, 1) := by decide +kernel
theorem dL_act_134 : decode cL_act 134 = .ok (.goto 4, 3) := by decide +kernel
theorem dL_act_137 : decode cL_act 137 = .ok (.iconst 0, 1) := by decide +kernel
theorem dL_act_138 : decode cL_act 138 = .ok (.ireturn, 1) := by decide +kernel
theorem dL_act_139 : decode cL_act 139 = .ok (.iconst 0, 1) := by decide +kernel
theorem dL_act_140 : decode cL_act 140 = .ok (.istore 9, 2) := by decide +kernel
theorem dL_act_142 : decode cL_act 142 = .ok (.iconst 0, 1) := by decide +kernel
theorem dL_act_143 : decode cL_act 143 = .ok (.istore 10, 2) := by decide +kernel
theorem dL_act_145 : decode cL_act 145 = .ok (.iload 10, 2) := by decide +kernel
theorem dL_act_147 : decode cL_act 147 = .ok (.bipush 6, 2) := by decide +kernel
theorem dL_act_149 : decode cL_act 149 = .ok (.if_icmp .ge 73, 3) := by decide +kernel
theorem dL_act_152 : decode cL_act 152 = .ok (.sipush 500, 3) := by decide +kernel
theorem dL_act_155 : decode cL_act 155 = .ok (.aload_n 1, 1) := by decide +kernel
theorem dL_act_156 : decode cL_act 156 = .ok (.getfield 32, 3) := by decide +kernel
theorem dL_act_159 : decode cL_act 159 = .ok (.iload_n 3, 1) := by decide +kernel
theorem dL_act_160 : decode cL_act 160 = .ok (.aaload, 1) := by decide +kernel
theorem dL_act_161 : decode cL_act 161 = .ok (.iload 10, 2) := by decide +kernel
theorem dL_act_163 : decode cL_act 163 = .ok (.iaload, 1) := by decide +kernel
theorem dL_act_164 : decode cL_act 164 = .ok (.isub, 1) := by decide +kernel
theorem dL_act_165 : decode cL_act 165 = .ok (.aload_n 1, 1) := by decide +kernel
theorem dL_act_166 : decode cL_act 166 = .ok (.getfield 60, 3) := by decide +kernel
theorem dL_act_169 : decode cL_act 169 = .ok (.iload 4, 2) := by decide +kernel
theorem dL_act_171 : decode cL_act 171 = .ok (.aaload, 1) := by decide +kernel
theorem dL_act_172 : decode cL_act 172 = .ok (.iload 10, 2) := by decide +kernel
theorem dL_act_174 : decode cL_act 174 = .ok (.iaload, 1) := by decide +kernel
theorem dL_act_175 : decode cL_act 175 = .ok (.invokestatic 63, 3) := by decide +kernel
theorem dL_act_178 : decode cL_act 178 = .ok (.istore 11, 2) := by decide +kernel
theorem dL_act_180 : decode cL_act 180 = .ok (.aload_n 1, 1) := by decide +kernel
theorem dL_act_181 : decode cL_act 181 = .ok (.getfield 32, 3) := by decide +kernel
theorem dL_act_184 : decode cL_act 184 = .ok (.iload_n 3, 1) := by decide +kernel
theorem dL_act_185 : decode cL_act 185 = .ok (.aaload, 1) := by decide +kernel
theorem dL_act_186 : decode cL_act 186 = .ok (.iload 10, 2) := by decide +kernel
theorem dL_act_188 : decode cL_act 188 = .ok (.dup2, 1) := by decide +kernel
theorem dL_act_189 : decode cL_act 189 = .ok (.iaload, 1) := by decide +kernel
theorem dL_act_190 : decode cL_act 190 = .ok (.iload 11, 2) := by decide +kernel
theorem dL_act_192 : decode cL_act 192 = .ok (.iadd, 1) := by decide +kernel
theorem dL_act_193 : decode cL_act 193 = .ok (.iastore, 1) := by decide +kernel
theorem dL_act_194 : decode cL_act 194 = .ok (.aload_n 1, 1) := by decide +kernel
theorem dL_act_195 : decode cL_act 195 = .ok (.getfield 60, 3) := by decide +kernel
theorem dL_act_198 : decode cL_act 198 = .ok (.iload 4, 2) := by decide +kernel
theorem dL_act_200 : decode cL_act 200 = .ok (.aaload, 1) := by decide +kernel
theorem dL_act_201 : decode cL_act 201 = .ok (.iload 10, 2) := by decide +kernel
theorem dL_act_203 : decode cL_act 203 = .ok (.dup2, 1) := by decide +kernel
theorem dL_act_204 : decode cL_act 204 = .ok (.iaload, 1) := by decide +kernel
theorem dL_act_205 : decode cL_act 205 = .ok (.iload 11, 2) := by decide +kernel
theorem dL_act_207 : decode cL_act 207 = .ok (.isub, 1) := by decide +kernel
theorem dL_act_208 : decode cL_act 208 = .ok (.iastore, 1) := by decide +kernel
theorem dL_act_209 : decode cL_act 209 = .ok (.iload 9, 2) := by decide +kernel
theorem dL_act_211 : decode cL_act 211 = .ok (.iload 11, 2) := by decide +kernel
theorem dL_act_213 : decode cL_act 213 = .ok (.iadd, 1) := by decide +kernel
theorem dL_act_214 : decode cL_act 214 = .ok (.istore 9, 2) := by decide +kernel
theorem dL_act_216 : decode cL_act 216 = .ok (.iinc 10 1, 3) := by decide +kernel
theorem dL_act_219 : decode cL_act 219 = .ok (.goto (-74), 3) := by decide +kernel
theorem dL_act_222 : decode cL_act 222 = .ok (.aload_n 0, 1) := by decide +kernel
theorem dL_act_223 : decode cL_act 223 = .ok (.iload 4, 2) := by decide +kernel
theorem dL_act_225 : decode cL_act 225 = .ok (.iload_n 3, 1) := by decide +kernel
theorem dL_act_226 : decode cL_act 226 = .ok (.invokevirtual 68, 3) := by decide +kernel
theorem dL_act_229 : decode cL_act 229 = .ok (.iload 9, 2) := by decide +kernel
theorem dL_act_231 : decode cL_act 231 = .ok (.if_icmp .ne 7, 3) := by decide +kernel
theorem dL_act_234 : decode cL_act 234 = .ok (.iconst 1, 1) := by decide +kernel
theorem dL_act_235 : decode cL_act 235 = .ok (.goto 4, 3) := by decide +kernel
theorem dL_act_238 : decode cL_act 238 = .ok (.iconst 0, 1) := by decide +kernel
theorem dL_act_239 : decode cL_act 239 = .ok (.ireturn, 1) := by decide +kernel
theorem dL_act_240 : decode cL_act 240 = .ok (.aload_n 1, 1) := by decide +kernel
theorem dL_act_241 : decode cL_act 241 = .ok (.getfield 71, 3) := by decide +kernel
theorem dL_act_244 : decode cL_act 244 = .ok (.istore 10, 2) := by decide +kernel
theorem dL_act_246 : decode cL_act 246 = .ok (.aload_n 1, 1) := by decide +kernel
theorem dL_act_247 : decode cL_act 247 = .ok (.iconst 1, 1) := by decide +kernel
theorem dL_act_248 : decode cL_act 248 = .ok (.iload_n 2, 1) := by decide +kernel
theorem dL_act_249 : decode cL_act 249 = .ok (.iconst 3, 1) := by decide +kernel
theorem dL_act_250 : decode cL_act 250 = .ok (.ishr, 1) := by decide +kernel
theorem dL_act_251 : decode cL_act 251 = .ok (.bipush 20, 2) := by decide +kernel
theorem dL_act_253 : decode cL_act 253 = .ok (.invokestatic 18, 3) := by decide +kernel
theorem dL_act_256 : decode cL_act 256 = .ok (.iadd, 1) := by decide +kernel
theorem dL_act_257 : decode cL_act 257 = .ok (.putfield 71, 3) := by decide +kernel
theorem dL_act_260 : decode cL_act 260 = .ok (.aload_n 0, 1) := by decide +kernel
theorem dL_act_261 : decode cL_act 261 = .ok (.aload_n 1, 1) := by decide +kernel
theorem dL_act_262 : decode cL_act 262 = .ok (.getfield 71, 3) := by decide +kernel
theorem dL_act_265 : decode cL_act 265 = .ok (.invokevirtual 75, 3) := by decide +kernel
theorem dL_act_268 : decode cL_act 268 = .ok (.iload 10, 2) := by decide +kernel
theorem dL_act_270 : decode cL_act 270 = .ok (.if_icmp .ne 7, 3) := by decide +kernel
theorem dL_act_273 : decode cL_act 273 = .ok (.iconst 1, 1) := by decide +kernel
theorem dL_act_274 : decode cL_act 274 = .ok (.goto 4, 3) := by decide +kernel
theorem dL_act_277 : decode cL_act 277 = .ok (.iconst 0, 1) := by decide +kernel
theorem dL_act_278 : decode cL_act 278 = .ok (.ireturn, 1) := by decide +kernel
theorem dL_act_279 : decode cL_act 279 = .ok (.aload_n 1, 1) := by decide +kernel
theorem dL_act_280 : decode cL_act 280 = .ok (.getfield 78, 3) := by decide +kernel
theorem dL_act_283 : decode cL_act 283 = .ok (.iload_n 3, 1) := by decide +kernel
theorem dL_act_284 : decode cL_act 284 = .ok (.iconst 0, 1) := by decide +kernel
theorem dL_act_285 : decode cL_act 285 = .ok (.aload_n 1, 1) := by decide +kernel
theorem dL_act_286 : decode cL_act 286 = .ok (.getfield 78, 3) := by decide +kernel
theorem dL_act_289 : decode cL_act 289 = .ok (.iload_n 3, 1) := by decide +kernel
theorem dL_act_290 : decode cL_act 290 = .ok (.iaload, 1) := by decide +kernel
theorem dL_act_291 : decode cL_act 291 = .ok (.iconst 1, 1) := by decide +kernel
theorem dL_act_292 : decode cL_act 292 = .ok (.isub, 1) := by decide +kernel
theorem dL_act_293 : decode cL_act 293 = .ok (.iload_n 2, 1) := by decide +kernel
theorem dL_act_294 : decode cL_act 294 = .ok (.iconst 4, 1) := by decide +kernel
theorem dL_act_295 : decode cL_act 295 = .ok (.ishr, 1) := by decide +kernel
theorem dL_act_296 : decode cL_act 296 = .ok (.bipush 9, 2) := by decide +kernel
theorem dL_act_298 : decode cL_act 298 = .ok (.invokestatic 18, 3) := by decide +kernel
theorem dL_act_301 : decode cL_act 301 = .ok (.isub, 1) := by decide +kernel
theorem dL_act_302 : decode cL_act 302 = .ok (.invokestatic 82, 3) := by decide +kernel
theorem dL_act_305 : decode cL_act 305 = .ok (.iastore, 1) := by decide +kernel
theorem dL_act_306 : decode cL_act 306 = .ok (.aload_n 0, 1) := by decide +kernel
theorem dL_act_307 : decode cL_act 307 = .ok (.iload_n 3, 1) := by decide +kernel
theorem dL_act_308 : decode cL_act 308 = .ok (.iconst 1, 1) := by decide +kernel
theorem dL_act_309 : decode cL_act 309 = .ok (.iload_n 2, 1) := by decide +kernel
theorem dL_act_310 : decode cL_act 310 = .ok (.iconst 4, 1) := by decide +kernel
theorem dL_act_311 : decode cL_act 311 = .ok (.ishr, 1) := by decide +kernel
theorem dL_act_312 : decode cL_act 312 = .ok (.bipush 9, 2) := by decide +kernel
theorem dL_act_314 : decode cL_act 314 = .ok (.invokestatic 18, 3) := by decide +kernel
theorem dL_act_317 : decode cL_act 317 = .ok (.iadd, 1) := by decide +kernel
theorem dL_act_318 : decode cL_act 318 = .ok (.invokevirtual 85, 3) := by decide +kernel
theorem dL_act_321 : decode cL_act 321 = .ok (.aload_n 1, 1) := by decide +kernel
theorem dL_act_322 : decode cL_act 322 = .ok (.getfield 78, 3) := by decide +kernel
theorem dL_act_325 : decode cL_act 325 = .ok (.iload_n 3, 1) := by decide +kernel
theorem dL_act_326 : decode cL_act 326 = .ok (.iaload, 1) := by decide +kernel
theorem dL_act_327 : decode cL_act 327 = .ok (.if_icmp .ne 7, 3) := by decide +kernel
theorem dL_act_330 : decode cL_act 330 = .ok (.iconst 1, 1) := by decide +kernel
theorem dL_act_331 : decode cL_act 331 = .ok (.goto 4, 3) := by decide +kernel
theorem dL_act_334 : decode cL_act 334 = .ok (.iconst 0, 1) := by decide +kernel
theorem dL_act_335 : decode cL_act 335 = .ok (.ireturn, 1) := by decide +kernel
theorem dL_act_336 : decode cL_act 336 = .ok (.iload_n 2, 1) := by decide +kernel
theorem dL_act_337 : decode cL_act 337 = .ok (.iconst 3, 1) := by decide +kernel
theorem dL_act_338 : decode cL_act 338 = .ok (.ishr, 1) := by decide +kernel
theorem dL_act_339 : decode cL_act 339 = .ok (.bipush 6, 2) := by decide +kernel
theorem dL_act_341 : decode cL_act 341 = .ok (.invokestatic 18, 3) := by decide +kernel
theorem dL_act_344 : decode cL_act 344 = .ok (.istore 11, 2) := by decide +kernel
theorem dL_act_346 : decode cL_act 346 = .ok (.aload_n 1, 1) := by decide +kernel
theorem dL_act_347 : decode cL_act 347 = .ok (.getfield 32, 3) := by decide +kernel
theorem dL_act_350 : decode cL_act 350 = .ok (.iload_n 3, 1) := by decide +kernel
theorem dL_act_351 : decode cL_act 351 = .ok (.aaload, 1) := by decide +kernel
theorem dL_act_352 : decode cL_act 352 = .ok (.iload 11, 2) := by decide +kernel
theorem dL_act_354 : decode cL_act 354 = .ok (.iaload, 1) := by decide +kernel
theorem dL_act_355 : decode cL_act 355 = .ok (.iload 8, 2) := by decide +kernel
theorem dL_act_357 : decode cL_act 357 = .ok (.iadd, 1) := by decide +kernel
theorem dL_act_358 : decode cL_act 358 = .ok (.sipush 500, 3) := by decide +kernel
theorem dL_act_361 : decode cL_act 361 = .ok (.if_icmp .le 5, 3) := by decide +kernel
theorem dL_act_364 : decode cL_act 364 = .ok (.iconst 1, 1) := by decide +kernel
theorem dL_act_365 : decode cL_act 365 = .ok (.ireturn, 1) := by decide +kernel
theorem dL_act_366 : decode cL_act 366 = .ok (.aload_n 1, 1) := by decide +kernel
theorem dL_act_367 : decode cL_act 367 = .ok (.getfield 32, 3) := by decide +kernel
theorem dL_act_370 : decode cL_act 370 = .ok (.iload_n 3, 1) := by decide +kernel
theorem dL_act_371 : decode cL_act 371 = .ok (.aaload, 1) := by decide +kernel
theorem dL_act_372 : decode cL_act 372 = .ok (.iload 11, 2) := by decide +kernel
theorem dL_act_374 : decode cL_act 374 = .ok (.dup2, 1) := by decide +kernel
theorem dL_act_375 : decode cL_act 375 = .ok (.iaload, 1) := by decide +kernel
theorem dL_act_376 : decode cL_act 376 = .ok (.iload 8, 2) := by decide +kernel
theorem dL_act_378 : decode cL_act 378 = .ok (.iadd, 1) := by decide +kernel
theorem dL_act_379 : decode cL_act 379 = .ok (.iastore, 1) := by decide +kernel
theorem dL_act_380 : decode cL_act 380 = .ok (.aload_n 0, 1) := by decide +kernel
theorem dL_act_381 : decode cL_act 381 = .ok (.iload_n 3, 1) := by decide +kernel
theorem dL_act_382 : decode cL_act 382 = .ok (.iload 11, 2) := by decide +kernel
theorem dL_act_384 : decode cL_act 384 = .ok (.iload 8, 2) := by decide +kernel
theorem dL_act_386 : decode cL_act 386 = .ok (.invokevirtual 36, 3) := by decide +kernel
theorem dL_act_389 : decode cL_act 389 = .ok (.aload_n 1, 1) := by decide +kernel
theorem dL_act_390 : decode cL_act 390 = .ok (.getfield 32, 3) := by decide +kernel
theorem dL_act_393 : decode cL_act 393 = .ok (.iload_n 3, 1) := by decide +kernel
theorem dL_act_394 : decode cL_act 394 = .ok (.aaload, 1) := by decide +kernel
theorem dL_act_395 : decode cL_act 395 = .ok (.iload 11, 2) := by decide +kernel
theorem dL_act_397 : decode cL_act 397 = .ok (.iaload, 1) := by decide +kernel
theorem dL_act_398 : decode cL_act 398 = .ok (.if_icmp .ne 7, 3) := by decide +kernel
theorem dL_act_401 : decode cL_act 401 = .ok (.iconst 1, 1) := by decide +kernel
theorem dL_act_402 : decode cL_act 402 = .ok (.goto 4, 3) := by decide +kernel
theorem dL_act_405 : decode cL_act 405 = .ok (.iconst 0, 1) := by decide +kernel
theorem dL_act_406 : decode cL_act 406 = .ok (.ireturn, 1) := by decide +kernel
theorem dL_act_407 : decode cL_act 407 = .ok (.iload_n 2, 1) := by decide +kernel
theorem dL_act_408 : decode cL_act 408 = .ok (.iconst 3, 1) := by decide +kernel
theorem dL_act_409 : decode cL_act 409 = .ok (.ishr, 1) := by decide +kernel
theorem dL_act_410 : decode cL_act 410 = .ok (.iconst 2, 1) := by decide +kernel
theorem dL_act_411 : decode cL_act 411 = .ok (.invokestatic 18, 3) := by decide +kernel
theorem dL_act_414 : decode cL_act 414 = .ok (.istore 12, 2) := by decide +kernel
theorem dL_act_416 : decode cL_act 416 = .ok (.aload 6, 2) := by decide +kernel
theorem dL_act_418 : decode cL_act 418 = .ok (.iload 7, 2) := by decide +kernel
theorem dL_act_420 : decode cL_act 420 = .ok (.iload 12, 2) := by decide +kernel
theorem dL_act_422 : decode cL_act 422 = .ok (.invokevirtual 88, 3) := by decide +kernel
theorem dL_act_425 : decode cL_act 425 = .ok (.ifCond .ne 5, 3) := by decide +kernel
theorem dL_act_428 : decode cL_act 428 = .ok (.iconst 1, 1) := by decide +kernel
theorem dL_act_429 : decode cL_act 429 = .ok (.ireturn, 1) := by decide +kernel
theorem dL_act_430 : decode cL_act 430 = .ok (.aload 6, 2) := by decide +kernel
theorem dL_act_432 : decode cL_act 432 = .ok (.getfield 92, 3) := by decide +kernel
theorem dL_act_435 : decode cL_act 435 = .ok (.iload 7, 2) := by decide +kernel
theorem dL_act_437 : decode cL_act 437 = .ok (.aaload, 1) := by decide +kernel
theorem dL_act_438 : decode cL_act 438 = .ok (.iload 12, 2) := by decide +kernel
theorem dL_act_440 : decode cL_act 440 = .ok (.iload_n 2, 1) := by decide +kernel
theorem dL_act_441 : decode cL_act 441 = .ok (.bipush 6, 2) := by decide +kernel
theorem dL_act_443 : decode cL_act 443 = .ok (.ishr, 1) := by decide +kernel
theorem dL_act_444 : decode cL_act 444 = .ok (.iconst 3, 1) := by decide +kernel
theorem dL_act_445 : decode cL_act 445 = .ok (.invokestatic 18, 3) := by decide +kernel
theorem dL_act_448 : decode cL_act 448 = .ok (.ifCond .le 7, 3) := by decide +kernel
theorem dL_act_451 : decode cL_act 451 = .ok (.iconst 1, 1) := by decide +kernel
theorem dL_act_452 : decode cL_act 452 = .ok (.goto 4, 3) := by decide +kernel
theorem dL_act_455 : decode cL_act 455 = .ok (.iconst 0, 1) := by decide +kernel
theorem dL_act_456 : decode cL_act 456 = .ok (.bastore, 1) := by decide +kernel
theorem dL_act_457 : decode cL_act 457 = .ok (.aload_n 0, 1) := by decide +kernel
theorem dL_act_458 : decode cL_act 458 = .ok (.iload 5, 2) := by decide +kernel
theorem dL_act_460 : decode cL_act 460 = .ok (.iload 7, 2) := by decide +kernel
theorem dL_act_462 : decode cL_act 462 = .ok (.iload 12, 2) := by decide +kernel
theorem dL_act_464 : decode cL_act 464 = .ok (.aload 6, 2) := by decide +kernel
theorem dL_act_466 : decode cL_act 466 = .ok (.getfield 92, 3) := by decide +kernel
theorem dL_act_469 : decode cL_act 469 = .ok (.iload 7, 2) := by decide +kernel
theorem dL_act_471 : decode cL_act 471 = .ok (.aaload, 1) := by decide +kernel
theorem dL_act_472 : decode cL_act 472 = .ok (.iload 12, 2) := by decide +kernel
theorem dL_act_474 : decode cL_act 474 = .ok (.baload, 1) := by decide +kernel
theorem dL_act_475 : decode cL_act 475 = .ok (.invokevirtual 96, 3) := by decide +kernel
theorem dL_act_478 : decode cL_act 478 = .ok (.aload 6, 2) := by decide +kernel
theorem dL_act_480 : decode cL_act 480 = .ok (.invokevirtual 100, 3) := by decide +kernel
theorem dL_act_483 : decode cL_act 483 = .ok (.if_icmp .ne 7, 3) := by decide +kernel
theorem dL_act_486 : decode cL_act 486 = .ok (.iconst 1, 1) := by decide +kernel
theorem dL_act_487 : decode cL_act 487 = .ok (.goto 4, 3) := by decide +kernel
theorem dL_act_490 : decode cL_act 490 = .ok (.iconst 0, 1) := by decide +kernel
theorem dL_act_491 : decode cL_act 491 = .ok (.ireturn, 1) := by decide +kernel
theorem dL_act_492 : decode cL_act 492 = .ok (.iload_n 2, 1) := by decide +kernel
theorem dL_act_493 : decode cL_act 493 = .ok (.bipush 6, 2) := by decide +kernel
theorem dL_act_495 : decode cL_act 495 = .ok (.ishr, 1) := by decide +kernel
theorem dL_act_496 : decode cL_act 496 = .ok (.aload 6, 2) := by decide +kernel
theorem dL_act_498 : decode cL_act 498 = .ok (.getfield 51, 3) := by decide +kernel
theorem dL_act_501 : decode cL_act 501 = .ok (.arraylength, 1) := by decide +kernel
theorem dL_act_502 : decode cL_act 502 = .ok (.invokestatic 18, 3) := by decide +kernel
theorem dL_act_505 : decode cL_act 505 = .ok (.istore 13, 2) := by decide +kernel
theorem dL_act_507 : decode cL_act 507 = .ok (.iload 13, 2) := by decide +kernel
theorem dL_act_509 : decode cL_act 509 = .ok (.iload 7, 2) := by decide +kernel
theorem dL_act_511 : decode cL_act 511 = .ok (.if_icmp .eq 39, 3) := by decide +kernel
theorem dL_act_514 : decode cL_act 514 = .ok (.aload_n 0, 1) := by decide +kernel
theorem dL_act_515 : decode cL_act 515 = .ok (.iload 5, 2) := by decide +kernel
theorem dL_act_517 : decode cL_act 517 = .ok (.iload 7, 2) := by decide +kernel
theorem dL_act_519 : decode cL_act 519 = .ok (.iload 13, 2) := by decide +kernel
theorem dL_act_521 : decode cL_act 521 = .ok (.iload 8, 2) := by decide +kernel
theorem dL_act_523 : decode cL_act 523 = .ok (.invokevirtual 104, 3) := by decide +kernel
theorem dL_act_526 : decode cL_act 526 = .ok (.aload 6, 2) := by decide +kernel
theorem dL_act_528 : decode cL_act 528 = .ok (.getfield 51, 3) := by decide +kernel
theorem dL_act_531 : decode cL_act 531 = .ok (.iload 7, 2) := by decide +kernel
theorem dL_act_533 : decode cL_act 533 = .ok (.aaload, 1) := by decide +kernel
theorem dL_act_534 : decode cL_act 534 = .ok (.aload 6, 2) := by decide +kernel
theorem dL_act_536 : decode cL_act 536 = .ok (.getfield 51, 3) := by decide +kernel
theorem dL_act_539 : decode cL_act 539 = .ok (.iload 13, 2) := by decide +kernel
theorem dL_act_541 : decode cL_act 541 = .ok (.aaload, 1) := by decide +kernel
theorem dL_act_542 : decode cL_act 542 = .ok (.iload 8, 2) := by decide +kernel
theorem dL_act_544 : decode cL_act 544 = .ok (.invokestatic 108, 3) := by decide +kernel
theorem dL_act_547 : decode cL_act 547 = .ok (.if_icmp .ne 7, 3) := by decide +kernel
theorem dL_act_550 : decode cL_act 550 = .ok (.iconst 1, 1) := by decide +kernel
theorem dL_act_551 : decode cL_act 551 = .ok (.goto 4, 3) := by decide +kernel
theorem dL_act_554 : decode cL_act 554 = .ok (.iconst 0, 1) := by decide +kernel
theorem dL_act_555 : decode cL_act 555 = .ok (.ireturn, 1) := by decide +kernel
theorem dL_act_556 : decode cL_act 556 = .ok (.iconst 0, 1) := by decide +kernel
theorem dL_act_557 : decode cL_act 557 = .ok (.istore 14, 2) := by decide +kernel
theorem dL_act_559 : decode cL_act 559 = .ok (.iload 14, 2) := by decide +kernel
theorem dL_act_561 : decode cL_act 561 = .ok (.iconst 5, 1) := by decide +kernel
theorem dL_act_562 : decode cL_act 562 = .ok (.if_icmp .ge 47, 3) := by decide +kernel
theorem dL_act_565 : decode cL_act 565 = .ok (.iload_n 2, 1) := by decide +kernel
theorem dL_act_566 : decode cL_act 566 = .ok (.bipush 6, 2) := by decide +kernel
theorem dL_act_568 : decode cL_act 568 = .ok (.ishr, 1) := by decide +kernel
theorem dL_act_569 : decode cL_act 569 = .ok (.iconst 3, 1) := by decide +kernel
theorem dL_act_570 : decode cL_act 570 = .ok (.invokestatic 18, 3) := by decide +kernel
theorem dL_act_573 : decode cL_act 573 = .ok (.ifCond .le 36, 3) := by decide +kernel
theorem dL_act_576 : decode cL_act 576 = .ok (.aload_n 1, 1) := by decide +kernel
theorem dL_act_577 : decode cL_act 577 = .ok (.getfield 60, 3) := by decide +kernel
theorem dL_act_580 : decode cL_act 580 = .ok (.iload 14, 2) := by decide +kernel
theorem dL_act_582 : decode cL_act 582 = .ok (.aaload, 1) := by decide +kernel
theorem dL_act_583 : decode cL_act 583 = .ok (.invokestatic 112, 3) := by decide +kernel
theorem dL_act_586 : decode cL_act 586 = .ok (.aload_n 1, 1) := by decide +kernel
theorem dL_act_587 : decode cL_act 587 = .ok (.getfield 60, 3) := by decide +kernel
theorem dL_act_590 : decode cL_act 590 = .ok (.iload 4, 2) := by decide +kernel
theorem dL_act_592 : decode cL_act 592 = .ok (.aaload, 1) := by decide +kernel
theorem dL_act_593 : decode cL_act 593 = .ok (.invokestatic 112, 3) := by decide +kernel
theorem dL_act_596 : decode cL_act 596 = .ok (.if_icmp .le 7, 3) := by decide +kernel
theorem dL_act_599 : decode cL_act 599 = .ok (.iload 14, 2) := by decide +kernel
theorem dL_act_601 : decode cL_act 601 = .ok (.istore 4, 2) := by decide +kernel
theorem dL_act_603 : decode cL_act 603 = .ok (.iinc 14 1, 3) := by decide +kernel
theorem dL_act_606 : decode cL_act 606 = .ok (.goto (-47), 3) := by decide +kernel
theorem dL_act_609 : decode cL_act 609 = .ok (.aload_n 0, 1) := by decide +kernel
theorem dL_act_610 : decode cL_act 610 = .ok (.iload 5, 2) := by decide +kernel
theorem dL_act_612 : decode cL_act 612 = .ok (.iload 7, 2) := by decide +kernel
theorem dL_act_614 : decode cL_act 614 = .ok (.iload 4, 2) := by decide +kernel
theorem dL_act_616 : decode cL_act 616 = .ok (.iload 8, 2) := by decide +kernel
theorem dL_act_618 : decode cL_act 618 = .ok (.invokevirtual 116, 3) := by decide +kernel
theorem dL_act_621 : decode cL_act 621 = .ok (.aload_n 1, 1) := by decide +kernel
theorem dL_act_622 : decode cL_act 622 = .ok (.getfield 60, 3) := by decide +kernel
theorem dL_act_625 : decode cL_act 625 = .ok (.iload 4, 2) := by decide +kernel
theorem dL_act_627 : decode cL_act 627 = .ok (.aaload, 1) := by decide +kernel
theorem dL_act_628 : decode cL_act 628 = .ok (.aload 6, 2) := by decide +kernel
theorem dL_act_630 : decode cL_act 630 = .ok (.getfield 51, 3) := by decide +kernel
theorem dL_act_633 : decode cL_act 633 = .ok (.iload 7, 2) := by decide +kernel
theorem dL_act_635 : decode cL_act 635 = .ok (.aaload, 1) := by decide +kernel
theorem dL_act_636 : decode cL_act 636 = .ok (.iload 8, 2) := by decide +kernel
theorem dL_act_638 : decode cL_act 638 = .ok (.invokestatic 108, 3) := by decide +kernel
theorem dL_act_641 : decode cL_act 641 = .ok (.if_icmp .ne 7, 3) := by decide +kernel
theorem dL_act_644 : decode cL_act 644 = .ok (.iconst 1, 1) := by decide +kernel
theorem dL_act_645 : decode cL_act 645 = .ok (.goto 4, 3) := by decide +kernel
theorem dL_act_648 : decode cL_act 648 = .ok (.iconst 0, 1) := by decide +kernel
theorem dL_act_649 : decode cL_act 649 = .ok (.ireturn, 1) := by decide +kernel
set_option maxRecDepth 20000 in
theorem ggL_law_X3_init : GoodIn wsL_law wsX3_init := goodIn_r _ [14, 15, 16, 17, 18, 19, 20, 21, 22, 23, 24, 25, 26, 27, 28, 29, 30, 31, 32, 33, 34, 35, 36, 37, 38, 39, 40, 41, 42, 43, 44, 45, 46, 47, 48, 49, 50, 6, 51, 52, 53, 54, 55, 56, 57, 58, 59, 60, 61, 62, 63, 64, 65, 514, 515, 516, 493, 494, 495, 496, 497, 498, 499, 500, 517, 518, 519, 520, 521, 522, 523, 524, 525] (by decide +kernel) (by decide +kernel)
set_option maxRecDepth 20000 in
theorem gL_law_X3_init : GoodIn wsL_law (wsX3_init) := ggL_law_X3_init
set_option maxRecDepth 20000 in
theorem ggL_law_L_build : GoodIn wsL_law wsL_build := goodIn_ca (goodIn_ca (goodIn_ca (goodIn_r _ [69, 70, 71, 72, 11, 73, 74, 75, 16, 17, 76, 77, 6, 78, 79, 80, 81, 82, 83, 84, 85, 68, 86, 87, 88, 89, 90, 91, 92, 93, 94, 2, 95, 96, 97, 21, 98, 99, 100, 101, 102, 103, 104, 105, 106, 107, 108, 20, 109, 110, 111, 112, 113, 114, 115, 25, 26, 116, 117, 118, 48, 49, 50, 51, 119, 120, 121, 122, 123, 124, 36, 125, 126, 127, 128, 129, 130, 131, 132, 133, 134, 135, 136, 35, 137, 8, 9, 10, 138, 139, 140, 141, 142, 143, 144, 145, 146, 147, 148, 149, 150, 151, 152, 153, 154, 155, 156, 157, 158, 159, 160, 161, 162, 163, 164, 165, 166, 167, 168, 169, 170, 171, 172, 173, 174, 175, 176, 177, 178, 179, 180, 181, 182, 183, 184, 185, 186, 187, 188, 189, 190, 191, 192, 193, 194, 195, 196, 197, 198, 199, 200, 201, 202, 203, 204, 205, 206, 207, 208, 209, 210, 211, 212, 213, 214, 22, 27, 28, 29, 52, 53, 54, 55, 56, 57, 58, 59, 60, 61, 62, 63, 64, 65, 215, 216, 217, 218, 219, 220, 221, 222, 223, 224, 225, 226, 227, 228, 229, 230, 231, 501, 502, 503, 504, 505, 506, 507, 508, 493, 494, 495, 496, 497, 498, 499, 500, 526, 527, 514, 515, 516, 517, 518, 519, 520, 521, 522, 523, 524, 525, 509, 510, 511, 512, 513] (by decide +kernel) (by decide +kernel)) (goodIn_sub (fun _ h => List.mem_append_left _ (List.mem_append_left _ (List.mem_append_right _ h))) (by decide +kernel))) (goodIn_sub (fun _ h => List.mem_append_left _ (List.mem_append_right _ h)) (by decide +kernel))) (goodIn_sub (fun _ h => List.mem_append_right _ h) (by decide +kernel))
set_option maxRecDepth 20000 in
theorem gL_law_L_build : GoodIn wsL_law (va_wsS RL 120 yL_build wsL_build) := goodIn_app (goodIn_of _ (by decide +kernel)) ggL_law_L_build
set_option maxRecDepth 20000 in
theorem ggL_law_X3_count : GoodIn wsL_law wsX3_count := goodIn_ca (goodIn_r _ [235, 199, 200, 2, 201, 180, 181, 236, 237, 238, 239, 240, 21, 22, 241, 242, 31, 106, 107, 108, 20, 109, 110, 243, 244, 245, 246, 182, 183, 184, 185, 186, 187, 188, 189, 190, 191, 192, 193, 194, 195, 196, 197, 198, 36, 247, 248, 249, 250, 24, 251, 252, 253, 254, 255, 256, 257, 258, 29, 259, 61, 493, 494, 495, 496, 497, 498, 499, 500, 514, 515, 516, 526, 527, 517, 518, 519, 520, 521, 522, 523, 524, 525] (by decide +kernel) (by decide +kernel)) (goodIn_sub (fun _ h => List.mem_append_right _ h) (by decide +kernel))
set_option maxRecDepth 20000 in
theorem gL_law_X3_count : GoodIn wsL_law (wsV RL 124 RX3 yX3_count wsX3_count) := goodIn_app (goodIn_of _ (by decide +kernel)) ggL_law_X3_count
set_option maxRecDepth 20000 in
theorem ggL_law_L_cell : GoodIn wsL_law wsL_cell := goodIn_r _ [86, 87] (by decide +kernel) (by decide +kernel)
set_option maxRecDepth 20000 in
theorem gL_law_L_cell : GoodIn wsL_law (va_wsS RL 12 yL_cell wsL_cell) := goodIn_app (goodIn_of _ (by decide +kernel)) ggL_law_L_cell
theorem goodIn_c {big a : List Cond} {c : Cond} (hc : c ∈ big) (hg : goodWord c = true) (h : GoodIn big a) : GoodIn big (c :: a) := fun w hw => (List.mem_cons.mp hw).elim (fun e => by rw [e]; exact ⟨hc, good_of_word hg⟩) (h w)
set_option maxRecDepth 20000 in
set_option maxHeartbeats 4000000 in
theorem wsL_act_law : Cond.code yL_act cL_act 15 (some .boolean) ∈ wsL_law := by
  unfold wsL_law wsL_law0
  iterate 11 apply List.mem_append_left
  iterate 10 apply List.mem_append_right
  apply List.mem_append_left
  unfold wsL_law0_r11
  iterate 22 apply List.mem_cons_of_mem
  exact List.mem_cons_self
set_option maxRecDepth 20000 in
theorem ggL_law_L_act : GoodIn wsL_law wsL_act := goodIn_ca (goodIn_ca (goodIn_ca (goodIn_c wsL_act_law (by decide +kernel) (goodIn_r _ [11, 3, 4, 263, 264, 162, 9, 163, 265, 266, 7, 8, 10, 267, 88, 89, 68, 90, 91, 268, 269, 270, 2, 271, 24, 31, 241, 176, 177, 178, 179, 180, 181, 21, 182, 106, 107, 108, 20, 109, 110, 183, 184, 185, 186, 187, 188, 189, 190, 191, 192, 193, 194, 195, 196, 197, 198, 36, 272, 273, 274, 100, 275, 116, 276, 203, 204, 26, 205, 51, 277, 278, 279, 280, 117, 281, 206, 207, 208, 209, 210, 202, 282, 283, 284, 72, 285, 79, 81, 77, 286, 287, 288, 289, 290, 80, 6, 78, 291, 292, 293, 220, 294, 295, 296, 297, 298, 299, 300, 301, 302, 303, 304, 305, 306, 307, 101, 102, 103, 104, 105, 308, 309, 310, 311, 312, 172, 173, 174, 175, 96, 97, 199, 200, 201, 313, 314, 315, 316, 225, 226, 317, 318, 319, 320, 321, 322, 323, 324, 22, 255, 325, 326, 327, 29, 328, 59, 56, 329, 330, 331, 332, 63, 333, 334, 335, 336, 337, 338, 339, 340, 341, 342, 343, 344, 345, 229, 346, 347, 348, 349, 231, 350, 351, 352, 353, 354, 355, 356, 357, 358, 359, 360, 361, 362, 363, 364, 365, 366, 367, 368, 369, 370, 371, 372, 373, 374, 375, 501, 502, 503, 504, 505, 506, 507, 508, 509, 510, 511, 512, 513, 493, 494, 495, 496, 497, 498, 499, 500, 526, 527, 514, 515, 516, 517, 518, 519, 520, 521, 522, 523, 524, 525] (by decide +kernel) (by decide +kernel))) (goodIn_sub (fun _ h => List.mem_append_right _ h) (by decide +kernel))) (goodIn_sub (fun _ h => List.mem_append_left _ (List.mem_append_right _ h)) (by decide +kernel))) (goodIn_sub (fun _ h => List.mem_append_left _ (List.mem_append_left _ (List.mem_append_right _ h))) (by decide +kernel))
set_option maxRecDepth 20000 in
theorem gL_law_L_act : GoodIn wsL_law (va_wsS RL 127 yL_act wsL_act) := goodIn_app (goodIn_of _ (by decide +kernel)) ggL_law_L_act
set_option maxRecDepth 20000 in
theorem ggL_law_L_below : GoodIn wsL_law wsL_below := goodIn_r _ [90, 91] (by decide +kernel) (by decide +kernel)
set_option maxRecDepth 20000 in
theorem gL_law_L_below : GoodIn wsL_law (va_wsS RL 18 yL_below wsL_below) := goodIn_app (goodIn_of _ (by decide +kernel)) ggL_law_L_below
set_option maxRecDepth 20000 in
theorem ggL_law_X3_square : GoodIn wsL_law wsX3_square := goodIn_ca (goodIn_r _ [379, 321, 322, 323, 2, 324, 180, 181, 22, 255, 106, 107, 108, 20, 109, 110, 183, 184, 185, 186, 187, 188, 189, 190, 191, 192, 193, 194, 195, 196, 197, 198, 36, 199, 200, 201, 380, 381, 382, 29, 383, 61, 384, 203, 204, 26, 205, 51, 385, 386, 387, 388, 365, 162, 9, 163, 337, 338, 339, 340, 63, 341, 326, 327, 328, 59, 56, 519, 520, 521, 522, 523, 524, 525, 493, 494, 495, 496, 497, 498, 499, 500, 514, 515, 516, 517, 518] (by decide +kernel) (by decide +kernel)) (goodIn_sub (fun _ h => List.mem_append_right _ h) (by decide +kernel))
set_option maxRecDepth 20000 in
theorem gL_law_X3_square : GoodIn wsL_law (wsV RL 132 RX3 yX3_square wsX3_square) := goodIn_app (goodIn_of _ (by decide +kernel)) ggL_law_X3_square
set_option maxRecDepth 20000 in
theorem ggL_law_X3_foresee : GoodIn wsL_law wsX3_foresee := goodIn_ca (goodIn_ca (goodIn_r _ [392, 30, 321, 322, 323, 2, 324, 180, 181, 22, 255, 106, 107, 108, 20, 109, 110, 183, 184, 185, 186, 187, 188, 189, 190, 191, 192, 193, 194, 195, 196, 197, 198, 36, 199, 200, 201, 101, 102, 103, 104, 105, 393, 394, 395, 29, 396, 56, 57, 58, 59, 61, 63, 397, 398, 399, 26, 400, 366, 203, 204, 205, 51, 367, 207, 208, 209, 210, 401, 402, 403, 404, 405, 406, 407, 408, 409, 410, 411, 412, 413, 414, 415, 416, 337, 338, 339, 340, 341, 326, 327, 328, 417, 418, 419, 420, 421, 362, 363, 364, 365, 162, 9, 163, 256, 257, 258, 259, 422, 423, 424, 425, 426, 427, 428, 429, 430, 431, 432, 433, 385, 386, 387, 388, 434, 493, 494, 495, 496, 497, 498, 499, 500, 514, 515, 516, 519, 520, 521, 522, 523, 524, 525, 517, 518] (by decide +kernel) (by decide +kernel)) (goodIn_sub (fun _ h => List.mem_append_right _ h) (by decide +kernel))) (goodIn_sub (fun _ h => List.mem_append_left _ (List.mem_append_right _ h)) (by decide +kernel))
set_option maxRecDepth 20000 in
theorem gL_law_X3_foresee : GoodIn wsL_law (wsV RL 135 RX3 yX3_foresee wsX3_foresee) := goodIn_app (goodIn_of _ (by decide +kernel)) ggL_law_X3_foresee
set_option maxRecDepth 20000 in
theorem ggL_law_X3_lasts : GoodIn wsL_law wsX3_lasts := goodIn_ca (goodIn_ca (goodIn_r _ [438, 30, 321, 322, 323, 2, 324, 180, 181, 22, 255, 106, 107, 108, 20, 109, 110, 183, 184, 185, 186, 187, 188, 189, 190, 191, 192, 193, 194, 195, 196, 197, 198, 36, 101, 102, 103, 104, 105, 393, 394, 395, 29, 396, 56, 57, 58, 59, 61, 63, 397, 398, 399, 26, 400, 366, 203, 204, 205, 51, 367, 207, 208, 209, 210, 422, 423, 424, 425, 426, 427, 428, 429, 430, 431, 432, 433, 385, 386, 387, 388, 365, 162, 9, 163, 401, 402, 403, 404, 405, 406, 407, 408, 409, 410, 411, 412, 413, 414, 415, 416, 337, 338, 339, 340, 341, 326, 327, 328, 417, 418, 419, 420, 421, 362, 363, 364, 493, 494, 495, 496, 497, 498, 499, 500, 514, 515, 516, 519, 520, 521, 522, 523, 524, 525, 517, 518] (by decide +kernel) (by decide +kernel)) (goodIn_sub (fun _ h => List.mem_append_right _ h) (by decide +kernel))) (goodIn_sub (fun _ h => List.mem_append_left _ (List.mem_append_right _ h)) (by decide +kernel))
set_option maxRecDepth 20000 in
theorem gL_law_X3_lasts : GoodIn wsL_law (wsV RL 138 RX3 yX3_lasts wsX3_lasts) := goodIn_app (goodIn_of _ (by decide +kernel)) ggL_law_X3_lasts
set_option maxRecDepth 20000 in
theorem ggL_law_X3_pass : GoodIn wsL_law wsX3_pass := goodIn_ca (goodIn_r _ [442, 22, 255, 240, 242, 101, 102, 2, 103, 104, 105, 106, 107, 108, 20, 109, 110, 183, 184, 185, 186, 187, 188, 189, 190, 191, 192, 193, 194, 195, 196, 197, 198, 36, 401, 402, 403, 29, 404, 405, 406, 407, 408, 61, 58, 409, 410, 411, 26, 412, 366, 203, 204, 205, 51, 367, 207, 208, 209, 210, 413, 414, 415, 416, 59, 337, 338, 339, 340, 63, 341, 326, 327, 328, 56, 417, 418, 419, 420, 421, 362, 363, 364, 365, 162, 9, 163, 493, 494, 495, 496, 497, 498, 499, 500, 514, 515, 516, 519, 520, 521, 522, 523, 524, 525, 517, 518] (by decide +kernel) (by decide +kernel)) (goodIn_sub (fun _ h => List.mem_append_left _ (List.mem_append_right _ h)) (by decide +kernel))
set_option maxRecDepth 20000 in
theorem gL_law_X3_pass : GoodIn wsL_law (wsV RL 141 RX3 yX3_pass wsX3_pass) := goodIn_app (goodIn_of _ (by decide +kernel)) ggL_law_X3_pass
set_option maxRecDepth 20000 in
theorem ggL_law_X4_pass : GoodIn wsL_law wsX4_pass := goodIn_r _ [446, 83, 447, 448, 449, 450, 451, 220, 452, 229, 227, 453, 162, 9, 163, 346, 347, 348, 349, 231, 350, 314, 315, 316, 225, 226, 454, 455, 456, 457, 458, 293, 294, 501, 502, 503, 504, 505, 506, 507, 508, 509, 510, 511, 512, 513] (by decide +kernel) (by decide +kernel)
set_option maxRecDepth 20000 in
theorem gL_law_X4_pass : GoodIn wsL_law (wsV RL 144 RX4 yX4_pass wsX4_pass) := goodIn_app (goodIn_of _ (by decide +kernel)) ggL_law_X4_pass
set_option maxRecDepth 20000 in
theorem ggL_law_X3_tick : GoodIn wsL_law wsX3_tick := goodIn_ca (goodIn_r _ [462, 321, 322, 323, 2, 324, 180, 181, 22, 255, 106, 107, 108, 20, 109, 110, 183, 184, 185, 186, 187, 188, 189, 190, 191, 192, 193, 194, 195, 196, 197, 198, 36, 199, 200, 201, 463, 464, 465, 29, 466, 56, 57, 58, 467, 257, 258, 259, 61, 468, 469, 470, 471, 385, 386, 387, 26, 388, 51, 365, 162, 9, 163, 472, 423, 424, 425, 426, 427, 428, 429, 59, 430, 431, 432, 433, 473, 334, 335, 336, 337, 338, 339, 340, 63, 341, 326, 327, 328, 474, 475, 476, 477, 64, 478, 479, 480, 481, 493, 494, 495, 496, 497, 498, 499, 500, 514, 515, 516, 519, 520, 521, 522, 523, 524, 525, 517, 518] (by decide +kernel) (by decide +kernel)) (goodIn_sub (fun _ h => List.mem_append_right _ h) (by decide +kernel))
set_option maxRecDepth 20000 in
theorem gL_law_X3_tick : GoodIn wsL_law (wsV RL 146 RX3 yX3_tick wsX3_tick) := goodIn_app (goodIn_of _ (by decide +kernel)) ggL_law_X3_tick
set_option maxRecDepth 20000 in
theorem ggL_law_L_coldest : GoodIn wsL_law wsL_coldest := goodIn_r _ [484] (by decide +kernel) (by decide +kernel)
set_option maxRecDepth 20000 in
theorem gL_law_L_coldest : GoodIn wsL_law (va_wsS RL 148 yL_coldest wsL_coldest) := goodIn_app (goodIn_of _ (by decide +kernel)) ggL_law_L_coldest
set_option maxRecDepth 20000 in
theorem ggL_law_X3_sack : GoodIn wsL_law wsX3_sack := goodIn_ca (goodIn_r _ [488, 176, 177, 178, 2, 179, 180, 181, 21, 182, 106, 107, 108, 20, 109, 110, 183, 184, 185, 186, 187, 188, 189, 190, 191, 192, 193, 194, 195, 196, 197, 198, 36, 199, 200, 201, 489, 490, 491, 100, 492, 116, 117, 276, 203, 204, 26, 205, 51, 493, 494, 495, 496, 497, 498, 499, 500, 514, 515, 516, 526, 527, 517, 518] (by decide +kernel) (by decide +kernel)) (goodIn_sub (fun _ h => List.mem_append_right _ h) (by decide +kernel))
set_option maxRecDepth 20000 in
theorem gL_law_X3_sack : GoodIn wsL_law (wsV RL 152 RX3 yX3_sack wsX3_sack) := goodIn_app (goodIn_of _ (by decide +kernel)) ggL_law_X3_sack
theorem dL_law_0 : decode cL_law 0 = .ok (.new 23, 3) := by decide +kernel
theorem dL_law_3 : decode cL_law 3 = .ok (.dup, 1) := by decide +kernel
theorem dL_law_4 : decode cL_law 4 = .ok (.invokespecial 119, 3) := by decide +kernel
theorem dL_law_7 : decode cL_law 7 = .ok (.astore_n 1, 1) := by decide +kernel
theorem dL_law_8 : decode cL_law 8 = .ok (.aload_n 1, 1) := by decide +kernel
theorem dL_law_9 : decode cL_law 9 = .ok (.aload_n 0, 1) := by decide +kernel
theorem dL_law_10 : decode cL_law 10 = .ok (.invokestatic 120, 3) := by decide +kernel
theorem dL_law_13 : decode cL_law 13 = .ok (.astore_n 2, 1) := by decide +kernel
theorem dL_law_14 : decode cL_law 14 = .ok (.aload_n 2, 1) := by decide +kernel
theorem dL_law_15 : decode cL_law 15 = .ok (.ifnonnull 5, 3) := by decide +kernel
theorem dL_law_18 : decode cL_law 18 = .ok (.iconst 0, 1) := by decide +kernel
theorem dL_law_19 : decode cL_law 19 = .ok (.ireturn, 1) := by decide +kernel
theorem dL_law_20 : decode cL_law 20 = .ok (.aload_n 1, 1) := by decide +kernel
theorem dL_law_21 : decode cL_law 21 = .ok (.iconst 3, 1) := by decide +kernel
theorem dL_law_22 : decode cL_law 22 = .ok (.invokevirtual 124, 3) := by decide +kernel
theorem dL_law_25 : decode cL_law 25 = .ok (.istore_n 3, 1) := by decide +kernel
theorem dL_law_26 : decode cL_law 26 = .ok (.iconst 0, 1) := by decide +kernel
theorem dL_law_27 : decode cL_law 27 = .ok (.istore 4, 2) := by decide +kernel
theorem dL_law_29 : decode cL_law 29 = .ok (.iload 4, 2) := by decide +kernel
theorem dL_law_31 : decode cL_law 31 = .ok (.bipush 30, 2) := by decide +kernel
theorem dL_law_33 : decode cL_law 33 = .ok (.if_icmp .ge 1006, 3) := by decide +kernel
theorem dL_law_36 : decode cL_law 36 = .ok (.aload_n 0, 1) := by decide +kernel
theorem dL_law_37 : decode cL_law 37 = .ok (.iload 4, 2) := by decide +kernel
theorem dL_law_39 : decode cL_law 39 = .ok (.bipush 16, 2) := by decide +kernel
theorem dL_law_41 : decode cL_law 41 = .ok (.irem, 1) := by decide +kernel
theorem dL_law_42 : decode cL_law 42 = .ok (.invokestatic 12, 3) := by decide +kernel
theorem dL_law_45 : decode cL_law 45 = .ok (.iload 4, 2) := by decide +kernel
theorem dL_law_47 : decode cL_law 47 = .ok (.bipush 16, 2) := by decide +kernel
theorem dL_law_49 : decode cL_law 49 = .ok (.idiv, 1) := by decide +kernel
theorem dL_law_50 : decode cL_law 50 = .ok (.iconst 3, 1) := by decide +kernel
theorem dL_law_51 : decode cL_law 51 = .ok (.imul, 1) := by decide +kernel
theorem dL_law_52 : decode cL_law 52 = .ok (.ishr, 1) := by decide +kernel
theorem dL_law_53 : decode cL_law 53 = .ok (.bipush 97, 2) := by decide +kernel
theorem dL_law_55 : decode cL_law 55 = .ok (.iload 4, 2) := by decide +kernel
theorem dL_law_57 : decode cL_law 57 = .ok (.imul, 1) := by decide +kernel
theorem dL_law_58 : decode cL_law 58 = .ok (.iadd, 1) := by decide +kernel
theorem dL_law_59 : decode cL_law 59 = .ok (.istore 5, 2) := by decide +kernel
theorem dL_law_61 : decode cL_law 61 = .ok (.iconst 0, 1) := by decide +kernel
theorem dL_law_62 : decode cL_law 62 = .ok (.istore 6, 2) := by decide +kernel
theorem dL_law_64 : decode cL_law 64 = .ok (.iload 6, 2) := by decide +kernel
theorem dL_law_66 : decode cL_law 66 = .ok (.iconst 4, 1) := by decide +kernel
theorem dL_law_67 : decode cL_law 67 = .ok (.if_icmp .ge 100, 3) := by decide +kernel
theorem dL_law_70 : decode cL_law 70 = .ok (.aload_n 1, 1) := by decide +kernel
theorem dL_law_71 : decode cL_law 71 = .ok (.iconst 3, 1) := by decide +kernel
theorem dL_law_72 : decode cL_law 72 = .ok (.invokevirtual 124, 3) := by decide +kernel
theorem dL_law_75 : decode cL_law 75 = .ok (.aload_n 1, 1) := by decide +kernel
theorem dL_law_76 : decode cL_law 76 = .ok (.iconst 4, 1) := by decide +kernel
theorem dL_law_77 : decode cL_law 77 = .ok (.invokevirtual 124, 3) := by decide +kernel
theorem dL_law_80 : decode cL_law 80 = .ok (.iadd, 1) := by decide +kernel
theorem dL_law_81 : decode cL_law 81 = .ok (.aload_n 1, 1) := by decide +kernel
theorem dL_law_82 : decode cL_law 82 = .ok (.iconst 5, 1) := by decide +kernel
theorem dL_law_83 : decode cL_law 83 = .ok (.invokevirtual 124, 3) := by decide +kernel
theorem dL_law_86 : decode cL_law 86 = .ok (.iadd, 1) := by decide +kernel
theorem dL_law_87 : decode cL_law 87 = .ok (.aload_n 1, 1) := by decide +kernel
theorem dL_law_88 : decode cL_law 88 = .ok (.bipush 6, 2) := by decide +kernel
theorem dL_law_90 : decode cL_law 90 = .ok (.invokevirtual 124, 3) := by decide +kernel
theorem dL_law_93 : decode cL_law 93 = .ok (.iadd, 1) := by decide +kernel
theorem dL_law_94 : decode cL_law 94 = .ok (.istore 7, 2) := by decide +kernel
theorem dL_law_96 : decode cL_law 96 = .ok (.aload_n 1, 1) := by decide +kernel
theorem dL_law_97 : decode cL_law 97 = .ok (.aload_n 2, 1) := by decide +kernel
theorem dL_law_98 : decode cL_law 98 = .ok (.iload 5, 2) := by decide +kernel
theorem dL_law_100 : decode cL_law 100 = .ok (.iload 6, 2) := by decide +kernel
theorem dL_law_102 : decode cL_law 102 = .ok (.ishr, 1) := by decide +kernel
theorem dL_law_103 : decode cL_law 103 = .ok (.sipush 131, 3) := by decide +kernel
theorem dL_law_106 : decode cL_law 106 = .ok (.iload 6, 2) := by decide +kernel
theorem dL_law_108 : decode cL_law 108 = .ok (.imul, 1) := by decide +kernel
theorem dL_law_109 : decode cL_law 109 = .ok (.iadd, 1) := by decide +kernel
theorem dL_law_110 : decode cL_law 110 = .ok (.invokestatic 127, 3) := by decide +kernel
theorem dL_law_113 : decode cL_law 113 = .ok (.ifCond .ne 5, 3) := by decide +kernel
theorem dL_law_116 : decode cL_law 116 = .ok (.iconst 0, 1) := by decide +kernel
theorem dL_law_117 : decode cL_law 117 = .ok (.ireturn, 1) := by decide +kernel
theorem dL_law_118 : decode cL_law 118 = .ok (.aload_n 1, 1) := by decide +kernel
theorem dL_law_119 : decode cL_law 119 = .ok (.iconst 3, 1) := by decide +kernel
theorem dL_law_120 : decode cL_law 120 = .ok (.invokevirtual 124, 3) := by decide +kernel
theorem dL_law_123 : decode cL_law 123 = .ok (.aload_n 1, 1) := by decide +kernel
theorem dL_law_124 : decode cL_law 124 = .ok (.iconst 4, 1) := by decide +kernel
theorem dL_law_125 : decode cL_law 125 = .ok (.invokevirtual 124, 3) := by decide +kernel
theorem dL_law_128 : decode cL_law 128 = .ok (.iadd, 1) := by decide +kernel
theorem dL_law_129 : decode cL_law 129 = .ok (.aload_n 1, 1) := by decide +kernel
theorem dL_law_130 : decode cL_law 130 = .ok (.iconst 5, 1) := by decide +kernel
theorem dL_law_131 : decode cL_law 131 = .ok (.invokevirtual 124, 3) := by decide +kernel
theorem dL_law_134 : decode cL_law 134 = .ok (.iadd, 1) := by decide +kernel
theorem dL_law_135 : decode cL_law 135 = .ok (.aload_n 1, 1) := by decide +kernel
theorem dL_law_136 : decode cL_law 136 = .ok (.bipush 6, 2) := by decide +kernel
theorem dL_law_138 : decode cL_law 138 = .ok (.invokevirtual 124, 3) := by decide +kernel
theorem dL_law_141 : decode cL_law 141 = .ok (.iadd, 1) := by decide +kernel
theorem dL_law_142 : decode cL_law 142 = .ok (.istore 8, 2) := by decide +kernel
theorem dL_law_144 : decode cL_law 144 = .ok (.iload 8, 2) := by decide +kernel
theorem dL_law_146 : decode cL_law 146 = .ok (.iload 7, 2) := by decide +kernel
theorem dL_law_148 : decode cL_law 148 = .ok (.if_icmp .ge 5, 3) := by decide +kernel
theorem dL_law_151 : decode cL_law 151 = .ok (.iconst 0, 1) := by decide +kernel
theorem dL_law_152 : decode cL_law 152 = .ok (.ireturn, 1) := by decide +kernel
theorem dL_law_153 : decode cL_law 153 = .ok (.iload_n 3, 1) := by decide +kernel
theorem dL_law_154 : decode cL_law 154 = .ok (.iload 8, 2) := by decide +kernel
theorem dL_law_156 : decode cL_law 156 = .ok (.iload 7, 2) := by decide +kernel
theorem dL_law_158 : decode cL_law 158 = .ok (.isub, 1) := by decide +kernel
theorem dL_law_159 : decode cL_law 159 = .ok (.iadd, 1) := by decide +kernel
theorem dL_law_160 : decode cL_law 160 = .ok (.istore_n 3, 1) := by decide +kernel
theorem dL_law_161 : decode cL_law 161 = .ok (.iinc 6 1, 3) := by decide +kernel
theorem dL_law_164 : decode cL_law 164 = .ok (.goto (-100), 3) := by decide +kernel
theorem dL_law_167 : decode cL_law 167 = .ok (.iload 5, 2) := by decide +kernel
theorem dL_law_169 : decode cL_law 169 = .ok (.aload_n 2, 1) := by decide +kernel
theorem dL_law_170 : decode cL_law 170 = .ok (.getfield 47, 3) := by decide +kernel
theorem dL_law_173 : decode cL_law 173 = .ok (.arraylength, 1) := by decide +kernel
theorem dL_law_174 : decode cL_law 174 = .ok (.invokestatic 18, 3) := by decide +kernel
theorem dL_law_177 : decode cL_law 177 = .ok (.istore 6, 2) := by decide +kernel
theorem dL_law_179 : decode cL_law 179 = .ok (.aload_n 2, 1) := by decide +kernel
theorem dL_law_180 : decode cL_law 180 = .ok (.getfield 47, 3) := by decide +kernel
theorem dL_law_183 : decode cL_law 183 = .ok (.iload 6, 2) := by decide +kernel
theorem dL_law_185 : decode cL_law 185 = .ok (.aaload, 1) := by decide +kernel
theorem dL_law_186 : decode cL_law 186 = .ok (.getfield 51, 3) := by decide +kernel
theorem dL_law_189 : decode cL_law 189 = .ok (.arraylength, 1) := by decide +kernel
theorem dL_law_190 : decode cL_law 190 = .ok (.istore 7, 2) := by decide +kernel
theorem dL_law_192 : decode cL_law 192 = .ok (.iload 7, 2) := by decide +kernel
theorem dL_law_194 : decode cL_law 194 = .ok (.bipush 8, 2) := by decide +kernel
theorem dL_law_196 : decode cL_law 196 = .ok (.multianewarray 131 2, 4) := by decide +kernel
theorem dL_law_200 : decode cL_law 200 = .ok (.astore 8, 2) := by decide +kernel
theorem dL_law_202 : decode cL_law 202 = .ok (.iconst 0, 1) := by decide +kernel
theorem dL_law_203 : decode cL_law 203 = .ok (.istore 9, 2) := by decide +kernel
theorem dL_law_205 : decode cL_law 205 = .ok (.iload 9, 2) := by decide +kernel
theorem dL_law_207 : decode cL_law 207 = .ok (.iload 7, 2) := by decide +kernel
theorem dL_law_209 : decode cL_law 209 = .ok (.if_icmp .ge 43, 3) := by decide +kernel
theorem dL_law_212 : decode cL_law 212 = .ok (.iconst 0, 1) := by decide +kernel
theorem dL_law_213 : decode cL_law 213 = .ok (.istore 10, 2) := by decide +kernel
theorem dL_law_215 : decode cL_law 215 = .ok (.iload 10, 2) := by decide +kernel
theorem dL_law_217 : decode cL_law 217 = .ok (.bipush 8, 2) := by decide +kernel
theorem dL_law_219 : decode cL_law 219 = .ok (.if_icmp .ge 27, 3) := by decide +kernel
theorem dL_law_222 : decode cL_law 222 = .ok (.aload 8, 2) := by decide +kernel
theorem dL_law_224 : decode cL_law 224 = .ok (.iload 9, 2) := by decide +kernel
theorem dL_law_226 : decode cL_law 226 = .ok (.aaload, 1) := by decide +kernel
theorem dL_law_227 : decode cL_law 227 = .ok (.iload 10, 2) := by decide +kernel
theorem dL_law_229 : decode cL_law 229 = .ok (.aload_n 1, 1) := by decide +kernel
theorem dL_law_230 : decode cL_law 230 = .ok (.iload 6, 2) := by decide +kernel
theorem dL_law_232 : decode cL_law 232 = .ok (.iload 9, 2) := by decide +kernel
theorem dL_law_234 : decode cL_law 234 = .ok (.iload 10, 2) := by decide +kernel
theorem dL_law_236 : decode cL_law 236 = .ok (.invokevirtual 132, 3) := by decide +kernel
theorem dL_law_239 : decode cL_law 239 = .ok (.iastore, 1) := by decide +kernel
theorem dL_law_240 : decode cL_law 240 = .ok (.iinc 10 1, 3) := by decide +kernel
theorem dL_law_243 : decode cL_law 243 = .ok (.goto (-28), 3) := by decide +kernel
theorem dL_law_246 : decode cL_law 246 = .ok (.iinc 9 1, 3) := by decide +kernel
theorem dL_law_249 : decode cL_law 249 = .ok (.goto (-44), 3) := by decide +kernel
theorem dL_law_252 : decode cL_law 252 = .ok (.aload_n 1, 1) := by decide +kernel
theorem dL_law_253 : decode cL_law 253 = .ok (.iload 6, 2) := by decide +kernel
theorem dL_law_255 : decode cL_law 255 = .ok (.iconst 1, 1) := by decide +kernel
theorem dL_law_256 : decode cL_law 256 = .ok (.iconst 0, 1) := by decide +kernel
theorem dL_law_257 : decode cL_law 257 = .ok (.invokevirtual 135, 3) := by decide +kernel
theorem dL_law_260 : decode cL_law 260 = .ok (.istore 9, 2) := by decide +kernel
theorem dL_law_262 : decode cL_law 262 = .ok (.aload_n 1, 1) := by decide +kernel
theorem dL_law_263 : decode cL_law 263 = .ok (.iload 6, 2) := by decide +kernel
theorem dL_law_265 : decode cL_law 265 = .ok (.iconst 1, 1) := by decide +kernel
theorem dL_law_266 : decode cL_law 266 = .ok (.iconst 1, 1) := by decide +kernel
theorem dL_law_267 : decode cL_law 267 = .ok (.invokevirtual 135, 3) := by decide +kernel
theorem dL_law_270 : decode cL_law 270 = .ok (.istore 10, 2) := by decide +kernel
theorem dL_law_272 : decode cL_law 272 = .ok (.aload_n 1, 1) := by decide +kernel
theorem dL_law_273 : decode cL_law 273 = .ok (.iload 6, 2) := by decide +kernel
theorem dL_law_275 : decode cL_law 275 = .ok (.iconst 1, 1) := by decide +kernel
theorem dL_law_276 : decode cL_law 276 = .ok (.iconst 2, 1) := by decide +kernel
theorem dL_law_277 : decode cL_law 277 = .ok (.invokevirtual 135, 3) := by decide +kernel
theorem dL_law_280 : decode cL_law 280 = .ok (.istore 11, 2) := by decide +kernel
theorem dL_law_282 : decode cL_law 282 = .ok (.aload_n 1, 1) := by decide +kernel
theorem dL_law_283 : decode cL_law 283 = .ok (.iload 6, 2) := by decide +kernel
theorem dL_law_285 : decode cL_law 285 = .ok (.bipush 40, 2) := by decide +kernel
theorem dL_law_287 : decode cL_law 287 = .ok (.invokevirtual 138, 3) := by decide +kernel
theorem dL_law_290 : decode cL_law 290 = .ok (.istore 12, 2) := by decide +kernel
theorem dL_law_292 : decode cL_law 292 = .ok (.aload_n 1, 1) := by decide +kernel
theorem dL_law_293 : decode cL_law 293 = .ok (.bipush 6, 2) := by decide +kernel
theorem dL_law_295 : decode cL_law 295 = .ok (.invokevirtual 124, 3) := by decide +kernel
theorem dL_law_298 : decode cL_law 298 = .ok (.istore 13, 2) := by decide +kernel
theorem dL_law_300 : decode cL_law 300 = .ok (.aload_n 1, 1) := by decide +kernel
theorem dL_law_301 : decode cL_law 301 = .ok (.bipush 7, 2) := by decide +kernel
theorem dL_law_303 : decode cL_law 303 = .ok (.invokevirtual 124, 3) := by decide +kernel
theorem dL_law_306 : decode cL_law 306 = .ok (.istore 14, 2) := by decide +kernel
theorem dL_law_308 : decode cL_law 308 = .ok (.aload_n 1, 1) := by decide +kernel
theorem dL_law_309 : decode cL_law 309 = .ok (.iconst 5, 1) := by decide +kernel
theorem dL_law_310 : decode cL_law 310 = .ok (.invokevirtual 124, 3) := by decide +kernel
theorem dL_law_313 : decode cL_law 313 = .ok (.istore 15, 2) := by decide +kernel
theorem dL_law_315 : decode cL_law 315 = .ok (.aload_n 1, 1) := by decide +kernel
theorem dL_law_316 : decode cL_law 316 = .ok (.iconst 1, 1) := by decide +kernel
theorem dL_law_317 : decode cL_law 317 = .ok (.invokevirtual 141, 3) := by decide +kernel
theorem dL_law_320 : decode cL_law 320 = .ok (.istore 16, 2) := by decide +kernel
theorem dL_law_322 : decode cL_law 322 = .ok (.aload_n 2, 1) := by decide +kernel
theorem dL_law_323 : decode cL_law 323 = .ok (.invokevirtual 144, 3) := by decide +kernel
theorem dL_law_326 : decode cL_law 326 = .ok (.pop, 1) := by decide +kernel
theorem dL_law_327 : decode cL_law 327 = .ok (.aload_n 1, 1) := by decide +kernel
theorem dL_law_328 : decode cL_law 328 = .ok (.iload 6, 2) := by decide +kernel
theorem dL_law_330 : decode cL_law 330 = .ok (.iconst 3, 1) := by decide +kernel
theorem dL_law_331 : decode cL_law 331 = .ok (.invokevirtual 146, 3) := by decide +kernel
theorem dL_law_334 : decode cL_law 334 = .ok (.iload 9, 2) := by decide +kernel
theorem dL_law_336 : decode cL_law 336 = .ok (.if_icmp .ne 78, 3) := by decide +kernel
theorem dL_law_339 : decode cL_law 339 = .ok (.aload_n 1, 1) := by decide +kernel
theorem dL_law_340 : decode cL_law 340 = .ok (.iload 6, 2) := by decide +kernel
theorem dL_law_342 : decode cL_law 342 = .ok (.iconst 5, 1) := by decide +kernel
theorem dL_law_343 : decode cL_law 343 = .ok (.invokevirtual 146, 3) := by decide +kernel
theorem dL_law_346 : decode cL_law 346 = .ok (.iload 10, 2) := by decide +kernel
theorem dL_law_348 : decode cL_law 348 = .ok (.if_icmp .ne 66, 3) := by decide +kernel
theorem dL_law_351 : decode cL_law 351 = .ok (.aload_n 1, 1) := by decide +kernel
theorem dL_law_352 : decode cL_law 352 = .ok (.iload 6, 2) := by decide +kernel
theorem dL_law_354 : decode cL_law 354 = .ok (.bipush 6, 2) := by decide +kernel
theorem dL_law_356 : decode cL_law 356 = .ok (.invokevirtual 146, 3) := by decide +kernel
theorem dL_law_359 : decode cL_law 359 = .ok (.iload 11, 2) := by decide +kernel
theorem dL_law_361 : decode cL_law 361 = .ok (.if_icmp .ne 53, 3) := by decide +kernel
theorem dL_law_364 : decode cL_law 364 = .ok (.aload_n 1, 1) := by decide +kernel
theorem dL_law_365 : decode cL_law 365 = .ok (.bipush 7, 2) := by decide +kernel
theorem dL_law_367 : decode cL_law 367 = .ok (.invokevirtual 124, 3) := by decide +kernel
theorem dL_law_370 : decode cL_law 370 = .ok (.iload 14, 2) := by decide +kernel
theorem dL_law_372 : decode cL_law 372 = .ok (.iload 16, 2) := by decide +kernel
theorem dL_law_374 : decode cL_law 374 = .ok (.iadd, 1) := by decide +kernel
theorem dL_law_375 : decode cL_law 375 = .ok (.if_icmp .ne 39, 3) := by decide +kernel
theorem dL_law_378 : decode cL_law 378 = .ok (.aload_n 1, 1) := by decide +kernel
theorem dL_law_379 : decode cL_law 379 = .ok (.iconst 5, 1) := by decide +kernel
theorem dL_law_380 : decode cL_law 380 = .ok (.invokevirtual 124, 3) := by decide +kernel
theorem dL_law_383 : decode cL_law 383 = .ok (.iload 15, 2) := by decide +kernel
theorem dL_law_385 : decode cL_law 385 = .ok (.iload 16, 2) := by decide +kernel
theorem dL_law_387 : decode cL_law 387 = .ok (.isub, 1) := by decide +kernel
theorem dL_law_388 : decode cL_law 388 = .ok (.if_icmp .ne 26, 3) := by decide +kernel
theorem dL_law_391 : decode cL_law 391 = .ok (.aload_n 1, 1) := by decide +kernel
theorem dL_law_392 : decode cL_law 392 = .ok (.bipush 6, 2) := by decide +kernel
theorem dL_law_394 : decode cL_law 394 = .ok (.invokevirtual 124, 3) := by decide +kernel
theorem dL_law_397 : decode cL_law 397 = .ok (.iload 13, 2) := by decide +kernel
theorem dL_law_399 : decode cL_law 399 = .ok (.if_icmp .ne 15, 3) := by decide +kernel
theorem dL_law_402 : decode cL_law 402 = .ok (.aload_n 1, 1) := by decide +kernel
theorem dL_law_403 : decode cL_law 403 = .ok (.iconst 0, 1) := by decide +kernel
theorem dL_law_404 : decode cL_law 404 = .ok (.invokevirtual 124, 3) := by decide +kernel
theorem dL_law_407 : decode cL_law 407 = .ok (.iload 4, 2) := by decide +kernel
theorem dL_law_409 : decode cL_law 409 = .ok (.iconst 1, 1) := by decide +kernel
theorem dL_law_410 : decode cL_law 410 = .ok (.iadd, 1) := by decide +kernel
theorem dL_law_411 : decode cL_law 411 = .ok (.if_icmp .eq 5, 3) := by decide +kernel
theorem dL_law_414 : decode cL_law 414 = .ok (.iconst 0, 1) := by decide +kernel
theorem dL_law_415 : decode cL_law 415 = .ok (.ireturn, 1) := by decide +kernel
theorem dL_law_416 : decode cL_law 416 = .ok (.iload 12, 2) := by decide +kernel
theorem dL_law_418 : decode cL_law 418 = .ok (.iconst 1, 1) := by decide +kernel
theorem dL_law_419 : decode cL_law 419 = .ok (.if_icmp .le 26, 3) := by decide +kernel
theorem dL_law_422 : decode cL_law 422 = .ok (.iload 12, 2) := by decide +kernel
theorem dL_law_424 : decode cL_law 424 = .ok (.sipush 200, 3) := by decide +kernel
theorem dL_law_427 : decode cL_law 427 = .ok (.if_icmp .ge 18, 3) := by decide +kernel
theorem dL_law_430 : decode cL_law 430 = .ok (.aload_n 1, 1) := by decide +kernel
theorem dL_law_431 : decode cL_law 431 = .ok (.iload 6, 2) := by decide +kernel
theorem dL_law_433 : decode cL_law 433 = .ok (.bipush 40, 2) := by decide +kernel
theorem dL_law_435 : decode cL_law 435 = .ok (.invokevirtual 138, 3) := by decide +kernel
theorem dL_law_438 : decode cL_law 438 = .ok (.iload 12, 2) := by decide +kernel
theorem dL_law_440 : decode cL_law 440 = .ok (.iconst 1, 1) := by decide +kernel
theorem dL_law_441 : decode cL_law 441 = .ok (.isub, 1) := by decide +kernel
theorem dL_law_442 : decode cL_law 442 = .ok (.if_icmp .ne 47, 3) := by decide +kernel
theorem dL_law_445 : decode cL_law 445 = .ok (.iload 12, 2) := by decide +kernel
theorem dL_law_447 : decode cL_law 447 = .ok (.iconst 1, 1) := by decide +kernel
theorem dL_law_448 : decode cL_law 448 = .ok (.if_icmp .ne 10, 3) := by decide +kernel
theorem dL_law_451 : decode cL_law 451 = .ok (.iload 10, 2) := by decide +kernel
theorem dL_law_453 : decode cL_law 453 = .ok (.bipush 40, 2) := by decide +kernel
theorem dL_law_455 : decode cL_law 455 = .ok (.if_icmp .ge 34, 3) := by decide +kernel
theorem dL_law_458 : decode cL_law 458 = .ok (.iload 12, 2) := by decide +kernel
theorem dL_law_460 : decode cL_law 460 = .ok (.ifCond .ne 31, 3) := by decide +kernel
theorem dL_law_463 : decode cL_law 463 = .ok (.aload_n 1, 1) := by decide +kernel
theorem dL_law_464 : decode cL_law 464 = .ok (.iload 6, 2) := by decide +kernel
theorem dL_law_466 : decode cL_law 466 = .ok (.iconst 5, 1) := by decide +kernel
theorem dL_law_467 : decode cL_law 467 = .ok (.invokevirtual 146, 3) := by decide +kernel
theorem dL_law_470 : decode cL_law 470 = .ok (.ifCond .lt 21, 3) := by decide +kernel
theorem dL_law_473 : decode cL_law 473 = .ok (.aload 8, 2) := by decide +kernel
theorem dL_law_475 : decode cL_law 475 = .ok (.aload 8, 2) := by decide +kernel
theorem dL_law_477 : decode cL_law 477 = .ok (.invokestatic 148, 3) := by decide +kernel
theorem dL_law_480 : decode cL_law 480 = .ok (.aaload, 1) := by decide +kernel
theorem dL_law_481 : decode cL_law 481 = .ok (.bipush 7, 2) := by decide +kernel
theorem dL_law_483 : decode cL_law 483 = .ok (.iaload, 1) := by decide +kernel
theorem dL_law_484 : decode cL_law 484 = .ok (.bipush 40, 2) := by decide +kernel
theorem dL_law_486 : decode cL_law 486 = .ok (.if_icmp .lt 5, 3) := by decide +kernel
theorem dL_law_489 : decode cL_law 489 = .ok (.iconst 0, 1) := by decide +kernel
theorem dL_law_490 : decode cL_law 490 = .ok (.ireturn, 1) := by decide +kernel
theorem dL_law_491 : decode cL_law 491 = .ok (.aload_n 1, 1) := by decide +kernel
theorem dL_law_492 : decode cL_law 492 = .ok (.iload 6, 2) := by decide +kernel
theorem dL_law_494 : decode cL_law 494 = .ok (.iconst 2, 1) := by decide +kernel
theorem dL_law_495 : decode cL_law 495 = .ok (.invokevirtual 146, 3) := by decide +kernel
theorem dL_law_498 : decode cL_law 498 = .ok (.istore 17, 2) := by decide +kernel
theorem dL_law_500 : decode cL_law 500 = .ok (.iconst 0, 1) := by decide +kernel
theorem dL_law_501 : decode cL_law 501 = .ok (.istore 18, 2) := by decide +kernel
theorem dL_law_503 : decode cL_law 503 = .ok (.iconst 0, 1) := by decide +kernel
theorem dL_law_504 : decode cL_law 504 = .ok (.istore 19, 2) := by decide +kernel
theorem dL_law_506 : decode cL_law 506 = .ok (.bipush 6, 2) := by decide +kernel
theorem dL_law_508 : decode cL_law 508 = .ok (.newarray .int, 2) := by decide +kernel
theorem dL_law_510 : decode cL_law 510 = .ok (.astore 20, 2) := by decide +kernel
theorem dL_law_512 : decode cL_law 512 = .ok (.iconst 0, 1) := by decide +kernel
theorem dL_law_513 : decode cL_law 513 = .ok (.istore 21, 2) := by decide +kernel
theorem dL_law_515 : decode cL_law 515 = .ok (.iload 21, 2) := by decide +kernel
theorem dL_law_517 : decode cL_law 517 = .ok (.iload 7, 2) := by decide +kernel
theorem dL_law_519 : decode cL_law 519 = .ok (.if_icmp .ge 369, 3) := by decide +kernel
theorem dL_law_522 : decode cL_law 522 = .ok (.iload 18, 2) := by decide +kernel
theorem dL_law_524 : decode cL_law 524 = .ok (.aload_n 1, 1) := by decide +kernel
theorem dL_law_525 : decode cL_law 525 = .ok (.iload 6, 2) := by decide +kernel
theorem dL_law_527 : decode cL_law 527 = .ok (.iload 21, 2) := by decide +kernel
theorem dL_law_529 : decode cL_law 529 = .ok (.bipush 6, 2) := by decide +kernel
theorem dL_law_531 : decode cL_law 531 = .ok (.invokevirtual 132, 3) := by decide +kernel
theorem dL_law_534 : decode cL_law 534 = .ok (.iadd, 1) := by decide +kernel
theorem dL_law_535 : decode cL_law 535 = .ok (.istore 18, 2) := by decide +kernel
theorem dL_law_537 : decode cL_law 537 = .ok (.iload 19, 2) := by decide +kernel
theorem dL_law_539 : decode cL_law 539 = .ok (.aload_n 1, 1) := by decide +kernel
theorem dL_law_540 : decode cL_law 540 = .ok (.iload 6, 2) := by decide +kernel
theorem dL_law_542 : decode cL_law 542 = .ok (.iload 21, 2) := by decide +kernel
theorem dL_law_544 : decode cL_law 544 = .ok (.bipush 7, 2) := by decide +kernel
theorem dL_law_546 : decode cL_law 546 = .ok (.invokevirtual 132, 3) := by decide +kernel
theorem dL_law_549 : decode cL_law 549 = .ok (.iadd, 1) := by decide +kernel
theorem dL_law_550 : decode cL_law 550 = .ok (.istore 19, 2) := by decide +kernel
theorem dL_law_552 : decode cL_law 552 = .ok (.aload_n 1, 1) := by decide +kernel
theorem dL_law_553 : decode cL_law 553 = .ok (.iload 6, 2) := by decide +kernel
theorem dL_law_555 : decode cL_law 555 = .ok (.iload 21, 2) := by decide +kernel
theorem dL_law_557 : decode cL_law 557 = .ok (.bipush 6, 2) := by decide +kernel
theorem dL_law_559 : decode cL_law 559 = .ok (.invokevirtual 132, 3) := by decide +kernel
theorem dL_law_562 : decode cL_law 562 = .ok (.sipush 300, 3) := by decide +kernel
theorem dL_law_565 : decode cL_law 565 = .ok (.if_icmp .gt 34, 3) := by decide +kernel
theorem dL_law_568 : decode cL_law 568 = .ok (.aload_n 1, 1) := by decide +kernel
theorem dL_law_569 : decode cL_law 569 = .ok (.iload 6, 2) := by decide +kernel
theorem dL_law_571 : decode cL_law 571 = .ok (.iload 21, 2) := by decide +kernel
theorem dL_law_573 : decode cL_law 573 = .ok (.bipush 7, 2) := by decide +kernel
theorem dL_law_575 : decode cL_law 575 = .ok (.invokevirtual 132, 3) := by decide +kernel
theorem dL_law_578 : decode cL_law 578 = .ok (.sipush 900, 3) := by decide +kernel
theorem dL_law_581 : decode cL_law 581 = .ok (.if_icmp .gt 18, 3) := by decide +kernel
theorem dL_law_584 : decode cL_law 584 = .ok (.aload_n 1, 1) := by decide +kernel
theorem dL_law_585 : decode cL_law 585 = .ok (.iload 6, 2) := by decide +kernel
theorem dL_law_587 : decode cL_law 587 = .ok (.iload 21, 2) := by decide +kernel
theorem dL_law_589 : decode cL_law 589 = .ok (.bipush 7, 2) := by decide +kernel
theorem dL_law_591 : decode cL_law 591 = .ok (.invokevirtual 132, 3) := by decide +kernel
theorem dL_law_594 : decode cL_law 594 = .ok (.iload 10, 2) := by decide +kernel
theorem dL_law_596 : decode cL_law 596 = .ok (.if_icmp .ge 5, 3) := by decide +kernel
theorem dL_law_599 : decode cL_law 599 = .ok (.iconst 0, 1) := by decide +kernel
theorem dL_law_600 : decode cL_law 600 = .ok (.ireturn, 1) := by decide +kernel
theorem dL_law_601 : decode cL_law 601 = .ok (.iconst 0, 1) := by decide +kernel
theorem dL_law_602 : decode cL_law 602 = .ok (.istore 22, 2) := by decide +kernel
theorem dL_law_604 : decode cL_law 604 = .ok (.iload 22, 2) := by decide +kernel
theorem dL_law_606 : decode cL_law 606 = .ok (.bipush 6, 2) := by decide +kernel
theorem dL_law_608 : decode cL_law 608 = .ok (.if_icmp .ge 94, 3) := by decide +kernel
theorem dL_law_611 : decode cL_law 611 = .ok (.aload_n 1, 1) := by decide +kernel
theorem dL_law_612 : decode cL_law 612 = .ok (.iload 6, 2) := by decide +kernel
theorem dL_law_614 : decode cL_law 614 = .ok (.iload 21, 2) := by decide +kernel
theorem dL_law_616 : decode cL_law 616 = .ok (.iload 22, 2) := by decide +kernel
theorem dL_law_618 : decode cL_law 618 = .ok (.invokevirtual 132, 3) := by decide +kernel
theorem dL_law_621 : decode cL_law 621 = .ok (.istore 23, 2) := by decide +kernel
theorem dL_law_623 : decode cL_law 623 = .ok (.iconst 0, 1) := by decide +kernel
theorem dL_law_624 : decode cL_law 624 = .ok (.iconst 2, 1) := by decide +kernel
theorem dL_law_625 : decode cL_law 625 = .ok (.iload 22, 2) := by decide +kernel
theorem dL_law_627 : decode cL_law 627 = .ok (.imul, 1) := by decide +kernel
theorem dL_law_628 : decode cL_law 628 = .ok (.iload 17, 2) := by decide +kernel
theorem dL_law_630 : decode cL_law 630 = .ok (.isub, 1) := by decide +kernel
theorem dL_law_631 : decode cL_law 631 = .ok (.invokestatic 82, 3) := by decide +kernel
theorem dL_law_634 : decode cL_law 634 = .ok (.istore 24, 2) := by decide +kernel
theorem dL_law_636 : decode cL_law 636 = .ok (.iload 23, 2) := by decide +kernel
theorem dL_law_638 : decode cL_law 638 = .ok (.ifCond .lt 37, 3) := by decide +kernel
theorem dL_law_641 : decode cL_law 641 = .ok (.iload 22, 2) := by decide +kernel
theorem dL_law_643 : decode cL_law 643 = .ok (.iconst 1, 1) := by decide +kernel
theorem dL_law_644 : decode cL_law 644 = .ok (.if_icmp .le 33, 3) := by decide +kernel
theorem dL_law_647 : decode cL_law 647 = .ok (.iload 23, 2) := by decide +kernel
theorem dL_law_649 : decode cL_law 649 = .ok (.aload 8, 2) := by decide +kernel
theorem dL_law_651 : decode cL_law 651 = .ok (.iload 21, 2) := by decide +kernel
theorem dL_law_653 : decode cL_law 653 = .ok (.aaload, 1) := by decide +kernel
theorem dL_law_654 : decode cL_law 654 = .ok (.iload 22, 2) := by decide +kernel
theorem dL_law_656 : decode cL_law 656 = .ok (.iaload, 1) := by decide +kernel
theorem dL_law_657 : decode cL_law 657 = .ok (.aload 8, 2) := by decide +kernel
theorem dL_law_659 : decode cL_law 659 = .ok (.iload 21, 2) := by decide +kernel
theorem dL_law_661 : decode cL_law 661 = .ok (.aaload, 1) := by decide +kernel
theorem dL_law_662 : decode cL_law 662 = .ok (.iload 22, 2) := by decide +kernel
theorem dL_law_664 : decode cL_law 664 = .ok (.iaload, 1) := by decide +kernel
theorem dL_law_665 : decode cL_law 665 = .ok (.iload 24, 2) := by decide +kernel
theorem dL_law_667 : decode cL_law 667 = .ok (.imul, 1) := by decide +kernel
theorem dL_law_668 : decode cL_law 668 = .ok (.bipush 30, 2) := by decide +kernel
theorem dL_law_670 : decode cL_law 670 = .ok (.idiv, 1) := by decide +kernel
theorem dL_law_671 : decode cL_law 671 = .ok (.isub, 1) := by decide +kernel
theorem dL_law_672 : decode cL_law 672 = .ok (.if_icmp .eq 5, 3) := by decide +kernel
theorem dL_law_675 : decode cL_law 675 = .ok (.iconst 0, 1) := by decide +kernel
theorem dL_law_676 : decode cL_law 676 = .ok (.ireturn, 1) := by decide +kernel
theorem dL_law_677 : decode cL_law 677 = .ok (.aload 20, 2) := by decide +kernel
theorem dL_law_679 : decode cL_law 679 = .ok (.iload 22, 2) := by decide +kernel
theorem dL_law_681 : decode cL_law 681 = .ok (.dup2, 1) := by decide +kernel
theorem dL_law_682 : decode cL_law 682 = .ok (.iaload, 1) := by decide +kernel
theorem dL_law_683 : decode cL_law 683 = .ok (.iload 23, 2) := by decide +kernel
theorem dL_law_685 : decode cL_law 685 = .ok (.aload 8, 2) := by decide +kernel
theorem dL_law_687 : decode cL_law 687 = .ok (.iload 21, 2) := by decide +kernel
theorem dL_law_689 : decode cL_law 689 = .ok (.aaload, 1) := by decide +kernel
theorem dL_law_690 : decode cL_law 690 = .ok (.iload 22, 2) := by decide +kernel
theorem dL_law_692 : decode cL_law 692 = .ok (.iaload, 1) := by decide +kernel
theorem dL_law_693 : decode cL_law 693 = .ok (.isub, 1) := by decide +kernel
theorem dL_law_694 : decode cL_law 694 = .ok (.iadd, 1) := by decide +kernel
theorem dL_law_695 : decode cL_law 695 = .ok (.iastore, 1) := by decide +kernel
theorem dL_law_696 : decode cL_law 696 = .ok (.iinc 22 1, 3) := by decide +kernel
theorem dL_law_699 : decode cL_law 699 = .ok (.goto (-95), 3) := by decide +kernel
theorem dL_law_702 : decode cL_law 702 = .ok (.aload_n 1, 1) := by decide +kernel
theorem dL_law_703 : decode cL_law 703 = .ok (.iload 6, 2) := by decide +kernel
theorem dL_law_705 : decode cL_law 705 = .ok (.iload 21, 2) := by decide +kernel
theorem dL_law_707 : decode cL_law 707 = .ok (.bipush 8, 2) := by decide +kernel
theorem dL_law_709 : decode cL_law 709 = .ok (.invokevirtual 132, 3) := by decide +kernel
theorem dL_law_712 : decode cL_law 712 = .ok (.iconst 1, 1) := by decide +kernel
theorem dL_law_713 : decode cL_law 713 = .ok (.if_icmp .eq 17, 3) := by decide +kernel
theorem dL_law_716 : decode cL_law 716 = .ok (.aload_n 1, 1) := by decide +kernel
theorem dL_law_717 : decode cL_law 717 = .ok (.iload 6, 2) := by decide +kernel
theorem dL_law_719 : decode cL_law 719 = .ok (.iload 21, 2) := by decide +kernel
theorem dL_law_721 : decode cL_law 721 = .ok (.bipush 9, 2) := by decide +kernel
theorem dL_law_723 : decode cL_law 723 = .ok (.invokevirtual 132, 3) := by decide +kernel
theorem dL_law_726 : decode cL_law 726 = .ok (.iconst 1, 1) := by decide +kernel
theorem dL_law_727 : decode cL_law 727 = .ok (.if_icmp .ne 7, 3) := by decide +kernel
theorem dL_law_730 : decode cL_law 730 = .ok (.iconst 1, 1) := by decide +kernel
theorem dL_law_731 : decode cL_law 731 = .ok (.goto 4, 3) := by decide +kernel
theorem dL_law_734 : decode cL_law 734 = .ok (.iconst 0, 1) := by decide +kernel
theorem dL_law_735 : decode cL_law 735 = .ok (.istore 22, 2) := by decide +kernel
theorem dL_law_737 : decode cL_law 737 = .ok (.iconst 0, 1) := by decide +kernel
theorem dL_law_738 : decode cL_law 738 = .ok (.istore 23, 2) := by decide +kernel
theorem dL_law_740 : decode cL_law 740 = .ok (.iload 23, 2) := by decide +kernel
theorem dL_law_742 : decode cL_law 742 = .ok (.iload 7, 2) := by decide +kernel
theorem dL_law_744 : decode cL_law 744 = .ok (.if_icmp .ge 73, 3) := by decide +kernel
theorem dL_law_747 : decode cL_law 747 = .ok (.iload 22, 2) := by decide +kernel
theorem dL_law_749 : decode cL_law 749 = .ok (.ifCond .ne 55, 3) := by decide +kernel
theorem dL_law_752 : decode cL_law 752 = .ok (.iload 23, 2) := by decide +kernel
theorem dL_law_754 : decode cL_law 754 = .ok (.iconst 1, 1) := by decide +kernel
theorem dL_law_755 : decode cL_law 755 = .ok (.iadd, 1) := by decide +kernel
theorem dL_law_756 : decode cL_law 756 = .ok (.iload 21, 2) := by decide +kernel
theorem dL_law_758 : decode cL_law 758 = .ok (.if_icmp .ne 17, 3) := by decide +kernel
theorem dL_law_761 : decode cL_law 761 = .ok (.aload_n 1, 1) := by decide +kernel
theorem dL_law_762 : decode cL_law 762 = .ok (.iload 6, 2) := by decide +kernel
theorem dL_law_764 : decode cL_law 764 = .ok (.iload 23, 2) := by decide +kernel
theorem dL_law_766 : decode cL_law 766 = .ok (.bipush 8, 2) := by decide +kernel
theorem dL_law_768 : decode cL_law 768 = .ok (.invokevirtual 132, 3) := by decide +kernel
theorem dL_law_771 : decode cL_law 771 = .ok (.iconst 1, 1) := by decide +kernel
theorem dL_law_772 : decode cL_law 772 = .ok (.if_icmp .eq 32, 3) := by decide +kernel
theorem dL_law_775 : decode cL_law 775 = .ok (.iload 23, 2) := by decide +kernel
theorem dL_law_777 : decode cL_law 777 = .ok (.aload_n 1, 1) := by decide +kernel
theorem dL_law_778 : decode cL_law 778 = .ok (.iload 6, 2) := by decide +kernel
theorem dL_law_780 : decode cL_law 780 = .ok (.iconst 0, 1) := by decide +kernel
theorem dL_law_781 : decode cL_law 781 = .ok (.invokevirtual 146, 3) := by decide +kernel
theorem dL_law_784 : decode cL_law 784 = .ok (.iadd, 1) := by decide +kernel
theorem dL_law_785 : decode cL_law 785 = .ok (.iload 21, 2) := by decide +kernel
theorem dL_law_787 : decode cL_law 787 = .ok (.if_icmp .ne 21, 3) := by decide +kernel
theorem dL_law_790 : decode cL_law 790 = .ok (.aload_n 1, 1) := by decide +kernel
theorem dL_law_791 : decode cL_law 791 = .ok (.iload 6, 2) := by decide +kernel
theorem dL_law_793 : decode cL_law 793 = .ok (.iload 23, 2) := by decide +kernel
theorem dL_law_795 : decode cL_law 795 = .ok (.bipush 9, 2) := by decide +kernel
theorem dL_law_797 : decode cL_law 797 = .ok (.invokevirtual 132, 3) := by decide +kernel
theorem dL_law_800 : decode cL_law 800 = .ok (.iconst 1, 1) := by decide +kernel
theorem dL_law_801 : decode cL_law 801 = .ok (.if_icmp .ne 7, 3) := by decide +kernel
theorem dL_law_804 : decode cL_law 804 = .ok (.iconst 1, 1) := by decide +kernel
theorem dL_law_805 : decode cL_law 805 = .ok (.goto 4, 3) := by decide +kernel
theorem dL_law_808 : decode cL_law 808 = .ok (.iconst 0, 1) := by decide +kernel
theorem dL_law_809 : decode cL_law 809 = .ok (.istore 22, 2) := by decide +kernel
theorem dL_law_811 : decode cL_law 811 = .ok (.iinc 23 1, 3) := by decide +kernel
theorem dL_law_814 : decode cL_law 814 = .ok (.goto (-74), 3) := by decide +kernel
theorem dL_law_817 : decode cL_law 817 = .ok (.iload 22, 2) := by decide +kernel
theorem dL_law_819 : decode cL_law 819 = .ok (.ifCond .ne 63, 3) := by decide +kernel
theorem dL_law_822 : decode cL_law 822 = .ok (.aload_n 1, 1) := by decide +kernel
theorem dL_law_823 : decode cL_law 823 = .ok (.iload 6, 2) := by decide +kernel
theorem dL_law_825 : decode cL_law 825 = .ok (.iload 21, 2) := by decide +kernel
theorem dL_law_827 : decode cL_law 827 = .ok (.iconst 0, 1) := by decide +kernel
theorem dL_law_828 : decode cL_law 828 = .ok (.invokevirtual 132, 3) := by decide +kernel
theorem dL_law_831 : decode cL_law 831 = .ok (.aload 8, 2) := by decide +kernel
theorem dL_law_833 : decode cL_law 833 = .ok (.iload 21, 2) := by decide +kernel
theorem dL_law_835 : decode cL_law 835 = .ok (.aaload, 1) := by decide +kernel
theorem dL_law_836 : decode cL_law 836 = .ok (.iconst 0, 1) := by decide +kernel
theorem dL_law_837 : decode cL_law 837 = .ok (.iaload, 1) := by decide +kernel
theorem dL_law_838 : decode cL_law 838 = .ok (.if_icmp .ne 42, 3) := by decide +kernel
theorem dL_law_841 : decode cL_law 841 = .ok (.aload_n 1, 1) := by decide +kernel
theorem dL_law_842 : decode cL_law 842 = .ok (.iload 6, 2) := by decide +kernel
theorem dL_law_844 : decode cL_law 844 = .ok (.iload 21, 2) := by decide +kernel
theorem dL_law_846 : decode cL_law 846 = .ok (.iconst 1, 1) := by decide +kernel
theorem dL_law_847 : decode cL_law 847 = .ok (.invokevirtual 132, 3) := by decide +kernel
theorem dL_law_850 : decode cL_law 850 = .ok (.aload 8, 2) := by decide +kernel
theorem dL_law_852 : decode cL_law 852 = .ok (.iload 21, 2) := by decide +kernel
theorem dL_law_854 : decode cL_law 854 = .ok (.aaload, 1) := by decide +kernel
theorem dL_law_855 : decode cL_law 855 = .ok (.iconst 1, 1) := by decide +kernel
theorem dL_law_856 : decode cL_law 856 = .ok (.iaload, 1) := by decide +kernel
theorem dL_law_857 : decode cL_law 857 = .ok (.aload 8, 2) := by decide +kernel
theorem dL_law_859 : decode cL_law 859 = .ok (.iload 21, 2) := by decide +kernel
theorem dL_law_861 : decode cL_law 861 = .ok (.aaload, 1) := by decide +kernel
theorem dL_law_862 : decode cL_law 862 = .ok (.iconst 1, 1) := by decide +kernel
theorem dL_law_863 : decode cL_law 863 = .ok (.iaload, 1) := by decide +kernel
theorem dL_law_864 : decode cL_law 864 = .ok (.iconst 0, 1) := by decide +kernel
theorem dL_law_865 : decode cL_law 865 = .ok (.iconst 2, 1) := by decide +kernel
theorem dL_law_866 : decode cL_law 866 = .ok (.iload 17, 2) := by decide +kernel
theorem dL_law_868 : decode cL_law 868 = .ok (.isub, 1) := by decide +kernel
theorem dL_law_869 : decode cL_law 869 = .ok (.invokestatic 82, 3) := by decide +kernel
theorem dL_law_872 : decode cL_law 872 = .ok (.imul, 1) := by decide +kernel
theorem dL_law_873 : decode cL_law 873 = .ok (.bipush 30, 2) := by decide +kernel
theorem dL_law_875 : decode cL_law 875 = .ok (.idiv, 1) := by decide +kernel
theorem dL_law_876 : decode cL_law 876 = .ok (.isub, 1) := by decide +kernel
theorem dL_law_877 : decode cL_law 877 = .ok (.if_icmp .eq 5, 3) := by decide +kernel
theorem dL_law_880 : decode cL_law 880 = .ok (.iconst 0, 1) := by decide +kernel
theorem dL_law_881 : decode cL_law 881 = .ok (.ireturn, 1) := by decide +kernel
theorem dL_law_882 : decode cL_law 882 = .ok (.iinc 21 1, 3) := by decide +kernel
theorem dL_law_885 : decode cL_law 885 = .ok (.goto (-370), 3) := by decide +kernel
theorem dL_law_888 : decode cL_law 888 = .ok (.iload 18, 2) := by decide +kernel
theorem dL_law_890 : decode cL_law 890 = .ok (.aload_n 1, 1) := by decide +kernel
theorem dL_law_891 : decode cL_law 891 = .ok (.iload 6, 2) := by decide +kernel
theorem dL_law_893 : decode cL_law 893 = .ok (.iconst 3, 1) := by decide +kernel
theorem dL_law_894 : decode cL_law 894 = .ok (.invokevirtual 146, 3) := by decide +kernel
theorem dL_law_897 : decode cL_law 897 = .ok (.if_icmp .ne 35, 3) := by decide +kernel
theorem dL_law_900 : decode cL_law 900 = .ok (.iload 19, 2) := by decide +kernel
theorem dL_law_902 : decode cL_law 902 = .ok (.aload_n 1, 1) := by decide +kernel
theorem dL_law_903 : decode cL_law 903 = .ok (.iload 6, 2) := by decide +kernel
theorem dL_law_905 : decode cL_law 905 = .ok (.iconst 4, 1) := by decide +kernel
theorem dL_law_906 : decode cL_law 906 = .ok (.invokevirtual 146, 3) := by decide +kernel
theorem dL_law_909 : decode cL_law 909 = .ok (.if_icmp .ne 23, 3) := by decide +kernel
theorem dL_law_912 : decode cL_law 912 = .ok (.aload 20, 2) := by decide +kernel
theorem dL_law_914 : decode cL_law 914 = .ok (.iconst 0, 1) := by decide +kernel
theorem dL_law_915 : decode cL_law 915 = .ok (.iaload, 1) := by decide +kernel
theorem dL_law_916 : decode cL_law 916 = .ok (.ifCond .ne 16, 3) := by decide +kernel
theorem dL_law_919 : decode cL_law 919 = .ok (.iload 17, 2) := by decide +kernel
theorem dL_law_921 : decode cL_law 921 = .ok (.iconst 1, 1) := by decide +kernel
theorem dL_law_922 : decode cL_law 922 = .ok (.if_icmp .le 12, 3) := by decide +kernel
theorem dL_law_925 : decode cL_law 925 = .ok (.aload 20, 2) := by decide +kernel
theorem dL_law_927 : decode cL_law 927 = .ok (.iconst 1, 1) := by decide +kernel
theorem dL_law_928 : decode cL_law 928 = .ok (.iaload, 1) := by decide +kernel
theorem dL_law_929 : decode cL_law 929 = .ok (.ifCond .eq 5, 3) := by decide +kernel
theorem dL_law_932 : decode cL_law 932 = .ok (.iconst 0, 1) := by decide +kernel
theorem dL_law_933 : decode cL_law 933 = .ok (.ireturn, 1) := by decide +kernel
theorem dL_law_934 : decode cL_law 934 = .ok (.iconst 0, 1) := by decide +kernel
theorem dL_law_935 : decode cL_law 935 = .ok (.istore 21, 2) := by decide +kernel
theorem dL_law_937 : decode cL_law 937 = .ok (.iload 21, 2) := by decide +kernel
theorem dL_law_939 : decode cL_law 939 = .ok (.aload_n 2, 1) := by decide +kernel
theorem dL_law_940 : decode cL_law 940 = .ok (.getfield 32, 3) := by decide +kernel
theorem dL_law_943 : decode cL_law 943 = .ok (.arraylength, 1) := by decide +kernel
theorem dL_law_944 : decode cL_law 944 = .ok (.if_icmp .ge 52, 3) := by decide +kernel
theorem dL_law_947 : decode cL_law 947 = .ok (.iconst 0, 1) := by decide +kernel
theorem dL_law_948 : decode cL_law 948 = .ok (.istore 22, 2) := by decide +kernel
theorem dL_law_950 : decode cL_law 950 = .ok (.iload 22, 2) := by decide +kernel
theorem dL_law_952 : decode cL_law 952 = .ok (.bipush 6, 2) := by decide +kernel
theorem dL_law_954 : decode cL_law 954 = .ok (.if_icmp .ge 36, 3) := by decide +kernel
theorem dL_law_957 : decode cL_law 957 = .ok (.aload_n 1, 1) := by decide +kernel
theorem dL_law_958 : decode cL_law 958 = .ok (.iload 21, 2) := by decide +kernel
theorem dL_law_960 : decode cL_law 960 = .ok (.iload 22, 2) := by decide +kernel
theorem dL_law_962 : decode cL_law 962 = .ok (.invokevirtual 152, 3) := by decide +kernel
theorem dL_law_965 : decode cL_law 965 = .ok (.sipush 500, 3) := by decide +kernel
theorem dL_law_968 : decode cL_law 968 = .ok (.if_icmp .gt 14, 3) := by decide +kernel
theorem dL_law_971 : decode cL_law 971 = .ok (.aload_n 1, 1) := by decide +kernel
theorem dL_law_972 : decode cL_law 972 = .ok (.iload 21, 2) := by decide +kernel
theorem dL_law_974 : decode cL_law 974 = .ok (.iload 22, 2) := by decide +kernel
theorem dL_law_976 : decode cL_law 976 = .ok (.invokevirtual 152, 3) := by decide +kernel
theorem dL_law_979 : decode cL_law 979 = .ok (.ifCond .ge 5, 3) := by decide +kernel
theorem dL_law_982 : decode cL_law 982 = .ok (.iconst 0, 1) := by decide +kernel
theorem dL_law_983 : decode cL_law 983 = .ok (.ireturn, 1) := by decide +kernel
theorem dL_law_984 : decode cL_law 984 = .ok (.iinc 22 1, 3) := by decide +kernel
theorem dL_law_987 : decode cL_law 987 = .ok (.goto (-37), 3) := by decide +kernel
theorem dL_law_990 : decode cL_law 990 = .ok (.iinc 21 1, 3) := by decide +kernel
theorem dL_law_993 : decode cL_law 993 = .ok (.goto (-56), 3) := by decide +kernel
theorem dL_law_996 : decode cL_law 996 = .ok (.aload_n 1, 1) := by decide +kernel
theorem dL_law_997 : decode cL_law 997 = .ok (.iconst 3, 1) := by decide +kernel
theorem dL_law_998 : decode cL_law 998 = .ok (.invokevirtual 124, 3) := by decide +kernel
theorem dL_law_1001 : decode cL_law 1001 = .ok (.aload_n 1, 1) := by decide +kernel
theorem dL_law_1002 : decode cL_law 1002 = .ok (.iconst 4, 1) := by decide +kernel
theorem dL_law_1003 : decode cL_law 1003 = .ok (.invokevirtual 124, 3) := by decide +kernel
theorem dL_law_1006 : decode cL_law 1006 = .ok (.iadd, 1) := by decide +kernel
theorem dL_law_1007 : decode cL_law 1007 = .ok (.aload_n 1, 1) := by decide +kernel
theorem dL_law_1008 : decode cL_law 1008 = .ok (.iconst 5, 1) := by decide +kernel
theorem dL_law_1009 : decode cL_law 1009 = .ok (.invokevirtual 124, 3) := by decide +kernel
theorem dL_law_1012 : decode cL_law 1012 = .ok (.iadd, 1) := by decide +kernel
theorem dL_law_1013 : decode cL_law 1013 = .ok (.aload_n 1, 1) := by decide +kernel
theorem dL_law_1014 : decode cL_law 1014 = .ok (.bipush 6, 2) := by decide +kernel
theorem dL_law_1016 : decode cL_law 1016 = .ok (.invokevirtual 124, 3) := by decide +kernel
theorem dL_law_1019 : decode cL_law 1019 = .ok (.iadd, 1) := by decide +kernel
theorem dL_law_1020 : decode cL_law 1020 = .ok (.aload_n 1, 1) := by decide +kernel
theorem dL_law_1021 : decode cL_law 1021 = .ok (.bipush 7, 2) := by decide +kernel
theorem dL_law_1023 : decode cL_law 1023 = .ok (.invokevirtual 124, 3) := by decide +kernel
theorem dL_law_1026 : decode cL_law 1026 = .ok (.iadd, 1) := by decide +kernel
theorem dL_law_1027 : decode cL_law 1027 = .ok (.iload_n 3, 1) := by decide +kernel
theorem dL_law_1028 : decode cL_law 1028 = .ok (.if_icmp .eq 5, 3) := by decide +kernel
theorem dL_law_1031 : decode cL_law 1031 = .ok (.iconst 0, 1) := by decide +kernel
theorem dL_law_1032 : decode cL_law 1032 = .ok (.ireturn, 1) := by decide +kernel
theorem dL_law_1033 : decode cL_law 1033 = .ok (.iinc 4 1, 3) := by decide +kernel
theorem dL_law_1036 : decode cL_law 1036 = .ok (.goto (-1007), 3) := by decide +kernel
theorem dL_law_1039 : decode cL_law 1039 = .ok (.iconst 1, 1) := by decide +kernel
theorem dL_law_1040 : decode cL_law 1040 = .ok (.ireturn, 1) := by decide +kernel
theorem dL_coldest_0 : decode cL_coldest 0 = .ok (.iconst 0, 1) := by decide +kernel
theorem dL_coldest_1 : decode cL_coldest 1 = .ok (.istore_n 1, 1) := by decide +kernel
theorem dL_coldest_2 : decode cL_coldest 2 = .ok (.iconst 0, 1) := by decide +kernel
theorem dL_coldest_3 : decode cL_coldest 3 = .ok (.istore_n 2, 1) := by decide +kernel
theorem dL_coldest_4 : decode cL_coldest 4 = .ok (.iload_n 2, 1) := by decide +kernel
theorem dL_coldest_5 : decode cL_coldest 5 = .ok (.aload_n 0, 1) := by decide +kernel
theorem dL_coldest_6 : decode cL_coldest 6 = .ok (.arraylength, 1) := by decide +kernel
theorem dL_coldest_7 : decode cL_coldest 7 = .ok (.if_icmp .ge 26, 3) := by decide +kernel
theorem dL_coldest_10 : decode cL_coldest 10 = .ok (.aload_n 0, 1) := by decide +kernel
theorem dL_coldest_11 : decode cL_coldest 11 = .ok (.iload_n 2, 1) := by decide +kernel
theorem dL_coldest_12 : decode cL_coldest 12 = .ok (.aaload, 1) := by decide +kernel
theorem dL_coldest_13 : decode cL_coldest 13 = .ok (.bipush 7, 2) := by decide +kernel
theorem dL_coldest_15 : decode cL_coldest 15 = .ok (.iaload, 1) := by decide +kernel
theorem dL_coldest_16 : decode cL_coldest 16 = .ok (.aload_n 0, 1) := by decide +kernel
theorem dL_coldest_17 : decode cL_coldest 17 = .ok (.iload_n 1, 1) := by decide +kernel
theorem dL_coldest_18 : decode cL_coldest 18 = .ok (.aaload, 1) := by decide +kernel
theorem dL_coldest_19 : decode cL_coldest 19 = .ok (.bipush 7, 2) := by decide +kernel
theorem dL_coldest_21 : decode cL_coldest 21 = .ok (.iaload, 1) := by decide +kernel
theorem dL_coldest_22 : decode cL_coldest 22 = .ok (.if_icmp .ge 5, 3) := by decide +kernel
theorem dL_coldest_25 : decode cL_coldest 25 = .ok (.iload_n 2, 1) := by decide +kernel
theorem dL_coldest_26 : decode cL_coldest 26 = .ok (.istore_n 1, 1) := by decide +kernel
theorem dL_coldest_27 : decode cL_coldest 27 = .ok (.iinc 2 1, 3) := by decide +kernel
theorem dL_coldest_30 : decode cL_coldest 30 = .ok (.goto (-26), 3) := by decide +kernel
theorem dL_coldest_33 : decode cL_coldest 33 = .ok (.iload_n 1, 1) := by decide +kernel
theorem dL_coldest_34 : decode cL_coldest 34 = .ok (.ireturn, 1) := by decide +kernel
abbrev vwCl : List vw_C := [(RJx4a65c, TJx4a65c, 3), (RX0, TX0, 2), (RX1, TX1, 2), (RX2, TX2, 7), (RX3, TX3, 8), (RX4, TX4, 8), (RX5, TX5, 5)]
