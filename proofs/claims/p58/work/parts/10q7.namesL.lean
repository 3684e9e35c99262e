theorem dL_cell_0 : decode cL_cell 0 = .ok (.iload_n 1, 1) := by decide +kernel
theorem dL_cell_1 : decode cL_cell 1 = .ok (.aload_n 0, 1) := by decide +kernel
theorem dL_cell_2 : decode cL_cell 2 = .ok (.arraylength, 1) := by decide +kernel
theorem dL_cell_3 : decode cL_cell 3 = .ok (.if_icmp .ge 9, 3) := by decide +kernel
theorem dL_cell_6 : decode cL_cell 6 = .ok (.aload_n 0, 1) := by decide +kernel
theorem dL_cell_7 : decode cL_cell 7 = .ok (.iload_n 1, 1) := by decide +kernel
theorem dL_cell_8 : decode cL_cell 8 = .ok (.iaload, 1) := by decide +kernel
theorem dL_cell_9 : decode cL_cell 9 = .ok (.goto 4, 3) := by decide +kernel
theorem dL_cell_12 : decode cL_cell 12 = .ok (.iconst 0, 1) := by decide +kernel
theorem dL_cell_13 : decode cL_cell 13 = .ok (.ireturn, 1) := by decide +kernel
theorem dL_in_0 : decode cL_in 0 = .ok (.iload_n 0, 1) := by decide +kernel
theorem dL_in_1 : decode cL_in 1 = .ok (.ldc 7, 2) := by decide +kernel
theorem dL_in_3 : decode cL_in 3 = .ok (.iand, 1) := by decide +kernel
theorem dL_in_4 : decode cL_in 4 = .ok (.iload_n 1, 1) := by decide +kernel
theorem dL_in_5 : decode cL_in 5 = .ok (.irem, 1) := by decide +kernel
theorem dL_in_6 : decode cL_in 6 = .ok (.ireturn, 1) := by decide +kernel
set_option maxRecDepth 20000 in
theorem ggL_put_J0_length_8abf5 : GoodIn wsL_put wsJ0_length_8abf5 := goodIn_r _ [9, 10, 11, 12, 13, 8, 14, 15, 16, 254, 255, 256, 257] rfl (by decide +kernel)
set_option maxRecDepth 20000 in
theorem gL_put_J0_length_8abf5 : GoodIn wsL_put (wsV RL 8 RJ0 yJ0_length_8abf5 wsJ0_length_8abf5) := goodIn_app (goodIn_r _ [5, 6, 7, 8] rfl (by decide +kernel)) ggL_put_J0_length_8abf5
set_option maxRecDepth 20000 in
theorem ggL_put_J4_init_da8c8 : GoodIn wsL_put wsJ4_init_da8c8 := goodIn_r _ [19, 20, 21, 22, 23, 24, 25, 26, 27, 28, 29, 30, 31, 32, 33, 34, 35, 36, 37, 38, 250, 251, 252, 253] rfl (by decide +kernel)
set_option maxRecDepth 20000 in
theorem gL_put_J4_init_da8c8 : GoodIn wsL_put (wsJ4_init_da8c8) := ggL_put_J4_init_da8c8
set_option maxRecDepth 20000 in
theorem ggL_put_J4_append_15ec4 : GoodIn wsL_put wsJ4_append_15ec4 := goodIn_r _ [42, 43, 44, 45, 46, 22, 47, 48, 49, 50, 51, 52, 53, 29, 54, 55, 56, 57, 58, 30, 59, 60, 61, 62, 63, 64, 65, 66, 67, 68, 69, 70, 71, 72, 73, 74, 75, 76, 77, 78, 79, 80, 81, 82, 83, 84, 85, 86, 28, 87, 88, 89, 90, 91, 92, 93, 94, 95, 96, 97, 98, 27, 99, 100, 33, 101, 102, 103, 104, 105, 106, 107, 108, 109, 110, 8, 111, 112, 113, 114, 115, 116, 117, 118, 119, 120, 121, 122, 6, 7, 9, 10, 11, 12, 13, 14, 15, 16, 123, 124, 125, 126, 127, 128, 129, 130, 131, 132, 133, 134, 135, 136, 137, 138, 31, 32, 34, 35, 36, 37, 38, 139, 140, 141, 142, 143, 144, 145, 146, 147, 148, 149, 150, 151, 152, 153, 154, 155, 156, 157, 158, 159, 160, 250, 251, 252, 253, 254, 255, 256, 257] rfl (by decide +kernel)
set_option maxRecDepth 20000 in
theorem gL_put_J4_append_15ec4 : GoodIn wsL_put (wsV RL 17 RJ4 yJ4_append_15ec4 wsJ4_append_15ec4) := goodIn_app (goodIn_r _ [39, 40, 41, 3] rfl (by decide +kernel)) ggL_put_J4_append_15ec4
set_option maxRecDepth 20000 in
theorem ggL_put_J4_toString_0e30d : GoodIn wsL_put wsJ4_toString_0e30d := goodIn_r _ [164, 165, 166, 8, 167, 168, 169, 170, 171, 172, 173, 25, 26, 16, 10, 15, 174, 175, 176, 177, 178, 22, 179, 29, 180, 181, 182, 183, 184, 3, 185, 186, 45, 187, 188, 48, 189, 95, 96, 97, 98, 27, 30, 190, 191, 79, 192, 81, 82, 83, 84, 85, 86, 193, 194, 195, 28, 87, 88, 71, 89, 90, 91, 92, 93, 196, 197, 198, 199, 200, 33, 201, 202, 203, 204, 146, 147, 148, 106, 107, 108, 149, 150, 151, 112, 152, 153, 115, 154, 205, 206, 207, 102, 120, 121, 35, 36, 37, 38, 208, 209, 210, 211, 254, 255, 256, 257, 250, 251, 252, 253] rfl (by decide +kernel)
set_option maxRecDepth 20000 in
theorem gL_put_J4_toString_0e30d : GoodIn wsL_put (wsV RL 23 RJ4 yJ4_toString_0e30d wsJ4_toString_0e30d) := goodIn_app (goodIn_r _ [161, 162, 163, 3] rfl (by decide +kernel)) ggL_put_J4_toString_0e30d
set_option maxRecDepth 20000 in
theorem ggL_put_J0_charAt_5068e : GoodIn wsL_put wsJ0_charAt_5068e := goodIn_r _ [215, 10, 216, 217, 218, 8, 219, 15, 16, 220, 221, 141, 222, 223, 224, 225, 112, 226, 227, 115, 228, 229, 230, 33, 231, 232, 233, 234, 106, 107, 108, 235, 205, 206, 207, 102, 120, 121, 254, 255, 256, 257] rfl (by decide +kernel)
set_option maxRecDepth 20000 in
theorem gL_put_J0_charAt_5068e : GoodIn wsL_put (wsV RL 27 RJ0 yJ0_charAt_5068e wsJ0_charAt_5068e) := goodIn_app (goodIn_r _ [212, 213, 214, 8] rfl (by decide +kernel)) ggL_put_J0_charAt_5068e
set_option maxRecDepth 20000 in
theorem ggL_put_X5_feed : GoodIn wsL_put wsX5_feed := goodIn_r _ [240, 241, 242, 243, 244, 245, 246, 247, 248, 249, 258, 259, 260, 261, 262, 263, 264, 265, 266, 267, 268, 269, 270, 271, 272, 273, 274, 275, 276] rfl (by decide +kernel)
set_option maxRecDepth 20000 in
theorem gL_put_X5_feed : GoodIn wsL_put (wsV RL 31 RX5 yX5_feed wsX5_feed) := goodIn_app (goodIn_r _ [236, 237, 238, 239] rfl (by decide +kernel)) ggL_put_X5_feed
theorem dL_put_0 : decode cL_put 0 = .ok (.aload_n 1, 1) := by decide +kernel
theorem dL_put_1 : decode cL_put 1 = .ok (.astore_n 2, 1) := by decide +kernel
theorem dL_put_2 : decode cL_put 2 = .ok (.aload_n 2, 1) := by decide +kernel
theorem dL_put_3 : decode cL_put 3 = .ok (.invokevirtual 8, 3) := by decide +kernel
theorem dL_put_6 : decode cL_put 6 = .ok (.bipush 20, 2) := by decide +kernel
theorem dL_put_8 : decode cL_put 8 = .ok (.irem, 1) := by decide +kernel
theorem dL_put_9 : decode cL_put 9 = .ok (.ifCond .eq 26, 3) := by decide +kernel
theorem dL_put_12 : decode cL_put 12 = .ok (.new 14, 3) := by decide +kernel
theorem dL_put_15 : decode cL_put 15 = .ok (.dup, 1) := by decide +kernel
theorem dL_put_16 : decode cL_put 16 = .ok (.invokespecial 16, 3) := by decide +kernel
theorem dL_put_19 : decode cL_put 19 = .ok (.aload_n 2, 1) := by decide +kernel
theorem dL_put_20 : decode cL_put 20 = .ok (.invokevirtual 17, 3) := by decide +kernel
theorem dL_put_23 : decode cL_put 23 = .ok (.ldc 21, 2) := by decide +kernel
theorem dL_put_25 : decode cL_put 25 = .ok (.invokevirtual 17, 3) := by decide +kernel
theorem dL_put_28 : decode cL_put 28 = .ok (.invokevirtual 23, 3) := by decide +kernel
theorem dL_put_31 : decode cL_put 31 = .ok (.astore_n 2, 1) := by decide +kernel
theorem dL_put_32 : decode cL_put 32 = .ok (.goto (-30), 3) := by decide +kernel
theorem dL_put_35 : decode cL_put 35 = .ok (.iconst 0, 1) := by decide +kernel
theorem dL_put_36 : decode cL_put 36 = .ok (.istore_n 3, 1) := by decide +kernel
theorem dL_put_37 : decode cL_put 37 = .ok (.iload_n 3, 1) := by decide +kernel
theorem dL_put_38 : decode cL_put 38 = .ok (.aload_n 2, 1) := by decide +kernel
theorem dL_put_39 : decode cL_put 39 = .ok (.invokevirtual 8, 3) := by decide +kernel
theorem dL_put_42 : decode cL_put 42 = .ok (.if_icmp .ge 84, 3) := by decide +kernel
theorem dL_put_45 : decode cL_put 45 = .ok (.iconst 5, 1) := by decide +kernel
theorem dL_put_46 : decode cL_put 46 = .ok (.newarray .int, 2) := by decide +kernel
theorem dL_put_48 : decode cL_put 48 = .ok (.astore 4, 2) := by decide +kernel
theorem dL_put_50 : decode cL_put 50 = .ok (.iconst 0, 1) := by decide +kernel
theorem dL_put_51 : decode cL_put 51 = .ok (.istore 5, 2) := by decide +kernel
theorem dL_put_53 : decode cL_put 53 = .ok (.iload 5, 2) := by decide +kernel
theorem dL_put_55 : decode cL_put 55 = .ok (.bipush 20, 2) := by decide +kernel
theorem dL_put_57 : decode cL_put 57 = .ok (.if_icmp .ge 38, 3) := by decide +kernel
theorem dL_put_60 : decode cL_put 60 = .ok (.aload 4, 2) := by decide +kernel
theorem dL_put_62 : decode cL_put 62 = .ok (.iload 5, 2) := by decide +kernel
theorem dL_put_64 : decode cL_put 64 = .ok (.iconst 4, 1) := by decide +kernel
theorem dL_put_65 : decode cL_put 65 = .ok (.idiv, 1) := by decide +kernel
theorem dL_put_66 : decode cL_put 66 = .ok (.dup2, 1) := by decide +kernel
theorem dL_put_67 : decode cL_put 67 = .ok (.iaload, 1) := by decide +kernel
theorem dL_put_68 : decode cL_put 68 = .ok (.aload_n 2, 1) := by decide +kernel
theorem dL_put_69 : decode cL_put 69 = .ok (.iload_n 3, 1) := by decide +kernel
theorem dL_put_70 : decode cL_put 70 = .ok (.iload 5, 2) := by decide +kernel
theorem dL_put_72 : decode cL_put 72 = .ok (.iadd, 1) := by decide +kernel
theorem dL_put_73 : decode cL_put 73 = .ok (.invokevirtual 27, 3) := by decide +kernel
theorem dL_put_76 : decode cL_put 76 = .ok (.bipush 24, 2) := by decide +kernel
theorem dL_put_78 : decode cL_put 78 = .ok (.bipush 8, 2) := by decide +kernel
theorem dL_put_80 : decode cL_put 80 = .ok (.iload 5, 2) := by decide +kernel
theorem dL_put_82 : decode cL_put 82 = .ok (.iconst 4, 1) := by decide +kernel
theorem dL_put_83 : decode cL_put 83 = .ok (.irem, 1) := by decide +kernel
theorem dL_put_84 : decode cL_put 84 = .ok (.imul, 1) := by decide +kernel
theorem dL_put_85 : decode cL_put 85 = .ok (.isub, 1) := by decide +kernel
theorem dL_put_86 : decode cL_put 86 = .ok (.ishl, 1) := by decide +kernel
theorem dL_put_87 : decode cL_put 87 = .ok (.ior, 1) := by decide +kernel
theorem dL_put_88 : decode cL_put 88 = .ok (.iastore, 1) := by decide +kernel
theorem dL_put_89 : decode cL_put 89 = .ok (.iinc 5 1, 3) := by decide +kernel
theorem dL_put_92 : decode cL_put 92 = .ok (.goto (-39), 3) := by decide +kernel
theorem dL_put_95 : decode cL_put 95 = .ok (.aload_n 0, 1) := by decide +kernel
theorem dL_put_96 : decode cL_put 96 = .ok (.aload 4, 2) := by decide +kernel
theorem dL_put_98 : decode cL_put 98 = .ok (.iconst 0, 1) := by decide +kernel
theorem dL_put_99 : decode cL_put 99 = .ok (.iaload, 1) := by decide +kernel
theorem dL_put_100 : decode cL_put 100 = .ok (.aload 4, 2) := by decide +kernel
theorem dL_put_102 : decode cL_put 102 = .ok (.iconst 1, 1) := by decide +kernel
theorem dL_put_103 : decode cL_put 103 = .ok (.iaload, 1) := by decide +kernel
theorem dL_put_104 : decode cL_put 104 = .ok (.aload 4, 2) := by decide +kernel
theorem dL_put_106 : decode cL_put 106 = .ok (.iconst 2, 1) := by decide +kernel
theorem dL_put_107 : decode cL_put 107 = .ok (.iaload, 1) := by decide +kernel
theorem dL_put_108 : decode cL_put 108 = .ok (.aload 4, 2) := by decide +kernel
theorem dL_put_110 : decode cL_put 110 = .ok (.iconst 3, 1) := by decide +kernel
theorem dL_put_111 : decode cL_put 111 = .ok (.iaload, 1) := by decide +kernel
theorem dL_put_112 : decode cL_put 112 = .ok (.aload 4, 2) := by decide +kernel
theorem dL_put_114 : decode cL_put 114 = .ok (.iconst 4, 1) := by decide +kernel
theorem dL_put_115 : decode cL_put 115 = .ok (.iaload, 1) := by decide +kernel
theorem dL_put_116 : decode cL_put 116 = .ok (.invokevirtual 31, 3) := by decide +kernel
theorem dL_put_119 : decode cL_put 119 = .ok (.pop, 1) := by decide +kernel
theorem dL_put_120 : decode cL_put 120 = .ok (.iinc 3 20, 3) := by decide +kernel
theorem dL_put_123 : decode cL_put 123 = .ok (.goto (-86), 3) := by decide +kernel
theorem dL_put_126 : decode cL_put 126 = .ok (.return_, 1) := by decide +kernel
set_option maxRecDepth 20000 in
theorem ggL_many_L_cell : GoodIn wsL_many wsL_cell := goodIn_r _ [4] rfl (by decide +kernel)
set_option maxRecDepth 20000 in
theorem gL_many_L_cell : GoodIn wsL_many (va_wsS RL 37 yL_cell wsL_cell) := goodIn_app (goodIn_r _ [1, 2, 3] rfl (by decide +kernel)) ggL_many_L_cell
set_option maxRecDepth 20000 in
theorem ggL_many_L_in : GoodIn wsL_many wsL_in := goodIn_r _ [7, 8] rfl (by decide +kernel)
set_option maxRecDepth 20000 in
theorem gL_many_L_in : GoodIn wsL_many (va_wsS RL 43 yL_in wsL_in) := goodIn_app (goodIn_r _ [5, 6, 3] rfl (by decide +kernel)) ggL_many_L_in
theorem dL_many_0 : decode cL_many 0 = .ok (.iconst 3, 1) := by decide +kernel
theorem dL_many_1 : decode cL_many 1 = .ok (.aload_n 0, 1) := by decide +kernel
theorem dL_many_2 : decode cL_many 2 = .ok (.iconst 0, 1) := by decide +kernel
theorem dL_many_3 : decode cL_many 3 = .ok (.invokestatic 37, 3) := by decide +kernel
theorem dL_many_6 : decode cL_many 6 = .ok (.bipush 18, 2) := by decide +kernel
theorem dL_many_8 : decode cL_many 8 = .ok (.invokestatic 43, 3) := by decide +kernel
theorem dL_many_11 : decode cL_many 11 = .ok (.iadd, 1) := by decide +kernel
theorem dL_many_12 : decode cL_many 12 = .ok (.ireturn, 1) := by decide +kernel
set_option maxRecDepth 20000 in
theorem ggL_block_L_cell : GoodIn wsL_block wsL_cell := goodIn_r _ [4] rfl (by decide +kernel)
set_option maxRecDepth 20000 in
theorem gL_block_L_cell : GoodIn wsL_block (va_wsS RL 37 yL_cell wsL_cell) := goodIn_app (goodIn_r _ [1, 2, 3] rfl (by decide +kernel)) ggL_block_L_cell
set_option maxRecDepth 20000 in
theorem ggL_block_L_in : GoodIn wsL_block wsL_in := goodIn_r _ [7, 8] rfl (by decide +kernel)
set_option maxRecDepth 20000 in
theorem gL_block_L_in : GoodIn wsL_block (va_wsS RL 43 yL_in wsL_in) := goodIn_app (goodIn_r _ [5, 6, 3] rfl (by decide +kernel)) ggL_block_L_in
theorem dL_block_0 : decode cL_block 0 = .ok (.iconst 2, 1) := by decide +kernel
theorem dL_block_1 : decode cL_block 1 = .ok (.aload_n 0, 1) := by decide +kernel
theorem dL_block_2 : decode cL_block 2 = .ok (.iconst 0, 1) := by decide +kernel
theorem dL_block_3 : decode cL_block 3 = .ok (.invokestatic 37, 3) := by decide +kernel
theorem dL_block_6 : decode cL_block 6 = .ok (.bipush 32, 2) := by decide +kernel
theorem dL_block_8 : decode cL_block 8 = .ok (.idiv, 1) := by decide +kernel
theorem dL_block_9 : decode cL_block 9 = .ok (.iconst 5, 1) := by decide +kernel
theorem dL_block_10 : decode cL_block 10 = .ok (.invokestatic 43, 3) := by decide +kernel
theorem dL_block_13 : decode cL_block 13 = .ok (.iadd, 1) := by decide +kernel
theorem dL_block_14 : decode cL_block 14 = .ok (.ireturn, 1) := by decide +kernel
set_option maxRecDepth 20000 in
theorem ggL_ties_L_cell : GoodIn wsL_ties wsL_cell := goodIn_r _ [4] rfl (by decide +kernel)
set_option maxRecDepth 20000 in
theorem gL_ties_L_cell : GoodIn wsL_ties (va_wsS RL 37 yL_cell wsL_cell) := goodIn_app (goodIn_r _ [1, 2, 3] rfl (by decide +kernel)) ggL_ties_L_cell
set_option maxRecDepth 20000 in
theorem ggL_ties_L_in : GoodIn wsL_ties wsL_in := goodIn_r _ [7, 8] rfl (by decide +kernel)
set_option maxRecDepth 20000 in
theorem gL_ties_L_in : GoodIn wsL_ties (va_wsS RL 43 yL_in wsL_in) := goodIn_app (goodIn_r _ [5, 6, 3] rfl (by decide +kernel)) ggL_ties_L_in
theorem dL_ties_0 : decode cL_ties 0 = .ok (.aload_n 0, 1) := by decide +kernel
theorem dL_ties_1 : decode cL_ties 1 = .ok (.iconst 0, 1) := by decide +kernel
theorem dL_ties_2 : decode cL_ties 2 = .ok (.invokestatic 37, 3) := by decide +kernel
theorem dL_ties_5 : decode cL_ties 5 = .ok (.sipush 256, 3) := by decide +kernel
theorem dL_ties_8 : decode cL_ties 8 = .ok (.idiv, 1) := by decide +kernel
theorem dL_ties_9 : decode cL_ties 9 = .ok (.iconst 4, 1) := by decide +kernel
theorem dL_ties_10 : decode cL_ties 10 = .ok (.invokestatic 43, 3) := by decide +kernel
theorem dL_ties_13 : decode cL_ties 13 = .ok (.ireturn, 1) := by decide +kernel
set_option maxRecDepth 20000 in
theorem ggL_kinds_L_cell : GoodIn wsL_kinds wsL_cell := goodIn_r _ [4] rfl (by decide +kernel)
set_option maxRecDepth 20000 in
theorem gL_kinds_L_cell : GoodIn wsL_kinds (va_wsS RL 37 yL_cell wsL_cell) := goodIn_app (goodIn_r _ [1, 2, 3] rfl (by decide +kernel)) ggL_kinds_L_cell
set_option maxRecDepth 20000 in
theorem ggL_kinds_L_in : GoodIn wsL_kinds wsL_in := goodIn_r _ [7, 8] rfl (by decide +kernel)
set_option maxRecDepth 20000 in
theorem gL_kinds_L_in : GoodIn wsL_kinds (va_wsS RL 43 yL_in wsL_in) := goodIn_app (goodIn_r _ [5, 6, 3] rfl (by decide +kernel)) ggL_kinds_L_in
theorem dL_kinds_0 : decode cL_kinds 0 = .ok (.iconst 2, 1) := by decide +kernel
theorem dL_kinds_1 : decode cL_kinds 1 = .ok (.aload_n 0, 1) := by decide +kernel
theorem dL_kinds_2 : decode cL_kinds 2 = .ok (.iconst 0, 1) := by decide +kernel
theorem dL_kinds_3 : decode cL_kinds 3 = .ok (.invokestatic 37, 3) := by decide +kernel
theorem dL_kinds_6 : decode cL_kinds 6 = .ok (.sipush 1024, 3) := by decide +kernel
theorem dL_kinds_9 : decode cL_kinds 9 = .ok (.idiv, 1) := by decide +kernel
theorem dL_kinds_10 : decode cL_kinds 10 = .ok (.bipush 6, 2) := by decide +kernel
theorem dL_kinds_12 : decode cL_kinds 12 = .ok (.invokestatic 43, 3) := by decide +kernel
theorem dL_kinds_15 : decode cL_kinds 15 = .ok (.iadd, 1) := by decide +kernel
theorem dL_kinds_16 : decode cL_kinds 16 = .ok (.ireturn, 1) := by decide +kernel
set_option maxRecDepth 20000 in
theorem ggL_value_L_cell : GoodIn wsL_value wsL_cell := goodIn_r _ [4] rfl (by decide +kernel)
set_option maxRecDepth 20000 in
theorem gL_value_L_cell : GoodIn wsL_value (va_wsS RL 37 yL_cell wsL_cell) := goodIn_app (goodIn_r _ [1, 2, 3] rfl (by decide +kernel)) ggL_value_L_cell
set_option maxRecDepth 20000 in
theorem ggL_value_L_kinds : GoodIn wsL_value wsL_kinds := goodIn_r _ [7, 1, 2, 3, 4, 8, 9, 10, 11] rfl (by decide +kernel)
set_option maxRecDepth 20000 in
theorem gL_value_L_kinds : GoodIn wsL_value (va_wsS RL 47 yL_kinds wsL_kinds) := goodIn_app (goodIn_r _ [5, 6, 3] rfl (by decide +kernel)) ggL_value_L_kinds
set_option maxRecDepth 20000 in
theorem ggL_value_L_in : GoodIn wsL_value wsL_in := goodIn_r _ [10, 11] rfl (by decide +kernel)
set_option maxRecDepth 20000 in
theorem gL_value_L_in : GoodIn wsL_value (va_wsS RL 43 yL_in wsL_in) := goodIn_app (goodIn_r _ [8, 9, 3] rfl (by decide +kernel)) ggL_value_L_in
theorem dL_value_0 : decode cL_value 0 = .ok (.aload_n 0, 1) := by decide +kernel
theorem dL_value_1 : decode cL_value 1 = .ok (.iconst 1, 1) := by decide +kernel
theorem dL_value_2 : decode cL_value 2 = .ok (.iload_n 1, 1) := by decide +kernel
theorem dL_value_3 : decode cL_value 3 = .ok (.iconst 3, 1) := by decide +kernel
theorem dL_value_4 : decode cL_value 4 = .ok (.idiv, 1) := by decide +kernel
theorem dL_value_5 : decode cL_value 5 = .ok (.iadd, 1) := by decide +kernel
theorem dL_value_6 : decode cL_value 6 = .ok (.invokestatic 37, 3) := by decide +kernel
theorem dL_value_9 : decode cL_value 9 = .ok (.bipush 8, 2) := by decide +kernel
theorem dL_value_11 : decode cL_value 11 = .ok (.iload_n 1, 1) := by decide +kernel
theorem dL_value_12 : decode cL_value 12 = .ok (.iconst 3, 1) := by decide +kernel
theorem dL_value_13 : decode cL_value 13 = .ok (.irem, 1) := by decide +kernel
theorem dL_value_14 : decode cL_value 14 = .ok (.imul, 1) := by decide +kernel
theorem dL_value_15 : decode cL_value 15 = .ok (.ishr, 1) := by decide +kernel
theorem dL_value_16 : decode cL_value 16 = .ok (.aload_n 0, 1) := by decide +kernel
theorem dL_value_17 : decode cL_value 17 = .ok (.invokestatic 47, 3) := by decide +kernel
theorem dL_value_20 : decode cL_value 20 = .ok (.invokestatic 43, 3) := by decide +kernel
theorem dL_value_23 : decode cL_value 23 = .ok (.ireturn, 1) := by decide +kernel
set_option maxRecDepth 20000 in
theorem ggL_weight_L_cell : GoodIn wsL_weight wsL_cell := goodIn_r _ [4] rfl (by decide +kernel)
set_option maxRecDepth 20000 in
theorem gL_weight_L_cell : GoodIn wsL_weight (va_wsS RL 37 yL_cell wsL_cell) := goodIn_app (goodIn_r _ [1, 2, 3] rfl (by decide +kernel)) ggL_weight_L_cell
set_option maxRecDepth 20000 in
theorem ggL_weight_L_in : GoodIn wsL_weight wsL_in := goodIn_r _ [7, 8] rfl (by decide +kernel)
set_option maxRecDepth 20000 in
theorem gL_weight_L_in : GoodIn wsL_weight (va_wsS RL 43 yL_in wsL_in) := goodIn_app (goodIn_r _ [5, 6, 3] rfl (by decide +kernel)) ggL_weight_L_in
theorem dL_weight_0 : decode cL_weight 0 = .ok (.iconst 1, 1) := by decide +kernel
theorem dL_weight_1 : decode cL_weight 1 = .ok (.aload_n 0, 1) := by decide +kernel
theorem dL_weight_2 : decode cL_weight 2 = .ok (.iconst 1, 1) := by decide +kernel
theorem dL_weight_3 : decode cL_weight 3 = .ok (.iload_n 1, 1) := by decide +kernel
theorem dL_weight_4 : decode cL_weight 4 = .ok (.iconst 3, 1) := by decide +kernel
theorem dL_weight_5 : decode cL_weight 5 = .ok (.idiv, 1) := by decide +kernel
theorem dL_weight_6 : decode cL_weight 6 = .ok (.iadd, 1) := by decide +kernel
theorem dL_weight_7 : decode cL_weight 7 = .ok (.invokestatic 37, 3) := by decide +kernel
theorem dL_weight_10 : decode cL_weight 10 = .ok (.bipush 8, 2) := by decide +kernel
theorem dL_weight_12 : decode cL_weight 12 = .ok (.iload_n 1, 1) := by decide +kernel
theorem dL_weight_13 : decode cL_weight 13 = .ok (.iconst 3, 1) := by decide +kernel
theorem dL_weight_14 : decode cL_weight 14 = .ok (.irem, 1) := by decide +kernel
theorem dL_weight_15 : decode cL_weight 15 = .ok (.imul, 1) := by decide +kernel
theorem dL_weight_16 : decode cL_weight 16 = .ok (.iconst 4, 1) := by decide +kernel
theorem dL_weight_17 : decode cL_weight 17 = .ok (.iadd, 1) := by decide +kernel
theorem dL_weight_18 : decode cL_weight 18 = .ok (.ishr, 1) := by decide +kernel
theorem dL_weight_19 : decode cL_weight 19 = .ok (.iconst 3, 1) := by decide +kernel
theorem dL_weight_20 : decode cL_weight 20 = .ok (.invokestatic 43, 3) := by decide +kernel
theorem dL_weight_23 : decode cL_weight 23 = .ok (.iadd, 1) := by decide +kernel
theorem dL_weight_24 : decode cL_weight 24 = .ok (.ireturn, 1) := by decide +kernel
set_option maxRecDepth 20000 in
theorem ggL_desk_L_many : GoodIn wsL_desk wsL_many := goodIn_r _ [11, 12, 13, 10, 14, 15, 16, 17, 18] rfl (by decide +kernel)
set_option maxRecDepth 20000 in
theorem gL_desk_L_many : GoodIn wsL_desk (va_wsS RL 53 yL_many wsL_many) := goodIn_app (goodIn_r _ [8, 9, 10] rfl (by decide +kernel)) ggL_desk_L_many
set_option maxRecDepth 20000 in
theorem ggL_desk_J4_init_da8c8 : GoodIn wsL_desk wsJ4_init_da8c8 := goodIn_r _ [21, 22, 23, 24, 25, 26, 27, 28, 29, 30, 31, 32, 33, 34, 35, 36, 37, 38, 39, 40, 483, 484, 485, 486] rfl (by decide +kernel)
set_option maxRecDepth 20000 in
theorem gL_desk_J4_init_da8c8 : GoodIn wsL_desk (wsJ4_init_da8c8) := ggL_desk_J4_init_da8c8
set_option maxRecDepth 20000 in
theorem ggL_desk_J4_append_15ec4 : GoodIn wsL_desk wsJ4_append_15ec4 := goodIn_r _ [44, 45, 46, 47, 48, 24, 49, 50, 51, 52, 53, 54, 55, 31, 56, 57, 58, 59, 60, 32, 61, 62, 63, 64, 65, 66, 67, 68, 69, 70, 71, 72, 73, 74, 75, 76, 77, 78, 79, 80, 81, 82, 83, 84, 85, 86, 87, 88, 30, 89, 90, 91, 92, 93, 94, 95, 96, 97, 98, 99, 100, 29, 101, 102, 35, 103, 104, 105, 106, 107, 108, 109, 110, 111, 112, 113, 114, 115, 116, 117, 118, 119, 120, 121, 122, 123, 124, 125, 126, 127, 128, 129, 130, 131, 132, 133, 134, 135, 136, 137, 138, 139, 140, 141, 142, 143, 144, 145, 146, 147, 148, 149, 150, 151, 33, 34, 36, 37, 38, 39, 40, 152, 153, 154, 155, 156, 157, 158, 159, 160, 161, 162, 163, 164, 165, 166, 167, 168, 169, 170, 171, 172, 173, 483, 484, 485, 486, 499, 500, 501, 502] rfl (by decide +kernel)
set_option maxRecDepth 20000 in
theorem gL_desk_J4_append_15ec4 : GoodIn wsL_desk (wsV RL 17 RJ4 yJ4_append_15ec4 wsJ4_append_15ec4) := goodIn_app (goodIn_r _ [41, 42, 43, 3] rfl (by decide +kernel)) ggL_desk_J4_append_15ec4
set_option maxRecDepth 20000 in
theorem ggL_desk_L_value : GoodIn wsL_desk wsL_value := goodIn_r _ [176, 12, 13, 10, 14, 177, 178, 179, 15, 16, 17, 18] rfl (by decide +kernel)
set_option maxRecDepth 20000 in
theorem gL_desk_L_value : GoodIn wsL_desk (va_wsS RL 56 yL_value wsL_value) := goodIn_app (goodIn_r _ [174, 175, 10] rfl (by decide +kernel)) ggL_desk_L_value
set_option maxRecDepth 20000 in
theorem ggL_desk_J4_append_bf812 : GoodIn wsL_desk wsJ4_append_bf812 := goodIn_r _ [183, 184, 185, 47, 186, 24, 187, 50, 31, 188, 189, 190, 191, 56, 57, 58, 59, 60, 32, 61, 62, 63, 64, 65, 66, 67, 68, 69, 70, 71, 72, 73, 74, 75, 76, 77, 78, 79, 80, 81, 82, 83, 84, 85, 86, 87, 88, 30, 89, 90, 91, 92, 93, 94, 95, 96, 97, 98, 99, 100, 29, 192, 193, 194, 195, 196, 197, 198, 35, 199, 104, 105, 106, 107, 108, 109, 110, 111, 112, 113, 114, 115, 116, 117, 118, 119, 200, 201, 202, 203, 204, 120, 121, 122, 123, 124, 483, 484, 485, 486] rfl (by decide +kernel)
set_option maxRecDepth 20000 in
theorem gL_desk_J4_append_bf812 : GoodIn wsL_desk (wsV RL 59 RJ4 yJ4_append_bf812 wsJ4_append_bf812) := goodIn_app (goodIn_r _ [180, 181, 182, 3] rfl (by decide +kernel)) ggL_desk_J4_append_bf812
set_option maxRecDepth 20000 in
theorem ggL_desk_J4_toString_0e30d : GoodIn wsL_desk wsJ4_toString_0e30d := goodIn_r _ [208, 209, 210, 113, 211, 212, 213, 214, 215, 216, 217, 27, 28, 135, 129, 134, 218, 219, 220, 221, 222, 24, 223, 31, 224, 225, 226, 227, 228, 3, 229, 230, 47, 231, 232, 50, 233, 97, 98, 99, 100, 29, 32, 234, 235, 81, 236, 83, 84, 85, 86, 87, 88, 237, 238, 239, 30, 89, 90, 73, 91, 92, 93, 94, 95, 240, 241, 242, 243, 244, 35, 245, 246, 247, 248, 159, 160, 161, 108, 109, 110, 162, 163, 164, 115, 165, 166, 118, 167, 249, 250, 251, 104, 123, 124, 37, 38, 39, 40, 252, 253, 254, 255, 499, 500, 501, 502, 483, 484, 485, 486] rfl (by decide +kernel)
set_option maxRecDepth 20000 in
theorem gL_desk_J4_toString_0e30d : GoodIn wsL_desk (wsV RL 23 RJ4 yJ4_toString_0e30d wsJ4_toString_0e30d) := goodIn_app (goodIn_r _ [205, 206, 207, 3] rfl (by decide +kernel)) ggL_desk_J4_toString_0e30d
set_option maxRecDepth 20000 in
theorem ggL_desk_L_block : GoodIn wsL_desk wsL_block := goodIn_r _ [258, 12, 13, 10, 14, 15, 16, 17, 18] rfl (by decide +kernel)
set_option maxRecDepth 20000 in
theorem gL_desk_L_block : GoodIn wsL_desk (va_wsS RL 64 yL_block wsL_block) := goodIn_app (goodIn_r _ [256, 257, 10] rfl (by decide +kernel)) ggL_desk_L_block
set_option maxRecDepth 20000 in
theorem ggL_desk_L_ties : GoodIn wsL_desk wsL_ties := goodIn_r _ [261, 12, 13, 10, 14, 15, 16, 17, 18] rfl (by decide +kernel)
set_option maxRecDepth 20000 in
theorem gL_desk_L_ties : GoodIn wsL_desk (va_wsS RL 73 yL_ties wsL_ties) := goodIn_app (goodIn_r _ [259, 260, 10] rfl (by decide +kernel)) ggL_desk_L_ties
set_option maxRecDepth 20000 in
theorem ggL_desk_L_weight : GoodIn wsL_desk wsL_weight := goodIn_r _ [264, 12, 13, 10, 14, 15, 16, 17, 18] rfl (by decide +kernel)
set_option maxRecDepth 20000 in
theorem gL_desk_L_weight : GoodIn wsL_desk (va_wsS RL 78 yL_weight wsL_weight) := goodIn_app (goodIn_r _ [262, 263, 10] rfl (by decide +kernel)) ggL_desk_L_weight
set_option maxRecDepth 20000 in
theorem ggL_desk_X5_init : GoodIn wsL_desk wsX5_init := goodIn_r _ [267, 268, 27, 28, 269, 270, 271, 272, 273, 274, 275, 276, 277, 278, 279, 280, 281, 282, 283, 284, 285, 286, 287, 288, 289, 290, 291, 292, 293, 294, 295, 296, 297, 298, 299, 300, 301, 302, 303, 304, 305, 306, 307, 308, 309, 310, 311, 312, 313, 314, 315, 316, 317, 318, 319, 320, 321, 322, 323, 324, 325, 326, 327, 328, 329, 330, 331, 332, 333, 334, 335, 336, 337, 338, 339, 340, 341, 342, 343, 344, 503, 504, 505, 506, 507, 508, 509, 487, 488, 489, 490, 491, 492, 493, 494, 495, 496, 497, 498, 510, 511, 512, 513, 514, 515, 516, 517, 518, 519, 520, 521, 522, 523, 524, 525, 526, 527, 528, 529, 530, 531] rfl (by decide +kernel)
set_option maxRecDepth 20000 in
theorem gL_desk_X5_init : GoodIn wsL_desk (wsX5_init) := ggL_desk_X5_init
set_option maxRecDepth 20000 in
theorem ggL_desk_L_put : GoodIn wsL_desk wsL_put := goodIn_r _ [347, 1, 2, 3, 291, 348, 126, 127, 113, 128, 129, 130, 131, 132, 133, 134, 135, 19, 20, 21, 22, 23, 24, 25, 26, 27, 28, 29, 30, 31, 32, 33, 34, 35, 36, 37, 38, 39, 40, 41, 42, 43, 44, 45, 46, 47, 48, 49, 50, 51, 52, 53, 54, 55, 56, 57, 58, 59, 60, 61, 62, 63, 64, 65, 66, 67, 68, 69, 70, 71, 72, 73, 74, 75, 76, 77, 78, 79, 80, 81, 82, 83, 84, 85, 86, 87, 88, 89, 90, 91, 92, 93, 94, 95, 96, 97, 98, 99, 100, 101, 102, 103, 104, 105, 106, 107, 108, 109, 110, 111, 112, 114, 115, 116, 117, 118, 119, 120, 121, 122, 123, 124, 125, 136, 137, 138, 139, 140, 141, 142, 143, 144, 145, 146, 147, 148, 149, 150, 151, 152, 153, 154, 155, 156, 157, 158, 159, 160, 161, 162, 163, 164, 165, 166, 167, 168, 169, 170, 171, 172, 173, 205, 206, 207, 208, 209, 210, 211, 212, 213, 214, 215, 216, 217, 218, 219, 220, 221, 222, 223, 224, 225, 226, 227, 228, 229, 230, 231, 232, 233, 234, 235, 236, 237, 238, 239, 240, 241, 242, 243, 244, 245, 246, 247, 248, 249, 250, 251, 252, 253, 254, 255, 349, 350, 351, 352, 353, 354, 355, 356, 357, 358, 359, 360, 361, 362, 363, 364, 365, 366, 367, 368, 369, 370, 371, 372, 373, 374, 375, 7, 376, 272, 377, 378, 379, 380, 271, 381, 301, 302, 483, 484, 485, 486, 499, 500, 501, 502, 487, 488, 489, 490, 491, 492, 493, 494, 495, 496, 497, 498, 503, 504, 505, 506, 507, 508, 509] rfl (by decide +kernel)
set_option maxRecDepth 20000 in
theorem gL_desk_L_put : GoodIn wsL_desk (va_wsS RL 84 yL_put wsL_put) := goodIn_app (goodIn_r _ [345, 346, 10] rfl (by decide +kernel)) ggL_desk_L_put
set_option maxRecDepth 20000 in
theorem ggL_desk_J0_length_8abf5 : GoodIn wsL_desk wsJ0_length_8abf5 := goodIn_r _ [128, 129, 130, 131, 132, 113, 133, 134, 135, 499, 500, 501, 502] rfl (by decide +kernel)
set_option maxRecDepth 20000 in
theorem gL_desk_J0_length_8abf5 : GoodIn wsL_desk (wsV RL 8 RJ0 yJ0_length_8abf5 wsJ0_length_8abf5) := goodIn_app (goodIn_r _ [348, 126, 127, 113] rfl (by decide +kernel)) ggL_desk_J0_length_8abf5
set_option maxRecDepth 20000 in
theorem ggL_desk_X5_text : GoodIn wsL_desk wsX5_text := goodIn_r _ [385, 272, 377, 276, 280, 386, 387, 293, 388, 294, 389, 295, 285, 390, 296, 391, 392, 393, 275, 394, 312, 395, 313, 314, 315, 316, 317, 318, 319, 396, 397, 398, 399, 271, 400, 303, 304, 401, 402, 403, 404, 301, 305, 306, 405, 406, 407, 408, 409, 410, 411, 412, 413, 414, 415, 416, 417, 418, 419, 420, 421, 307, 422, 423, 90, 73, 91, 424, 425, 426, 427, 428, 429, 430, 431, 432, 126, 127, 113, 128, 129, 130, 131, 132, 133, 134, 135, 433, 350, 351, 352, 353, 354, 355, 356, 357, 358, 154, 359, 360, 361, 362, 115, 363, 364, 118, 365, 366, 367, 35, 368, 369, 370, 371, 108, 109, 110, 372, 249, 250, 251, 104, 123, 124, 434, 435, 436, 437, 438, 439, 440, 441, 442, 443, 444, 445, 7, 446, 447, 448, 449, 279, 450, 325, 323, 324, 451, 452, 453, 454, 455, 456, 457, 458, 459, 460, 461, 462, 463, 464, 465, 466, 467, 468, 469, 470, 471, 472, 473, 474, 475, 476, 477, 478, 479, 480, 481, 482, 487, 488, 489, 490, 491, 492, 493, 494, 495, 496, 497, 498, 503, 504, 505, 506, 507, 508, 509, 510, 511, 512, 513, 514, 515, 516, 517, 521, 522, 523, 518, 519, 520, 499, 500, 501, 502] rfl (by decide +kernel)
set_option maxRecDepth 20000 in
theorem gL_desk_X5_text : GoodIn wsL_desk (wsV RL 88 RX5 yX5_text wsX5_text) := goodIn_app (goodIn_r _ [382, 383, 384, 7] rfl (by decide +kernel)) ggL_desk_X5_text
theorem dL_desk_0 : decode cL_desk 0 = .ok (.ldc 51, 2) := by decide +kernel
theorem dL_desk_2 : decode cL_desk 2 = .ok (.astore_n 1, 1) := by decide +kernel
theorem dL_desk_3 : decode cL_desk 3 = .ok (.iconst 0, 1) := by decide +kernel
theorem dL_desk_4 : decode cL_desk 4 = .ok (.istore_n 2, 1) := by decide +kernel
theorem dL_desk_5 : decode cL_desk 5 = .ok (.iload_n 2, 1) := by decide +kernel
theorem dL_desk_6 : decode cL_desk 6 = .ok (.aload_n 0, 1) := by decide +kernel
theorem dL_desk_7 : decode cL_desk 7 = .ok (.invokestatic 53, 3) := by decide +kernel
theorem dL_desk_10 : decode cL_desk 10 = .ok (.if_icmp .ge 37, 3) := by decide +kernel
theorem dL_desk_13 : decode cL_desk 13 = .ok (.new 14, 3) := by decide +kernel
theorem dL_desk_16 : decode cL_desk 16 = .ok (.dup, 1) := by decide +kernel
theorem dL_desk_17 : decode cL_desk 17 = .ok (.invokespecial 16, 3) := by decide +kernel
theorem dL_desk_20 : decode cL_desk 20 = .ok (.aload_n 1, 1) := by decide +kernel
theorem dL_desk_21 : decode cL_desk 21 = .ok (.invokevirtual 17, 3) := by decide +kernel
theorem dL_desk_24 : decode cL_desk 24 = .ok (.ldc 21, 2) := by decide +kernel
theorem dL_desk_26 : decode cL_desk 26 = .ok (.invokevirtual 17, 3) := by decide +kernel
theorem dL_desk_29 : decode cL_desk 29 = .ok (.aload_n 0, 1) := by decide +kernel
theorem dL_desk_30 : decode cL_desk 30 = .ok (.iload_n 2, 1) := by decide +kernel
theorem dL_desk_31 : decode cL_desk 31 = .ok (.invokestatic 56, 3) := by decide +kernel
theorem dL_desk_34 : decode cL_desk 34 = .ok (.invokevirtual 59, 3) := by decide +kernel
theorem dL_desk_37 : decode cL_desk 37 = .ok (.invokevirtual 23, 3) := by decide +kernel
theorem dL_desk_40 : decode cL_desk 40 = .ok (.astore_n 1, 1) := by decide +kernel
theorem dL_desk_41 : decode cL_desk 41 = .ok (.iinc 2 1, 3) := by decide +kernel
theorem dL_desk_44 : decode cL_desk 44 = .ok (.goto (-39), 3) := by decide +kernel
theorem dL_desk_47 : decode cL_desk 47 = .ok (.new 14, 3) := by decide +kernel
theorem dL_desk_50 : decode cL_desk 50 = .ok (.dup, 1) := by decide +kernel
theorem dL_desk_51 : decode cL_desk 51 = .ok (.invokespecial 16, 3) := by decide +kernel
theorem dL_desk_54 : decode cL_desk 54 = .ok (.aload_n 1, 1) := by decide +kernel
theorem dL_desk_55 : decode cL_desk 55 = .ok (.invokevirtual 17, 3) := by decide +kernel
theorem dL_desk_58 : decode cL_desk 58 = .ok (.ldc 62, 2) := by decide +kernel
theorem dL_desk_60 : decode cL_desk 60 = .ok (.invokevirtual 17, 3) := by decide +kernel
theorem dL_desk_63 : decode cL_desk 63 = .ok (.aload_n 0, 1) := by decide +kernel
theorem dL_desk_64 : decode cL_desk 64 = .ok (.invokestatic 64, 3) := by decide +kernel
theorem dL_desk_67 : decode cL_desk 67 = .ok (.invokevirtual 59, 3) := by decide +kernel
theorem dL_desk_70 : decode cL_desk 70 = .ok (.ldc 67, 2) := by decide +kernel
theorem dL_desk_72 : decode cL_desk 72 = .ok (.invokevirtual 17, 3) := by decide +kernel
theorem dL_desk_75 : decode cL_desk 75 = .ok (.getstatic 69, 3) := by decide +kernel
theorem dL_desk_78 : decode cL_desk 78 = .ok (.aload_n 0, 1) := by decide +kernel
theorem dL_desk_79 : decode cL_desk 79 = .ok (.invokestatic 73, 3) := by decide +kernel
theorem dL_desk_82 : decode cL_desk 82 = .ok (.aaload, 1) := by decide +kernel
theorem dL_desk_83 : decode cL_desk 83 = .ok (.invokevirtual 17, 3) := by decide +kernel
theorem dL_desk_86 : decode cL_desk 86 = .ok (.ldc 76, 2) := by decide +kernel
theorem dL_desk_88 : decode cL_desk 88 = .ok (.invokevirtual 17, 3) := by decide +kernel
theorem dL_desk_91 : decode cL_desk 91 = .ok (.invokevirtual 23, 3) := by decide +kernel
theorem dL_desk_94 : decode cL_desk 94 = .ok (.astore_n 1, 1) := by decide +kernel
theorem dL_desk_95 : decode cL_desk 95 = .ok (.iconst 0, 1) := by decide +kernel
theorem dL_desk_96 : decode cL_desk 96 = .ok (.istore_n 2, 1) := by decide +kernel
theorem dL_desk_97 : decode cL_desk 97 = .ok (.iload_n 2, 1) := by decide +kernel
theorem dL_desk_98 : decode cL_desk 98 = .ok (.aload_n 0, 1) := by decide +kernel
theorem dL_desk_99 : decode cL_desk 99 = .ok (.invokestatic 53, 3) := by decide +kernel
theorem dL_desk_102 : decode cL_desk 102 = .ok (.if_icmp .ge 60, 3) := by decide +kernel
theorem dL_desk_105 : decode cL_desk 105 = .ok (.aload_n 0, 1) := by decide +kernel
theorem dL_desk_106 : decode cL_desk 106 = .ok (.iload_n 2, 1) := by decide +kernel
theorem dL_desk_107 : decode cL_desk 107 = .ok (.invokestatic 78, 3) := by decide +kernel
theorem dL_desk_110 : decode cL_desk 110 = .ok (.iconst 1, 1) := by decide +kernel
theorem dL_desk_111 : decode cL_desk 111 = .ok (.if_icmp .le 45, 3) := by decide +kernel
theorem dL_desk_114 : decode cL_desk 114 = .ok (.new 14, 3) := by decide +kernel
theorem dL_desk_117 : decode cL_desk 117 = .ok (.dup, 1) := by decide +kernel
theorem dL_desk_118 : decode cL_desk 118 = .ok (.invokespecial 16, 3) := by decide +kernel
theorem dL_desk_121 : decode cL_desk 121 = .ok (.aload_n 1, 1) := by decide +kernel
theorem dL_desk_122 : decode cL_desk 122 = .ok (.invokevirtual 17, 3) := by decide +kernel
theorem dL_desk_125 : decode cL_desk 125 = .ok (.ldc 81, 2) := by decide +kernel
theorem dL_desk_127 : decode cL_desk 127 = .ok (.invokevirtual 17, 3) := by decide +kernel
theorem dL_desk_130 : decode cL_desk 130 = .ok (.iload_n 2, 1) := by decide +kernel
theorem dL_desk_131 : decode cL_desk 131 = .ok (.invokevirtual 59, 3) := by decide +kernel
theorem dL_desk_134 : decode cL_desk 134 = .ok (.ldc 21, 2) := by decide +kernel
theorem dL_desk_136 : decode cL_desk 136 = .ok (.invokevirtual 17, 3) := by decide +kernel
theorem dL_desk_139 : decode cL_desk 139 = .ok (.aload_n 0, 1) := by decide +kernel
theorem dL_desk_140 : decode cL_desk 140 = .ok (.iload_n 2, 1) := by decide +kernel
theorem dL_desk_141 : decode cL_desk 141 = .ok (.invokestatic 78, 3) := by decide +kernel
theorem dL_desk_144 : decode cL_desk 144 = .ok (.invokevirtual 59, 3) := by decide +kernel
theorem dL_desk_147 : decode cL_desk 147 = .ok (.ldc 76, 2) := by decide +kernel
theorem dL_desk_149 : decode cL_desk 149 = .ok (.invokevirtual 17, 3) := by decide +kernel
theorem dL_desk_152 : decode cL_desk 152 = .ok (.invokevirtual 23, 3) := by decide +kernel
theorem dL_desk_155 : decode cL_desk 155 = .ok (.astore_n 1, 1) := by decide +kernel
theorem dL_desk_156 : decode cL_desk 156 = .ok (.iinc 2 1, 3) := by decide +kernel
theorem dL_desk_159 : decode cL_desk 159 = .ok (.goto (-62), 3) := by decide +kernel
theorem dL_desk_162 : decode cL_desk 162 = .ok (.new 32, 3) := by decide +kernel
theorem dL_desk_165 : decode cL_desk 165 = .ok (.dup, 1) := by decide +kernel
theorem dL_desk_166 : decode cL_desk 166 = .ok (.invokespecial 83, 3) := by decide +kernel
theorem dL_desk_169 : decode cL_desk 169 = .ok (.astore_n 2, 1) := by decide +kernel
theorem dL_desk_170 : decode cL_desk 170 = .ok (.aload_n 2, 1) := by decide +kernel
theorem dL_desk_171 : decode cL_desk 171 = .ok (.aload_n 1, 1) := by decide +kernel
theorem dL_desk_172 : decode cL_desk 172 = .ok (.invokestatic 84, 3) := by decide +kernel
theorem dL_desk_175 : decode cL_desk 175 = .ok (.aload_n 2, 1) := by decide +kernel
theorem dL_desk_176 : decode cL_desk 176 = .ok (.aload_n 1, 1) := by decide +kernel
theorem dL_desk_177 : decode cL_desk 177 = .ok (.invokevirtual 8, 3) := by decide +kernel
theorem dL_desk_180 : decode cL_desk 180 = .ok (.invokevirtual 88, 3) := by decide +kernel
theorem dL_desk_183 : decode cL_desk 183 = .ok (.iconst 2, 1) := by decide +kernel
theorem dL_desk_184 : decode cL_desk 184 = .ok (.if_icmp .le 7, 3) := by decide +kernel
theorem dL_desk_187 : decode cL_desk 187 = .ok (.aload_n 2, 1) := by decide +kernel
theorem dL_desk_188 : decode cL_desk 188 = .ok (.goto 4, 3) := by decide +kernel
theorem dL_desk_191 : decode cL_desk 191 = .ok (.aconst_null, 1) := by decide +kernel
theorem dL_desk_192 : decode cL_desk 192 = .ok (.areturn, 1) := by decide +kernel
set_option maxRecDepth 20000 in
theorem ggL_row_X5_count : GoodIn wsL_row wsX5_count := goodIn_r _ [6, 7, 8, 9, 10, 11, 12, 13, 14, 15, 16, 17, 18, 19, 20, 5, 21, 22, 23, 24, 25, 26, 27, 28, 29, 30, 31, 32, 33, 34, 35, 36, 37, 38, 39, 40, 41, 42, 43, 44, 45, 46, 47, 48, 49, 50, 51, 52, 53, 54, 85, 86, 87, 88, 89, 90, 91, 92, 93, 94, 95, 96, 97, 98, 99, 100, 101, 102, 103, 104, 105, 106, 107, 108, 109, 110, 111, 112, 113, 114, 115, 116, 117] rfl (by decide +kernel)
set_option maxRecDepth 20000 in
theorem gL_row_X5_count : GoodIn wsL_row (wsV RL 92 RX5 yX5_count wsX5_count) := goodIn_app (goodIn_r _ [2, 3, 4, 5] rfl (by decide +kernel)) ggL_row_X5_count
set_option maxRecDepth 20000 in
theorem ggL_row_X5_place : GoodIn wsL_row wsX5_place := goodIn_r _ [58, 59, 60, 61, 62, 7, 26, 63, 9, 64, 65, 66, 51, 67, 53, 68, 69, 70, 71, 72, 73, 74, 75, 76, 77, 78, 79, 80, 81, 82, 83, 84, 85, 86, 87, 88, 89, 90, 91, 92, 93, 94, 95, 96, 97, 98, 99] rfl (by decide +kernel)
set_option maxRecDepth 20000 in
theorem gL_row_X5_place : GoodIn wsL_row (wsV RL 95 RX5 yX5_place wsX5_place) := goodIn_app (goodIn_r _ [55, 56, 57, 5] rfl (by decide +kernel)) ggL_row_X5_place
theorem dL_row_0 : decode cL_row 0 = .ok (.aload_n 0, 1) := by decide +kernel
theorem dL_row_1 : decode cL_row 1 = .ok (.iconst 0, 1) := by decide +kernel
theorem dL_row_2 : decode cL_row 2 = .ok (.invokevirtual 92, 3) := by decide +kernel
theorem dL_row_5 : decode cL_row 5 = .ok (.newarray .int, 2) := by decide +kernel
theorem dL_row_7 : decode cL_row 7 = .ok (.astore_n 1, 1) := by decide +kernel
theorem dL_row_8 : decode cL_row 8 = .ok (.iconst 0, 1) := by decide +kernel
theorem dL_row_9 : decode cL_row 9 = .ok (.istore_n 2, 1) := by decide +kernel
theorem dL_row_10 : decode cL_row 10 = .ok (.iload_n 2, 1) := by decide +kernel
theorem dL_row_11 : decode cL_row 11 = .ok (.aload_n 1, 1) := by decide +kernel
theorem dL_row_12 : decode cL_row 12 = .ok (.arraylength, 1) := by decide +kernel
theorem dL_row_13 : decode cL_row 13 = .ok (.if_icmp .ge 18, 3) := by decide +kernel
theorem dL_row_16 : decode cL_row 16 = .ok (.aload_n 1, 1) := by decide +kernel
theorem dL_row_17 : decode cL_row 17 = .ok (.iload_n 2, 1) := by decide +kernel
theorem dL_row_18 : decode cL_row 18 = .ok (.aload_n 0, 1) := by decide +kernel
theorem dL_row_19 : decode cL_row 19 = .ok (.iload_n 2, 1) := by decide +kernel
theorem dL_row_20 : decode cL_row 20 = .ok (.iconst 0, 1) := by decide +kernel
theorem dL_row_21 : decode cL_row 21 = .ok (.invokevirtual 95, 3) := by decide +kernel
theorem dL_row_24 : decode cL_row 24 = .ok (.iastore, 1) := by decide +kernel
theorem dL_row_25 : decode cL_row 25 = .ok (.iinc 2 1, 3) := by decide +kernel
theorem dL_row_28 : decode cL_row 28 = .ok (.goto (-18), 3) := by decide +kernel
theorem dL_row_31 : decode cL_row 31 = .ok (.aload_n 1, 1) := by decide +kernel
theorem dL_row_32 : decode cL_row 32 = .ok (.areturn, 1) := by decide +kernel
theorem dL_counted_0 : decode cL_counted 0 = .ok (.bipush 12, 2) := by decide +kernel
theorem dL_counted_2 : decode cL_counted 2 = .ok (.iconst 3, 1) := by decide +kernel
theorem dL_counted_3 : decode cL_counted 3 = .ok (.multianewarray 98 2, 4) := by decide +kernel
theorem dL_counted_7 : decode cL_counted 7 = .ok (.astore_n 3, 1) := by decide +kernel
theorem dL_counted_8 : decode cL_counted 8 = .ok (.iload_n 1, 1) := by decide +kernel
theorem dL_counted_9 : decode cL_counted 9 = .ok (.istore 4, 2) := by decide +kernel
theorem dL_counted_11 : decode cL_counted 11 = .ok (.iload 4, 2) := by decide +kernel
theorem dL_counted_13 : decode cL_counted 13 = .ok (.iload_n 2, 1) := by decide +kernel
theorem dL_counted_14 : decode cL_counted 14 = .ok (.if_icmp .gt 52, 3) := by decide +kernel
theorem dL_counted_17 : decode cL_counted 17 = .ok (.aload_n 3, 1) := by decide +kernel
theorem dL_counted_18 : decode cL_counted 18 = .ok (.aload_n 0, 1) := by decide +kernel
theorem dL_counted_19 : decode cL_counted 19 = .ok (.iload 4, 2) := by decide +kernel
theorem dL_counted_21 : decode cL_counted 21 = .ok (.iaload, 1) := by decide +kernel
theorem dL_counted_22 : decode cL_counted 22 = .ok (.aaload, 1) := by decide +kernel
theorem dL_counted_23 : decode cL_counted 23 = .ok (.iconst 0, 1) := by decide +kernel
theorem dL_counted_24 : decode cL_counted 24 = .ok (.iaload, 1) := by decide +kernel
theorem dL_counted_25 : decode cL_counted 25 = .ok (.ifCond .ne 13, 3) := by decide +kernel
theorem dL_counted_28 : decode cL_counted 28 = .ok (.aload_n 3, 1) := by decide +kernel
theorem dL_counted_29 : decode cL_counted 29 = .ok (.aload_n 0, 1) := by decide +kernel
theorem dL_counted_30 : decode cL_counted 30 = .ok (.iload 4, 2) := by decide +kernel
theorem dL_counted_32 : decode cL_counted 32 = .ok (.iaload, 1) := by decide +kernel
theorem dL_counted_33 : decode cL_counted 33 = .ok (.aaload, 1) := by decide +kernel
theorem dL_counted_34 : decode cL_counted 34 = .ok (.iconst 1, 1) := by decide +kernel
theorem dL_counted_35 : decode cL_counted 35 = .ok (.iload 4, 2) := by decide +kernel
theorem dL_counted_37 : decode cL_counted 37 = .ok (.iastore, 1) := by decide +kernel
theorem dL_counted_38 : decode cL_counted 38 = .ok (.aload_n 3, 1) := by decide +kernel
theorem dL_counted_39 : decode cL_counted 39 = .ok (.aload_n 0, 1) := by decide +kernel
theorem dL_counted_40 : decode cL_counted 40 = .ok (.iload 4, 2) := by decide +kernel
theorem dL_counted_42 : decode cL_counted 42 = .ok (.iaload, 1) := by decide +kernel
theorem dL_counted_43 : decode cL_counted 43 = .ok (.aaload, 1) := by decide +kernel
theorem dL_counted_44 : decode cL_counted 44 = .ok (.iconst 0, 1) := by decide +kernel
theorem dL_counted_45 : decode cL_counted 45 = .ok (.dup2, 1) := by decide +kernel
theorem dL_counted_46 : decode cL_counted 46 = .ok (.iaload, 1) := by decide +kernel
theorem dL_counted_47 : decode cL_counted 47 = .ok (.iconst 1, 1) := by decide +kernel
theorem dL_counted_48 : decode cL_counted 48 = .ok (.iadd, 1) := by decide +kernel
theorem dL_counted_49 : decode cL_counted 49 = .ok (.iastore, 1) := by decide +kernel
theorem dL_counted_50 : decode cL_counted 50 = .ok (.aload_n 3, 1) := by decide +kernel
theorem dL_counted_51 : decode cL_counted 51 = .ok (.aload_n 0, 1) := by decide +kernel
theorem dL_counted_52 : decode cL_counted 52 = .ok (.iload 4, 2) := by decide +kernel
theorem dL_counted_54 : decode cL_counted 54 = .ok (.iaload, 1) := by decide +kernel
theorem dL_counted_55 : decode cL_counted 55 = .ok (.aaload, 1) := by decide +kernel
theorem dL_counted_56 : decode cL_counted 56 = .ok (.iconst 2, 1) := by decide +kernel
theorem dL_counted_57 : decode cL_counted 57 = .ok (.iload 4, 2) := by decide +kernel
theorem dL_counted_59 : decode cL_counted 59 = .ok (.iastore, 1) := by decide +kernel
theorem dL_counted_60 : decode cL_counted 60 = .ok (.iinc 4 1, 3) := by decide +kernel
theorem dL_counted_63 : decode cL_counted 63 = .ok (.goto (-52), 3) := by decide +kernel
theorem dL_counted_66 : decode cL_counted 66 = .ok (.aload_n 3, 1) := by decide +kernel
theorem dL_counted_67 : decode cL_counted 67 = .ok (.areturn, 1) := by decide +kernel
theorem dL_isAhead_0 : decode cL_isAhead 0 = .ok (.aload_n 0, 1) := by decide +kernel
theorem dL_isAhead_1 : decode cL_isAhead 1 = .ok (.iload_n 1, 1) := by decide +kernel
theorem dL_isAhead_2 : decode cL_isAhead 2 = .ok (.aaload, 1) := by decide +kernel
theorem dL_isAhead_3 : decode cL_isAhead 3 = .ok (.iconst 0, 1) := by decide +kernel
theorem dL_isAhead_4 : decode cL_isAhead 4 = .ok (.iaload, 1) := by decide +kernel
theorem dL_isAhead_5 : decode cL_isAhead 5 = .ok (.aload_n 0, 1) := by decide +kernel
theorem dL_isAhead_6 : decode cL_isAhead 6 = .ok (.iload_n 2, 1) := by decide +kernel
theorem dL_isAhead_7 : decode cL_isAhead 7 = .ok (.aaload, 1) := by decide +kernel
theorem dL_isAhead_8 : decode cL_isAhead 8 = .ok (.iconst 0, 1) := by decide +kernel
theorem dL_isAhead_9 : decode cL_isAhead 9 = .ok (.iaload, 1) := by decide +kernel
theorem dL_isAhead_10 : decode cL_isAhead 10 = .ok (.if_icmp .eq 22, 3) := by decide +kernel
theorem dL_isAhead_13 : decode cL_isAhead 13 = .ok (.aload_n 0, 1) := by decide +kernel
theorem dL_isAhead_14 : decode cL_isAhead 14 = .ok (.iload_n 1, 1) := by decide +kernel
theorem dL_isAhead_15 : decode cL_isAhead 15 = .ok (.aaload, 1) := by decide +kernel
theorem dL_isAhead_16 : decode cL_isAhead 16 = .ok (.iconst 0, 1) := by decide +kernel
theorem dL_isAhead_17 : decode cL_isAhead 17 = .ok (.iaload, 1) := by decide +kernel
theorem dL_isAhead_18 : decode cL_isAhead 18 = .ok (.aload_n 0, 1) := by decide +kernel
theorem dL_isAhead_19 : decode cL_isAhead 19 = .ok (.iload_n 2, 1) := by decide +kernel
theorem dL_isAhead_20 : decode cL_isAhead 20 = .ok (.aaload, 1) := by decide +kernel
theorem dL_isAhead_21 : decode cL_isAhead 21 = .ok (.iconst 0, 1) := by decide +kernel
theorem dL_isAhead_22 : decode cL_isAhead 22 = .ok (.iaload, 1) := by decide +kernel
theorem dL_isAhead_23 : decode cL_isAhead 23 = .ok (.if_icmp .le 7, 3) := by decide +kernel
theorem dL_isAhead_26 : decode cL_isAhead 26 = .ok (.iconst 1, 1) := by decide +kernel
theorem dL_isAhead_27 : decode cL_isAhead 27 = .ok (.goto 4, 3) := by decide +kernel
theorem dL_isAhead_30 : decode cL_isAhead 30 = .ok (.iconst 0, 1) := by decide +kernel
theorem dL_isAhead_31 : decode cL_isAhead 31 = .ok (.ireturn, 1) := by decide +kernel
theorem dL_isAhead_32 : decode cL_isAhead 32 = .ok (.iload_n 3, 1) := by decide +kernel
theorem dL_isAhead_33 : decode cL_isAhead 33 = .ok (.ifCond .ne 24, 3) := by decide +kernel
theorem dL_isAhead_36 : decode cL_isAhead 36 = .ok (.aload_n 0, 1) := by decide +kernel
theorem dL_isAhead_37 : decode cL_isAhead 37 = .ok (.iload_n 1, 1) := by decide +kernel
theorem dL_isAhead_38 : decode cL_isAhead 38 = .ok (.aaload, 1) := by decide +kernel
theorem dL_isAhead_39 : decode cL_isAhead 39 = .ok (.iconst 1, 1) := by decide +kernel
theorem dL_isAhead_40 : decode cL_isAhead 40 = .ok (.iaload, 1) := by decide +kernel
theorem dL_isAhead_41 : decode cL_isAhead 41 = .ok (.aload_n 0, 1) := by decide +kernel
theorem dL_isAhead_42 : decode cL_isAhead 42 = .ok (.iload_n 2, 1) := by decide +kernel
theorem dL_isAhead_43 : decode cL_isAhead 43 = .ok (.aaload, 1) := by decide +kernel
theorem dL_isAhead_44 : decode cL_isAhead 44 = .ok (.iconst 1, 1) := by decide +kernel
theorem dL_isAhead_45 : decode cL_isAhead 45 = .ok (.iaload, 1) := by decide +kernel
theorem dL_isAhead_46 : decode cL_isAhead 46 = .ok (.if_icmp .ge 7, 3) := by decide +kernel
theorem dL_isAhead_49 : decode cL_isAhead 49 = .ok (.iconst 1, 1) := by decide +kernel
theorem dL_isAhead_50 : decode cL_isAhead 50 = .ok (.goto 61, 3) := by decide +kernel
theorem dL_isAhead_53 : decode cL_isAhead 53 = .ok (.iconst 0, 1) := by decide +kernel
theorem dL_isAhead_54 : decode cL_isAhead 54 = .ok (.goto 57, 3) := by decide +kernel
theorem dL_isAhead_57 : decode cL_isAhead 57 = .ok (.iload_n 3, 1) := by decide +kernel
theorem dL_isAhead_58 : decode cL_isAhead 58 = .ok (.iconst 1, 1) := by decide +kernel
theorem dL_isAhead_59 : decode cL_isAhead 59 = .ok (.if_icmp .ne 24, 3) := by decide +kernel
theorem dL_isAhead_62 : decode cL_isAhead 62 = .ok (.aload_n 0, 1) := by decide +kernel
theorem dL_isAhead_63 : decode cL_isAhead 63 = .ok (.iload_n 1, 1) := by decide +kernel
theorem dL_isAhead_64 : decode cL_isAhead 64 = .ok (.aaload, 1) := by decide +kernel
theorem dL_isAhead_65 : decode cL_isAhead 65 = .ok (.iconst 2, 1) := by decide +kernel
theorem dL_isAhead_66 : decode cL_isAhead 66 = .ok (.iaload, 1) := by decide +kernel
theorem dL_isAhead_67 : decode cL_isAhead 67 = .ok (.aload_n 0, 1) := by decide +kernel
theorem dL_isAhead_68 : decode cL_isAhead 68 = .ok (.iload_n 2, 1) := by decide +kernel
theorem dL_isAhead_69 : decode cL_isAhead 69 = .ok (.aaload, 1) := by decide +kernel
theorem dL_isAhead_70 : decode cL_isAhead 70 = .ok (.iconst 2, 1) := by decide +kernel
theorem dL_isAhead_71 : decode cL_isAhead 71 = .ok (.iaload, 1) := by decide +kernel
theorem dL_isAhead_72 : decode cL_isAhead 72 = .ok (.if_icmp .le 7, 3) := by decide +kernel
theorem dL_isAhead_75 : decode cL_isAhead 75 = .ok (.iconst 1, 1) := by decide +kernel
theorem dL_isAhead_76 : decode cL_isAhead 76 = .ok (.goto 35, 3) := by decide +kernel
theorem dL_isAhead_79 : decode cL_isAhead 79 = .ok (.iconst 0, 1) := by decide +kernel
theorem dL_isAhead_80 : decode cL_isAhead 80 = .ok (.goto 31, 3) := by decide +kernel
theorem dL_isAhead_83 : decode cL_isAhead 83 = .ok (.iload_n 3, 1) := by decide +kernel
theorem dL_isAhead_84 : decode cL_isAhead 84 = .ok (.iconst 2, 1) := by decide +kernel
theorem dL_isAhead_85 : decode cL_isAhead 85 = .ok (.if_icmp .ne 16, 3) := by decide +kernel
theorem dL_isAhead_88 : decode cL_isAhead 88 = .ok (.iload_n 1, 1) := by decide +kernel
theorem dL_isAhead_89 : decode cL_isAhead 89 = .ok (.iload_n 2, 1) := by decide +kernel
theorem dL_isAhead_90 : decode cL_isAhead 90 = .ok (.if_icmp .ge 7, 3) := by decide +kernel
theorem dL_isAhead_93 : decode cL_isAhead 93 = .ok (.iconst 1, 1) := by decide +kernel
theorem dL_isAhead_94 : decode cL_isAhead 94 = .ok (.goto 17, 3) := by decide +kernel
theorem dL_isAhead_97 : decode cL_isAhead 97 = .ok (.iconst 0, 1) := by decide +kernel
theorem dL_isAhead_98 : decode cL_isAhead 98 = .ok (.goto 13, 3) := by decide +kernel
theorem dL_isAhead_101 : decode cL_isAhead 101 = .ok (.iload_n 1, 1) := by decide +kernel
theorem dL_isAhead_102 : decode cL_isAhead 102 = .ok (.iload_n 2, 1) := by decide +kernel
theorem dL_isAhead_103 : decode cL_isAhead 103 = .ok (.if_icmp .le 7, 3) := by decide +kernel
theorem dL_isAhead_106 : decode cL_isAhead 106 = .ok (.iconst 1, 1) := by decide +kernel
theorem dL_isAhead_107 : decode cL_isAhead 107 = .ok (.goto 4, 3) := by decide +kernel
theorem dL_isAhead_110 : decode cL_isAhead 110 = .ok (.iconst 0, 1) := by decide +kernel
theorem dL_isAhead_111 : decode cL_isAhead 111 = .ok (.ireturn, 1) := by decide +kernel
set_option maxRecDepth 20000 in
theorem ggL_ranked_L_isAhead : GoodIn wsL_ranked wsL_isAhead := goodIn_r _ [4] rfl (by decide +kernel)
set_option maxRecDepth 20000 in
theorem gL_ranked_L_isAhead : GoodIn wsL_ranked (va_wsS RL 100 yL_isAhead wsL_isAhead) := goodIn_app (goodIn_r _ [1, 2, 3] rfl (by decide +kernel)) ggL_ranked_L_isAhead
theorem dL_ranked_0 : decode cL_ranked 0 = .ok (.iconst 0, 1) := by decide +kernel
theorem dL_ranked_1 : decode cL_ranked 1 = .ok (.istore_n 3, 1) := by decide +kernel
theorem dL_ranked_2 : decode cL_ranked 2 = .ok (.iload_n 3, 1) := by decide +kernel
theorem dL_ranked_3 : decode cL_ranked 3 = .ok (.bipush 12, 2) := by decide +kernel
theorem dL_ranked_5 : decode cL_ranked 5 = .ok (.if_icmp .ge 83, 3) := by decide +kernel
theorem dL_ranked_8 : decode cL_ranked 8 = .ok (.aload_n 0, 1) := by decide +kernel
theorem dL_ranked_9 : decode cL_ranked 9 = .ok (.iload_n 3, 1) := by decide +kernel
theorem dL_ranked_10 : decode cL_ranked 10 = .ok (.aaload, 1) := by decide +kernel
theorem dL_ranked_11 : decode cL_ranked 11 = .ok (.iconst 0, 1) := by decide +kernel
theorem dL_ranked_12 : decode cL_ranked 12 = .ok (.iaload, 1) := by decide +kernel
theorem dL_ranked_13 : decode cL_ranked 13 = .ok (.ifCond .ne 6, 3) := by decide +kernel
theorem dL_ranked_16 : decode cL_ranked 16 = .ok (.goto 66, 3) := by decide +kernel
theorem dL_ranked_19 : decode cL_ranked 19 = .ok (.iconst 0, 1) := by decide +kernel
theorem dL_ranked_20 : decode cL_ranked 20 = .ok (.istore 4, 2) := by decide +kernel
theorem dL_ranked_22 : decode cL_ranked 22 = .ok (.iconst 0, 1) := by decide +kernel
theorem dL_ranked_23 : decode cL_ranked 23 = .ok (.istore 5, 2) := by decide +kernel
theorem dL_ranked_25 : decode cL_ranked 25 = .ok (.iload 5, 2) := by decide +kernel
theorem dL_ranked_27 : decode cL_ranked 27 = .ok (.bipush 12, 2) := by decide +kernel
theorem dL_ranked_29 : decode cL_ranked 29 = .ok (.if_icmp .ge 45, 3) := by decide +kernel
theorem dL_ranked_32 : decode cL_ranked 32 = .ok (.iload 4, 2) := by decide +kernel
theorem dL_ranked_34 : decode cL_ranked 34 = .ok (.iload 5, 2) := by decide +kernel
theorem dL_ranked_36 : decode cL_ranked 36 = .ok (.iload_n 3, 1) := by decide +kernel
theorem dL_ranked_37 : decode cL_ranked 37 = .ok (.if_icmp .eq 27, 3) := by decide +kernel
theorem dL_ranked_40 : decode cL_ranked 40 = .ok (.aload_n 0, 1) := by decide +kernel
theorem dL_ranked_41 : decode cL_ranked 41 = .ok (.iload 5, 2) := by decide +kernel
theorem dL_ranked_43 : decode cL_ranked 43 = .ok (.aaload, 1) := by decide +kernel
theorem dL_ranked_44 : decode cL_ranked 44 = .ok (.iconst 0, 1) := by decide +kernel
theorem dL_ranked_45 : decode cL_ranked 45 = .ok (.iaload, 1) := by decide +kernel
theorem dL_ranked_46 : decode cL_ranked 46 = .ok (.ifCond .le 18, 3) := by decide +kernel
theorem dL_ranked_49 : decode cL_ranked 49 = .ok (.aload_n 0, 1) := by decide +kernel
theorem dL_ranked_50 : decode cL_ranked 50 = .ok (.iload 5, 2) := by decide +kernel
theorem dL_ranked_52 : decode cL_ranked 52 = .ok (.iload_n 3, 1) := by decide +kernel
theorem dL_ranked_53 : decode cL_ranked 53 = .ok (.iload_n 2, 1) := by decide +kernel
theorem dL_ranked_54 : decode cL_ranked 54 = .ok (.invokestatic 100, 3) := by decide +kernel
theorem dL_ranked_57 : decode cL_ranked 57 = .ok (.ifCond .eq 7, 3) := by decide +kernel
theorem dL_ranked_60 : decode cL_ranked 60 = .ok (.iconst 1, 1) := by decide +kernel
theorem dL_ranked_61 : decode cL_ranked 61 = .ok (.goto 4, 3) := by decide +kernel
theorem dL_ranked_64 : decode cL_ranked 64 = .ok (.iconst 0, 1) := by decide +kernel
theorem dL_ranked_65 : decode cL_ranked 65 = .ok (.iadd, 1) := by decide +kernel
theorem dL_ranked_66 : decode cL_ranked 66 = .ok (.istore 4, 2) := by decide +kernel
theorem dL_ranked_68 : decode cL_ranked 68 = .ok (.iinc 5 1, 3) := by decide +kernel
theorem dL_ranked_71 : decode cL_ranked 71 = .ok (.goto (-46), 3) := by decide +kernel
theorem dL_ranked_74 : decode cL_ranked 74 = .ok (.iload 4, 2) := by decide +kernel
theorem dL_ranked_76 : decode cL_ranked 76 = .ok (.iload_n 1, 1) := by decide +kernel
theorem dL_ranked_77 : decode cL_ranked 77 = .ok (.if_icmp .ne 5, 3) := by decide +kernel
theorem dL_ranked_80 : decode cL_ranked 80 = .ok (.iload_n 3, 1) := by decide +kernel
theorem dL_ranked_81 : decode cL_ranked 81 = .ok (.ireturn, 1) := by decide +kernel
theorem dL_ranked_82 : decode cL_ranked 82 = .ok (.iinc 3 1, 3) := by decide +kernel
theorem dL_ranked_85 : decode cL_ranked 85 = .ok (.goto (-83), 3) := by decide +kernel
theorem dL_ranked_88 : decode cL_ranked 88 = .ok (.bipush (-2), 2) := by decide +kernel
theorem dL_ranked_90 : decode cL_ranked 90 = .ok (.ireturn, 1) := by decide +kernel
set_option maxRecDepth 20000 in
theorem ggL_isSpan_L_counted : GoodIn wsL_isSpan wsL_counted := goodIn_r _ [5, 6, 1] rfl (by decide +kernel)
set_option maxRecDepth 20000 in
theorem gL_isSpan_L_counted : GoodIn wsL_isSpan (va_wsS RL 104 yL_counted wsL_counted) := goodIn_app (goodIn_r _ [2, 3, 4] rfl (by decide +kernel)) ggL_isSpan_L_counted
set_option maxRecDepth 20000 in
theorem ggL_isSpan_L_ranked : GoodIn wsL_isSpan wsL_ranked := goodIn_r _ [9, 10, 11, 4, 12] rfl (by decide +kernel)
set_option maxRecDepth 20000 in
theorem gL_isSpan_L_ranked : GoodIn wsL_isSpan (va_wsS RL 108 yL_ranked wsL_ranked) := goodIn_app (goodIn_r _ [7, 8, 4] rfl (by decide +kernel)) ggL_isSpan_L_ranked
set_option maxRecDepth 20000 in
theorem ggL_isSpan_X5_ranked : GoodIn wsL_isSpan wsX5_ranked := goodIn_r _ [17, 18, 19, 20, 21, 22, 23, 24, 25, 26, 27, 28, 29, 16, 30, 31, 32, 33, 34, 35, 36, 37, 38, 39, 40, 41, 42, 43, 44, 45, 46, 47, 48, 49, 50, 51, 52, 53, 54, 55, 56, 57, 58, 59, 60, 61, 62, 63, 64, 65, 118, 119, 120, 121, 122, 123, 124, 125, 126, 127, 128, 129, 130, 131, 132, 133, 134, 135, 136, 137, 138, 139, 140] rfl (by decide +kernel)
set_option maxRecDepth 20000 in
theorem gL_isSpan_X5_ranked : GoodIn wsL_isSpan (wsV RL 112 RX5 yX5_ranked wsX5_ranked) := goodIn_app (goodIn_r _ [13, 14, 15, 16] rfl (by decide +kernel)) ggL_isSpan_X5_ranked
set_option maxRecDepth 20000 in
theorem ggL_isSpan_X5_mode : GoodIn wsL_isSpan wsX5_mode := goodIn_r _ [69, 18, 19, 70, 22, 23, 24, 25, 26, 27, 28, 29, 16, 30, 31, 32, 33, 34, 35, 36, 37, 38, 39, 40, 41, 42, 43, 44, 45, 46, 47, 48, 49, 50, 51, 52, 53, 54, 55, 56, 57, 62, 63, 64, 65, 118, 119, 120, 121, 122, 123, 124, 125, 126, 127, 128, 129, 130, 131, 132, 133, 134, 135, 136, 137, 138, 139, 140] rfl (by decide +kernel)
set_option maxRecDepth 20000 in
theorem gL_isSpan_X5_mode : GoodIn wsL_isSpan (wsV RL 115 RX5 yX5_mode wsX5_mode) := goodIn_app (goodIn_r _ [66, 67, 68, 16] rfl (by decide +kernel)) ggL_isSpan_X5_mode
set_option maxRecDepth 20000 in
theorem ggL_isSpan_X5_rank : GoodIn wsL_isSpan wsX5_rank := goodIn_r _ [74, 18, 19, 75, 20, 21, 22, 23, 24, 25, 26, 27, 76, 77, 16, 78, 31, 32, 33, 34, 35, 36, 37, 38, 39, 40, 41, 42, 43, 44, 45, 46, 47, 48, 49, 50, 51, 52, 53, 54, 55, 56, 57, 79, 118, 119, 120, 121, 122, 123, 124, 125, 126, 127, 128, 129, 130, 131, 132, 133, 134, 135, 136, 137, 138, 139, 140] rfl (by decide +kernel)
set_option maxRecDepth 20000 in
theorem gL_isSpan_X5_rank : GoodIn wsL_isSpan (wsV RL 119 RX5 yX5_rank wsX5_rank) := goodIn_app (goodIn_r _ [71, 72, 73, 16] rfl (by decide +kernel)) ggL_isSpan_X5_rank
set_option maxRecDepth 20000 in
theorem ggL_isSpan_X5_often : GoodIn wsL_isSpan wsX5_often := goodIn_r _ [83, 18, 22, 23, 24, 25, 26, 27, 76, 77, 16, 78, 84, 85, 86, 87, 88, 118, 119, 120, 121, 122, 123, 124, 125, 126, 127, 128, 129, 138, 139, 140] rfl (by decide +kernel)
set_option maxRecDepth 20000 in
theorem gL_isSpan_X5_often : GoodIn wsL_isSpan (wsV RL 122 RX5 yX5_often wsX5_often) := goodIn_app (goodIn_r _ [80, 81, 82, 16] rfl (by decide +kernel)) ggL_isSpan_X5_often
set_option maxRecDepth 20000 in
theorem ggL_isSpan_X5_ifTies : GoodIn wsL_isSpan wsX5_ifTies := goodIn_r _ [92, 18, 19, 36, 70, 22, 23, 24, 25, 26, 27, 37, 38, 39, 40, 41, 42, 43, 44, 45, 46, 47, 48, 49, 50, 51, 52, 53, 54, 55, 56, 57, 118, 119, 120, 121, 122, 123, 124, 125, 126, 127, 128, 129, 138, 139, 140, 130, 131, 132, 133, 134, 135, 136, 137] rfl (by decide +kernel)
set_option maxRecDepth 20000 in
theorem gL_isSpan_X5_ifTies : GoodIn wsL_isSpan (wsV RL 125 RX5 yX5_ifTies wsX5_ifTies) := goodIn_app (goodIn_r _ [89, 90, 91, 16] rfl (by decide +kernel)) ggL_isSpan_X5_ifTies
set_option maxRecDepth 20000 in
theorem ggL_isSpan_X5_unlike : GoodIn wsL_isSpan wsX5_unlike := goodIn_r _ [96, 18, 19, 20, 22, 23, 24, 25, 26, 27, 31, 32, 33, 16, 34, 35, 36, 37, 38, 39, 40, 41, 42, 43, 44, 45, 46, 47, 48, 49, 50, 51, 52, 53, 54, 55, 56, 57, 118, 119, 120, 121, 122, 123, 124, 125, 126, 127, 128, 129, 130, 131, 132, 133, 134, 135, 136, 137, 138, 139, 140] rfl (by decide +kernel)
set_option maxRecDepth 20000 in
theorem gL_isSpan_X5_unlike : GoodIn wsL_isSpan (wsV RL 128 RX5 yX5_unlike wsX5_unlike) := goodIn_app (goodIn_r _ [93, 94, 95, 16] rfl (by decide +kernel)) ggL_isSpan_X5_unlike
set_option maxRecDepth 20000 in
theorem ggL_isSpan_X5_majority : GoodIn wsL_isSpan wsX5_majority := goodIn_r _ [100, 18, 19, 70, 22, 23, 24, 25, 26, 27, 31, 32, 33, 16, 34, 35, 36, 37, 38, 39, 40, 41, 42, 43, 44, 45, 46, 47, 48, 49, 50, 51, 52, 53, 54, 55, 56, 57, 101, 102, 103, 104, 105, 106, 107, 108, 118, 119, 120, 121, 122, 123, 124, 125, 126, 127, 128, 129, 130, 131, 132, 133, 134, 135, 136, 137, 138, 139, 140] rfl (by decide +kernel)
set_option maxRecDepth 20000 in
theorem gL_isSpan_X5_majority : GoodIn wsL_isSpan (wsV RL 131 RX5 yX5_majority wsX5_majority) := goodIn_app (goodIn_r _ [97, 98, 99, 16] rfl (by decide +kernel)) ggL_isSpan_X5_majority
set_option maxRecDepth 20000 in
theorem ggL_isSpan_X5_heaviest : GoodIn wsL_isSpan wsX5_heaviest := goodIn_r _ [112, 18, 19, 70, 20, 21, 22, 23, 24, 25, 26, 27, 28, 29, 16, 30, 31, 32, 33, 34, 35, 36, 37, 38, 39, 40, 41, 42, 43, 44, 45, 46, 47, 48, 49, 50, 51, 52, 53, 54, 55, 56, 57, 113, 114, 115, 116, 88, 117, 79, 118, 119, 120, 121, 122, 123, 124, 125, 126, 127, 128, 129, 130, 131, 132, 133, 134, 135, 136, 137, 138, 139, 140] rfl (by decide +kernel)
set_option maxRecDepth 20000 in
theorem gL_isSpan_X5_heaviest : GoodIn wsL_isSpan (wsV RL 134 RX5 yX5_heaviest wsX5_heaviest) := goodIn_app (goodIn_r _ [109, 110, 111, 16] rfl (by decide +kernel)) ggL_isSpan_X5_heaviest
theorem dL_isSpan_0 : decode cL_isSpan 0 = .ok (.aload_n 1, 1) := by decide +kernel
theorem dL_isSpan_1 : decode cL_isSpan 1 = .ok (.iload_n 3, 1) := by decide +kernel
theorem dL_isSpan_2 : decode cL_isSpan 2 = .ok (.iload 4, 2) := by decide +kernel
theorem dL_isSpan_4 : decode cL_isSpan 4 = .ok (.invokestatic 104, 3) := by decide +kernel
theorem dL_isSpan_7 : decode cL_isSpan 7 = .ok (.astore 6, 2) := by decide +kernel
theorem dL_isSpan_9 : decode cL_isSpan 9 = .ok (.iconst 0, 1) := by decide +kernel
theorem dL_isSpan_10 : decode cL_isSpan 10 = .ok (.istore 7, 2) := by decide +kernel
theorem dL_isSpan_12 : decode cL_isSpan 12 = .ok (.iconst (-1), 1) := by decide +kernel
theorem dL_isSpan_13 : decode cL_isSpan 13 = .ok (.istore 8, 2) := by decide +kernel
theorem dL_isSpan_15 : decode cL_isSpan 15 = .ok (.iconst 0, 1) := by decide +kernel
theorem dL_isSpan_16 : decode cL_isSpan 16 = .ok (.istore 9, 2) := by decide +kernel
theorem dL_isSpan_18 : decode cL_isSpan 18 = .ok (.iconst 0, 1) := by decide +kernel
theorem dL_isSpan_19 : decode cL_isSpan 19 = .ok (.istore 10, 2) := by decide +kernel
theorem dL_isSpan_21 : decode cL_isSpan 21 = .ok (.aload 6, 2) := by decide +kernel
theorem dL_isSpan_23 : decode cL_isSpan 23 = .ok (.iload 10, 2) := by decide +kernel
theorem dL_isSpan_25 : decode cL_isSpan 25 = .ok (.iload 5, 2) := by decide +kernel
theorem dL_isSpan_27 : decode cL_isSpan 27 = .ok (.invokestatic 108, 3) := by decide +kernel
theorem dL_isSpan_30 : decode cL_isSpan 30 = .ok (.ifCond .lt 212, 3) := by decide +kernel
theorem dL_isSpan_33 : decode cL_isSpan 33 = .ok (.aload 6, 2) := by decide +kernel
theorem dL_isSpan_35 : decode cL_isSpan 35 = .ok (.iload 10, 2) := by decide +kernel
theorem dL_isSpan_37 : decode cL_isSpan 37 = .ok (.iload 5, 2) := by decide +kernel
theorem dL_isSpan_39 : decode cL_isSpan 39 = .ok (.invokestatic 108, 3) := by decide +kernel
theorem dL_isSpan_42 : decode cL_isSpan 42 = .ok (.istore 11, 2) := by decide +kernel
theorem dL_isSpan_44 : decode cL_isSpan 44 = .ok (.iconst 0, 1) := by decide +kernel
theorem dL_isSpan_45 : decode cL_isSpan 45 = .ok (.istore 12, 2) := by decide +kernel
theorem dL_isSpan_47 : decode cL_isSpan 47 = .ok (.iload_n 3, 1) := by decide +kernel
theorem dL_isSpan_48 : decode cL_isSpan 48 = .ok (.istore 13, 2) := by decide +kernel
theorem dL_isSpan_50 : decode cL_isSpan 50 = .ok (.iload 13, 2) := by decide +kernel
theorem dL_isSpan_52 : decode cL_isSpan 52 = .ok (.iload 4, 2) := by decide +kernel
theorem dL_isSpan_54 : decode cL_isSpan 54 = .ok (.if_icmp .gt 31, 3) := by decide +kernel
theorem dL_isSpan_57 : decode cL_isSpan 57 = .ok (.iload 12, 2) := by decide +kernel
theorem dL_isSpan_59 : decode cL_isSpan 59 = .ok (.aload_n 1, 1) := by decide +kernel
theorem dL_isSpan_60 : decode cL_isSpan 60 = .ok (.iload 13, 2) := by decide +kernel
theorem dL_isSpan_62 : decode cL_isSpan 62 = .ok (.iaload, 1) := by decide +kernel
theorem dL_isSpan_63 : decode cL_isSpan 63 = .ok (.iload 11, 2) := by decide +kernel
theorem dL_isSpan_65 : decode cL_isSpan 65 = .ok (.if_icmp .ne 10, 3) := by decide +kernel
theorem dL_isSpan_68 : decode cL_isSpan 68 = .ok (.aload_n 2, 1) := by decide +kernel
theorem dL_isSpan_69 : decode cL_isSpan 69 = .ok (.iload 13, 2) := by decide +kernel
theorem dL_isSpan_71 : decode cL_isSpan 71 = .ok (.iaload, 1) := by decide +kernel
theorem dL_isSpan_72 : decode cL_isSpan 72 = .ok (.goto 4, 3) := by decide +kernel
theorem dL_isSpan_75 : decode cL_isSpan 75 = .ok (.iconst 0, 1) := by decide +kernel
theorem dL_isSpan_76 : decode cL_isSpan 76 = .ok (.iadd, 1) := by decide +kernel
theorem dL_isSpan_77 : decode cL_isSpan 77 = .ok (.istore 12, 2) := by decide +kernel
theorem dL_isSpan_79 : decode cL_isSpan 79 = .ok (.iinc 13 1, 3) := by decide +kernel
theorem dL_isSpan_82 : decode cL_isSpan 82 = .ok (.goto (-32), 3) := by decide +kernel
theorem dL_isSpan_85 : decode cL_isSpan 85 = .ok (.iload 12, 2) := by decide +kernel
theorem dL_isSpan_87 : decode cL_isSpan 87 = .ok (.iload 9, 2) := by decide +kernel
theorem dL_isSpan_89 : decode cL_isSpan 89 = .ok (.if_icmp .le 11, 3) := by decide +kernel
theorem dL_isSpan_92 : decode cL_isSpan 92 = .ok (.iload 11, 2) := by decide +kernel
theorem dL_isSpan_94 : decode cL_isSpan 94 = .ok (.istore 8, 2) := by decide +kernel
theorem dL_isSpan_96 : decode cL_isSpan 96 = .ok (.iload 12, 2) := by decide +kernel
theorem dL_isSpan_98 : decode cL_isSpan 98 = .ok (.istore 9, 2) := by decide +kernel
theorem dL_isSpan_100 : decode cL_isSpan 100 = .ok (.iconst 4, 1) := by decide +kernel
theorem dL_isSpan_101 : decode cL_isSpan 101 = .ok (.newarray .int, 2) := by decide +kernel
theorem dL_isSpan_103 : decode cL_isSpan 103 = .ok (.dup, 1) := by decide +kernel
theorem dL_isSpan_104 : decode cL_isSpan 104 = .ok (.iconst 0, 1) := by decide +kernel
theorem dL_isSpan_105 : decode cL_isSpan 105 = .ok (.iload 11, 2) := by decide +kernel
theorem dL_isSpan_107 : decode cL_isSpan 107 = .ok (.iastore, 1) := by decide +kernel
theorem dL_isSpan_108 : decode cL_isSpan 108 = .ok (.dup, 1) := by decide +kernel
theorem dL_isSpan_109 : decode cL_isSpan 109 = .ok (.iconst 1, 1) := by decide +kernel
theorem dL_isSpan_110 : decode cL_isSpan 110 = .ok (.aload 6, 2) := by decide +kernel
theorem dL_isSpan_112 : decode cL_isSpan 112 = .ok (.iload 11, 2) := by decide +kernel
theorem dL_isSpan_114 : decode cL_isSpan 114 = .ok (.aaload, 1) := by decide +kernel
theorem dL_isSpan_115 : decode cL_isSpan 115 = .ok (.iconst 0, 1) := by decide +kernel
theorem dL_isSpan_116 : decode cL_isSpan 116 = .ok (.iaload, 1) := by decide +kernel
theorem dL_isSpan_117 : decode cL_isSpan 117 = .ok (.iastore, 1) := by decide +kernel
theorem dL_isSpan_118 : decode cL_isSpan 118 = .ok (.dup, 1) := by decide +kernel
theorem dL_isSpan_119 : decode cL_isSpan 119 = .ok (.iconst 2, 1) := by decide +kernel
theorem dL_isSpan_120 : decode cL_isSpan 120 = .ok (.aload 6, 2) := by decide +kernel
theorem dL_isSpan_122 : decode cL_isSpan 122 = .ok (.iload 11, 2) := by decide +kernel
theorem dL_isSpan_124 : decode cL_isSpan 124 = .ok (.aaload, 1) := by decide +kernel
theorem dL_isSpan_125 : decode cL_isSpan 125 = .ok (.iconst 1, 1) := by decide +kernel
theorem dL_isSpan_126 : decode cL_isSpan 126 = .ok (.iaload, 1) := by decide +kernel
theorem dL_isSpan_127 : decode cL_isSpan 127 = .ok (.iastore, 1) := by decide +kernel
theorem dL_isSpan_128 : decode cL_isSpan 128 = .ok (.dup, 1) := by decide +kernel
theorem dL_isSpan_129 : decode cL_isSpan 129 = .ok (.iconst 3, 1) := by decide +kernel
theorem dL_isSpan_130 : decode cL_isSpan 130 = .ok (.aload 6, 2) := by decide +kernel
theorem dL_isSpan_132 : decode cL_isSpan 132 = .ok (.iload 11, 2) := by decide +kernel
theorem dL_isSpan_134 : decode cL_isSpan 134 = .ok (.aaload, 1) := by decide +kernel
theorem dL_isSpan_135 : decode cL_isSpan 135 = .ok (.iconst 2, 1) := by decide +kernel
theorem dL_isSpan_136 : decode cL_isSpan 136 = .ok (.iaload, 1) := by decide +kernel
theorem dL_isSpan_137 : decode cL_isSpan 137 = .ok (.iastore, 1) := by decide +kernel
theorem dL_isSpan_138 : decode cL_isSpan 138 = .ok (.astore 13, 2) := by decide +kernel
theorem dL_isSpan_140 : decode cL_isSpan 140 = .ok (.iconst 0, 1) := by decide +kernel
theorem dL_isSpan_141 : decode cL_isSpan 141 = .ok (.istore 14, 2) := by decide +kernel
theorem dL_isSpan_143 : decode cL_isSpan 143 = .ok (.iload 14, 2) := by decide +kernel
theorem dL_isSpan_145 : decode cL_isSpan 145 = .ok (.iconst 4, 1) := by decide +kernel
theorem dL_isSpan_146 : decode cL_isSpan 146 = .ok (.if_icmp .ge 52, 3) := by decide +kernel
theorem dL_isSpan_149 : decode cL_isSpan 149 = .ok (.aload_n 0, 1) := by decide +kernel
theorem dL_isSpan_150 : decode cL_isSpan 150 = .ok (.iload_n 3, 1) := by decide +kernel
theorem dL_isSpan_151 : decode cL_isSpan 151 = .ok (.iload 4, 2) := by decide +kernel
theorem dL_isSpan_153 : decode cL_isSpan 153 = .ok (.iload 10, 2) := by decide +kernel
theorem dL_isSpan_155 : decode cL_isSpan 155 = .ok (.iload 14, 2) := by decide +kernel
theorem dL_isSpan_157 : decode cL_isSpan 157 = .ok (.invokevirtual 112, 3) := by decide +kernel
theorem dL_isSpan_160 : decode cL_isSpan 160 = .ok (.aload 13, 2) := by decide +kernel
theorem dL_isSpan_162 : decode cL_isSpan 162 = .ok (.iload 14, 2) := by decide +kernel
theorem dL_isSpan_164 : decode cL_isSpan 164 = .ok (.iaload, 1) := by decide +kernel
theorem dL_isSpan_165 : decode cL_isSpan 165 = .ok (.if_icmp .ne 25, 3) := by decide +kernel
theorem dL_isSpan_168 : decode cL_isSpan 168 = .ok (.iload 10, 2) := by decide +kernel
theorem dL_isSpan_170 : decode cL_isSpan 170 = .ok (.ifCond .ne 22, 3) := by decide +kernel
theorem dL_isSpan_173 : decode cL_isSpan 173 = .ok (.aload_n 0, 1) := by decide +kernel
theorem dL_isSpan_174 : decode cL_isSpan 174 = .ok (.iload_n 3, 1) := by decide +kernel
theorem dL_isSpan_175 : decode cL_isSpan 175 = .ok (.iload 4, 2) := by decide +kernel
theorem dL_isSpan_177 : decode cL_isSpan 177 = .ok (.iload 14, 2) := by decide +kernel
theorem dL_isSpan_179 : decode cL_isSpan 179 = .ok (.invokevirtual 115, 3) := by decide +kernel
theorem dL_isSpan_182 : decode cL_isSpan 182 = .ok (.aload 13, 2) := by decide +kernel
theorem dL_isSpan_184 : decode cL_isSpan 184 = .ok (.iload 14, 2) := by decide +kernel
theorem dL_isSpan_186 : decode cL_isSpan 186 = .ok (.iaload, 1) := by decide +kernel
theorem dL_isSpan_187 : decode cL_isSpan 187 = .ok (.if_icmp .eq 5, 3) := by decide +kernel
theorem dL_isSpan_190 : decode cL_isSpan 190 = .ok (.iconst 0, 1) := by decide +kernel
theorem dL_isSpan_191 : decode cL_isSpan 191 = .ok (.ireturn, 1) := by decide +kernel
theorem dL_isSpan_192 : decode cL_isSpan 192 = .ok (.iinc 14 1, 3) := by decide +kernel
theorem dL_isSpan_195 : decode cL_isSpan 195 = .ok (.goto (-52), 3) := by decide +kernel
theorem dL_isSpan_198 : decode cL_isSpan 198 = .ok (.aload_n 0, 1) := by decide +kernel
theorem dL_isSpan_199 : decode cL_isSpan 199 = .ok (.iload_n 3, 1) := by decide +kernel
theorem dL_isSpan_200 : decode cL_isSpan 200 = .ok (.iload 4, 2) := by decide +kernel
theorem dL_isSpan_202 : decode cL_isSpan 202 = .ok (.iload 11, 2) := by decide +kernel
theorem dL_isSpan_204 : decode cL_isSpan 204 = .ok (.invokevirtual 119, 3) := by decide +kernel
theorem dL_isSpan_207 : decode cL_isSpan 207 = .ok (.iload 10, 2) := by decide +kernel
theorem dL_isSpan_209 : decode cL_isSpan 209 = .ok (.if_icmp .ne 22, 3) := by decide +kernel
theorem dL_isSpan_212 : decode cL_isSpan 212 = .ok (.aload_n 0, 1) := by decide +kernel
theorem dL_isSpan_213 : decode cL_isSpan 213 = .ok (.iload_n 3, 1) := by decide +kernel
theorem dL_isSpan_214 : decode cL_isSpan 214 = .ok (.iload 4, 2) := by decide +kernel
theorem dL_isSpan_216 : decode cL_isSpan 216 = .ok (.iload 11, 2) := by decide +kernel
theorem dL_isSpan_218 : decode cL_isSpan 218 = .ok (.invokevirtual 122, 3) := by decide +kernel
theorem dL_isSpan_221 : decode cL_isSpan 221 = .ok (.aload 6, 2) := by decide +kernel
theorem dL_isSpan_223 : decode cL_isSpan 223 = .ok (.iload 11, 2) := by decide +kernel
theorem dL_isSpan_225 : decode cL_isSpan 225 = .ok (.aaload, 1) := by decide +kernel
theorem dL_isSpan_226 : decode cL_isSpan 226 = .ok (.iconst 0, 1) := by decide +kernel
theorem dL_isSpan_227 : decode cL_isSpan 227 = .ok (.iaload, 1) := by decide +kernel
theorem dL_isSpan_228 : decode cL_isSpan 228 = .ok (.if_icmp .eq 5, 3) := by decide +kernel
theorem dL_isSpan_231 : decode cL_isSpan 231 = .ok (.iconst 0, 1) := by decide +kernel
theorem dL_isSpan_232 : decode cL_isSpan 232 = .ok (.ireturn, 1) := by decide +kernel
theorem dL_isSpan_233 : decode cL_isSpan 233 = .ok (.iinc 7 1, 3) := by decide +kernel
theorem dL_isSpan_236 : decode cL_isSpan 236 = .ok (.iinc 10 1, 3) := by decide +kernel
theorem dL_isSpan_239 : decode cL_isSpan 239 = .ok (.goto (-218), 3) := by decide +kernel
theorem dL_isSpan_242 : decode cL_isSpan 242 = .ok (.iconst 0, 1) := by decide +kernel
theorem dL_isSpan_243 : decode cL_isSpan 243 = .ok (.istore 10, 2) := by decide +kernel
theorem dL_isSpan_245 : decode cL_isSpan 245 = .ok (.iload 10, 2) := by decide +kernel
theorem dL_isSpan_247 : decode cL_isSpan 247 = .ok (.iconst 4, 1) := by decide +kernel
theorem dL_isSpan_248 : decode cL_isSpan 248 = .ok (.if_icmp .ge 31, 3) := by decide +kernel
theorem dL_isSpan_251 : decode cL_isSpan 251 = .ok (.aload_n 0, 1) := by decide +kernel
theorem dL_isSpan_252 : decode cL_isSpan 252 = .ok (.iload 10, 2) := by decide +kernel
theorem dL_isSpan_254 : decode cL_isSpan 254 = .ok (.iload_n 3, 1) := by decide +kernel
theorem dL_isSpan_255 : decode cL_isSpan 255 = .ok (.iload 4, 2) := by decide +kernel
theorem dL_isSpan_257 : decode cL_isSpan 257 = .ok (.invokevirtual 125, 3) := by decide +kernel
theorem dL_isSpan_260 : decode cL_isSpan 260 = .ok (.aload 6, 2) := by decide +kernel
theorem dL_isSpan_262 : decode cL_isSpan 262 = .ok (.iconst 0, 1) := by decide +kernel
theorem dL_isSpan_263 : decode cL_isSpan 263 = .ok (.iload 10, 2) := by decide +kernel
theorem dL_isSpan_265 : decode cL_isSpan 265 = .ok (.invokestatic 108, 3) := by decide +kernel
theorem dL_isSpan_268 : decode cL_isSpan 268 = .ok (.if_icmp .eq 5, 3) := by decide +kernel
theorem dL_isSpan_271 : decode cL_isSpan 271 = .ok (.iconst 0, 1) := by decide +kernel
theorem dL_isSpan_272 : decode cL_isSpan 272 = .ok (.ireturn, 1) := by decide +kernel
theorem dL_isSpan_273 : decode cL_isSpan 273 = .ok (.iinc 10 1, 3) := by decide +kernel
theorem dL_isSpan_276 : decode cL_isSpan 276 = .ok (.goto (-31), 3) := by decide +kernel
theorem dL_isSpan_279 : decode cL_isSpan 279 = .ok (.aload 6, 2) := by decide +kernel
theorem dL_isSpan_281 : decode cL_isSpan 281 = .ok (.iconst 0, 1) := by decide +kernel
theorem dL_isSpan_282 : decode cL_isSpan 282 = .ok (.iload 5, 2) := by decide +kernel
theorem dL_isSpan_284 : decode cL_isSpan 284 = .ok (.invokestatic 108, 3) := by decide +kernel
theorem dL_isSpan_287 : decode cL_isSpan 287 = .ok (.istore 10, 2) := by decide +kernel
theorem dL_isSpan_289 : decode cL_isSpan 289 = .ok (.iconst 2, 1) := by decide +kernel
theorem dL_isSpan_290 : decode cL_isSpan 290 = .ok (.aload 6, 2) := by decide +kernel
theorem dL_isSpan_292 : decode cL_isSpan 292 = .ok (.iload 10, 2) := by decide +kernel
theorem dL_isSpan_294 : decode cL_isSpan 294 = .ok (.aaload, 1) := by decide +kernel
theorem dL_isSpan_295 : decode cL_isSpan 295 = .ok (.iconst 0, 1) := by decide +kernel
theorem dL_isSpan_296 : decode cL_isSpan 296 = .ok (.iaload, 1) := by decide +kernel
theorem dL_isSpan_297 : decode cL_isSpan 297 = .ok (.imul, 1) := by decide +kernel
theorem dL_isSpan_298 : decode cL_isSpan 298 = .ok (.iload 4, 2) := by decide +kernel
theorem dL_isSpan_300 : decode cL_isSpan 300 = .ok (.iload_n 3, 1) := by decide +kernel
theorem dL_isSpan_301 : decode cL_isSpan 301 = .ok (.isub, 1) := by decide +kernel
theorem dL_isSpan_302 : decode cL_isSpan 302 = .ok (.iconst 1, 1) := by decide +kernel
theorem dL_isSpan_303 : decode cL_isSpan 303 = .ok (.iadd, 1) := by decide +kernel
theorem dL_isSpan_304 : decode cL_isSpan 304 = .ok (.if_icmp .le 8, 3) := by decide +kernel
theorem dL_isSpan_307 : decode cL_isSpan 307 = .ok (.iload 10, 2) := by decide +kernel
theorem dL_isSpan_309 : decode cL_isSpan 309 = .ok (.goto 5, 3) := by decide +kernel
theorem dL_isSpan_312 : decode cL_isSpan 312 = .ok (.bipush (-2), 2) := by decide +kernel
theorem dL_isSpan_314 : decode cL_isSpan 314 = .ok (.istore 11, 2) := by decide +kernel
theorem dL_isSpan_316 : decode cL_isSpan 316 = .ok (.aload_n 0, 1) := by decide +kernel
theorem dL_isSpan_317 : decode cL_isSpan 317 = .ok (.iload_n 3, 1) := by decide +kernel
theorem dL_isSpan_318 : decode cL_isSpan 318 = .ok (.iload 4, 2) := by decide +kernel
theorem dL_isSpan_320 : decode cL_isSpan 320 = .ok (.invokevirtual 128, 3) := by decide +kernel
theorem dL_isSpan_323 : decode cL_isSpan 323 = .ok (.iload 7, 2) := by decide +kernel
theorem dL_isSpan_325 : decode cL_isSpan 325 = .ok (.if_icmp .ne 60, 3) := by decide +kernel
theorem dL_isSpan_328 : decode cL_isSpan 328 = .ok (.aload_n 0, 1) := by decide +kernel
theorem dL_isSpan_329 : decode cL_isSpan 329 = .ok (.iload_n 3, 1) := by decide +kernel
theorem dL_isSpan_330 : decode cL_isSpan 330 = .ok (.iload 4, 2) := by decide +kernel
theorem dL_isSpan_332 : decode cL_isSpan 332 = .ok (.iload 7, 2) := by decide +kernel
theorem dL_isSpan_334 : decode cL_isSpan 334 = .ok (.iconst 0, 1) := by decide +kernel
theorem dL_isSpan_335 : decode cL_isSpan 335 = .ok (.invokevirtual 112, 3) := by decide +kernel
theorem dL_isSpan_338 : decode cL_isSpan 338 = .ok (.bipush (-2), 2) := by decide +kernel
theorem dL_isSpan_340 : decode cL_isSpan 340 = .ok (.if_icmp .ne 45, 3) := by decide +kernel
theorem dL_isSpan_343 : decode cL_isSpan 343 = .ok (.aload_n 0, 1) := by decide +kernel
theorem dL_isSpan_344 : decode cL_isSpan 344 = .ok (.iload_n 3, 1) := by decide +kernel
theorem dL_isSpan_345 : decode cL_isSpan 345 = .ok (.iload 4, 2) := by decide +kernel
theorem dL_isSpan_347 : decode cL_isSpan 347 = .ok (.invokevirtual 131, 3) := by decide +kernel
theorem dL_isSpan_350 : decode cL_isSpan 350 = .ok (.iload 11, 2) := by decide +kernel
theorem dL_isSpan_352 : decode cL_isSpan 352 = .ok (.if_icmp .ne 33, 3) := by decide +kernel
theorem dL_isSpan_355 : decode cL_isSpan 355 = .ok (.aload_n 0, 1) := by decide +kernel
theorem dL_isSpan_356 : decode cL_isSpan 356 = .ok (.iload_n 3, 1) := by decide +kernel
theorem dL_isSpan_357 : decode cL_isSpan 357 = .ok (.iload 4, 2) := by decide +kernel
theorem dL_isSpan_359 : decode cL_isSpan 359 = .ok (.iconst 0, 1) := by decide +kernel
theorem dL_isSpan_360 : decode cL_isSpan 360 = .ok (.invokevirtual 134, 3) := by decide +kernel
theorem dL_isSpan_363 : decode cL_isSpan 363 = .ok (.iload 8, 2) := by decide +kernel
theorem dL_isSpan_365 : decode cL_isSpan 365 = .ok (.if_icmp .ne 20, 3) := by decide +kernel
theorem dL_isSpan_368 : decode cL_isSpan 368 = .ok (.aload_n 0, 1) := by decide +kernel
theorem dL_isSpan_369 : decode cL_isSpan 369 = .ok (.iload_n 3, 1) := by decide +kernel
theorem dL_isSpan_370 : decode cL_isSpan 370 = .ok (.iload 4, 2) := by decide +kernel
theorem dL_isSpan_372 : decode cL_isSpan 372 = .ok (.iconst 1, 1) := by decide +kernel
theorem dL_isSpan_373 : decode cL_isSpan 373 = .ok (.invokevirtual 134, 3) := by decide +kernel
theorem dL_isSpan_376 : decode cL_isSpan 376 = .ok (.iload 9, 2) := by decide +kernel
theorem dL_isSpan_378 : decode cL_isSpan 378 = .ok (.if_icmp .ne 7, 3) := by decide +kernel
theorem dL_isSpan_381 : decode cL_isSpan 381 = .ok (.iconst 1, 1) := by decide +kernel
theorem dL_isSpan_382 : decode cL_isSpan 382 = .ok (.goto 4, 3) := by decide +kernel
theorem dL_isSpan_385 : decode cL_isSpan 385 = .ok (.iconst 0, 1) := by decide +kernel
theorem dL_isSpan_386 : decode cL_isSpan 386 = .ok (.ireturn, 1) := by decide +kernel
theorem dL_fresh_0 : decode cL_fresh 0 = .ok (.aload_n 1, 1) := by decide +kernel
theorem dL_fresh_1 : decode cL_fresh 1 = .ok (.arraylength, 1) := by decide +kernel
theorem dL_fresh_2 : decode cL_fresh 2 = .ok (.iload_n 2, 1) := by decide +kernel
theorem dL_fresh_3 : decode cL_fresh 3 = .ok (.iadd, 1) := by decide +kernel
theorem dL_fresh_4 : decode cL_fresh 4 = .ok (.iconst 1, 1) := by decide +kernel
theorem dL_fresh_5 : decode cL_fresh 5 = .ok (.isub, 1) := by decide +kernel
theorem dL_fresh_6 : decode cL_fresh 6 = .ok (.iload_n 2, 1) := by decide +kernel
theorem dL_fresh_7 : decode cL_fresh 7 = .ok (.idiv, 1) := by decide +kernel
theorem dL_fresh_8 : decode cL_fresh 8 = .ok (.istore_n 3, 1) := by decide +kernel
theorem dL_fresh_9 : decode cL_fresh 9 = .ok (.iconst 0, 1) := by decide +kernel
theorem dL_fresh_10 : decode cL_fresh 10 = .ok (.istore 4, 2) := by decide +kernel
theorem dL_fresh_12 : decode cL_fresh 12 = .ok (.iconst 0, 1) := by decide +kernel
theorem dL_fresh_13 : decode cL_fresh 13 = .ok (.istore 5, 2) := by decide +kernel
theorem dL_fresh_15 : decode cL_fresh 15 = .ok (.iload 5, 2) := by decide +kernel
theorem dL_fresh_17 : decode cL_fresh 17 = .ok (.iload_n 3, 1) := by decide +kernel
theorem dL_fresh_18 : decode cL_fresh 18 = .ok (.if_icmp .ge 115, 3) := by decide +kernel
theorem dL_fresh_21 : decode cL_fresh 21 = .ok (.iload 5, 2) := by decide +kernel
theorem dL_fresh_23 : decode cL_fresh 23 = .ok (.istore 6, 2) := by decide +kernel
theorem dL_fresh_25 : decode cL_fresh 25 = .ok (.iload 6, 2) := by decide +kernel
theorem dL_fresh_27 : decode cL_fresh 27 = .ok (.iload_n 3, 1) := by decide +kernel
theorem dL_fresh_28 : decode cL_fresh 28 = .ok (.if_icmp .ge 99, 3) := by decide +kernel
theorem dL_fresh_31 : decode cL_fresh 31 = .ok (.iconst 0, 1) := by decide +kernel
theorem dL_fresh_32 : decode cL_fresh 32 = .ok (.istore 7, 2) := by decide +kernel
theorem dL_fresh_34 : decode cL_fresh 34 = .ok (.iload 5, 2) := by decide +kernel
theorem dL_fresh_36 : decode cL_fresh 36 = .ok (.iload_n 2, 1) := by decide +kernel
theorem dL_fresh_37 : decode cL_fresh 37 = .ok (.imul, 1) := by decide +kernel
theorem dL_fresh_38 : decode cL_fresh 38 = .ok (.istore 8, 2) := by decide +kernel
theorem dL_fresh_40 : decode cL_fresh 40 = .ok (.iload 8, 2) := by decide +kernel
theorem dL_fresh_42 : decode cL_fresh 42 = .ok (.iload 6, 2) := by decide +kernel
theorem dL_fresh_44 : decode cL_fresh 44 = .ok (.iconst 1, 1) := by decide +kernel
theorem dL_fresh_45 : decode cL_fresh 45 = .ok (.iadd, 1) := by decide +kernel
theorem dL_fresh_46 : decode cL_fresh 46 = .ok (.iload_n 2, 1) := by decide +kernel
theorem dL_fresh_47 : decode cL_fresh 47 = .ok (.imul, 1) := by decide +kernel
theorem dL_fresh_48 : decode cL_fresh 48 = .ok (.if_icmp .ge 58, 3) := by decide +kernel
theorem dL_fresh_51 : decode cL_fresh 51 = .ok (.iload 7, 2) := by decide +kernel
theorem dL_fresh_53 : decode cL_fresh 53 = .ok (.iload 8, 2) := by decide +kernel
theorem dL_fresh_55 : decode cL_fresh 55 = .ok (.aload_n 1, 1) := by decide +kernel
theorem dL_fresh_56 : decode cL_fresh 56 = .ok (.arraylength, 1) := by decide +kernel
theorem dL_fresh_57 : decode cL_fresh 57 = .ok (.if_icmp .ge 21, 3) := by decide +kernel
theorem dL_fresh_60 : decode cL_fresh 60 = .ok (.iload 8, 2) := by decide +kernel
theorem dL_fresh_62 : decode cL_fresh 62 = .ok (.aload_n 0, 1) := by decide +kernel
theorem dL_fresh_63 : decode cL_fresh 63 = .ok (.arraylength, 1) := by decide +kernel
theorem dL_fresh_64 : decode cL_fresh 64 = .ok (.if_icmp .ge 28, 3) := by decide +kernel
theorem dL_fresh_67 : decode cL_fresh 67 = .ok (.aload_n 0, 1) := by decide +kernel
theorem dL_fresh_68 : decode cL_fresh 68 = .ok (.iload 8, 2) := by decide +kernel
theorem dL_fresh_70 : decode cL_fresh 70 = .ok (.iaload, 1) := by decide +kernel
theorem dL_fresh_71 : decode cL_fresh 71 = .ok (.aload_n 1, 1) := by decide +kernel
theorem dL_fresh_72 : decode cL_fresh 72 = .ok (.iload 8, 2) := by decide +kernel
theorem dL_fresh_74 : decode cL_fresh 74 = .ok (.iaload, 1) := by decide +kernel
theorem dL_fresh_75 : decode cL_fresh 75 = .ok (.if_icmp .ne 17, 3) := by decide +kernel
theorem dL_fresh_78 : decode cL_fresh 78 = .ok (.iload 8, 2) := by decide +kernel
theorem dL_fresh_80 : decode cL_fresh 80 = .ok (.aload_n 1, 1) := by decide +kernel
theorem dL_fresh_81 : decode cL_fresh 81 = .ok (.arraylength, 1) := by decide +kernel
theorem dL_fresh_82 : decode cL_fresh 82 = .ok (.if_icmp .lt 14, 3) := by decide +kernel
theorem dL_fresh_85 : decode cL_fresh 85 = .ok (.iload 8, 2) := by decide +kernel
theorem dL_fresh_87 : decode cL_fresh 87 = .ok (.aload_n 0, 1) := by decide +kernel
theorem dL_fresh_88 : decode cL_fresh 88 = .ok (.arraylength, 1) := by decide +kernel
theorem dL_fresh_89 : decode cL_fresh 89 = .ok (.if_icmp .ge 7, 3) := by decide +kernel
theorem dL_fresh_92 : decode cL_fresh 92 = .ok (.iconst 1, 1) := by decide +kernel
theorem dL_fresh_93 : decode cL_fresh 93 = .ok (.goto 4, 3) := by decide +kernel
theorem dL_fresh_96 : decode cL_fresh 96 = .ok (.iconst 0, 1) := by decide +kernel
theorem dL_fresh_97 : decode cL_fresh 97 = .ok (.ior, 1) := by decide +kernel
theorem dL_fresh_98 : decode cL_fresh 98 = .ok (.istore 7, 2) := by decide +kernel
theorem dL_fresh_100 : decode cL_fresh 100 = .ok (.iinc 8 1, 3) := by decide +kernel
theorem dL_fresh_103 : decode cL_fresh 103 = .ok (.goto (-63), 3) := by decide +kernel
theorem dL_fresh_106 : decode cL_fresh 106 = .ok (.iload 4, 2) := by decide +kernel
theorem dL_fresh_108 : decode cL_fresh 108 = .ok (.iload 7, 2) := by decide +kernel
theorem dL_fresh_110 : decode cL_fresh 110 = .ok (.ifCond .eq 7, 3) := by decide +kernel
theorem dL_fresh_113 : decode cL_fresh 113 = .ok (.iconst 1, 1) := by decide +kernel
theorem dL_fresh_114 : decode cL_fresh 114 = .ok (.goto 4, 3) := by decide +kernel
theorem dL_fresh_117 : decode cL_fresh 117 = .ok (.iconst 0, 1) := by decide +kernel
theorem dL_fresh_118 : decode cL_fresh 118 = .ok (.iadd, 1) := by decide +kernel
theorem dL_fresh_119 : decode cL_fresh 119 = .ok (.istore 4, 2) := by decide +kernel
theorem dL_fresh_121 : decode cL_fresh 121 = .ok (.iinc 6 1, 3) := by decide +kernel
theorem dL_fresh_124 : decode cL_fresh 124 = .ok (.goto (-99), 3) := by decide +kernel
theorem dL_fresh_127 : decode cL_fresh 127 = .ok (.iinc 5 1, 3) := by decide +kernel
theorem dL_fresh_130 : decode cL_fresh 130 = .ok (.goto (-115), 3) := by decide +kernel
theorem dL_fresh_133 : decode cL_fresh 133 = .ok (.iload 4, 2) := by decide +kernel
theorem dL_fresh_135 : decode cL_fresh 135 = .ok (.ireturn, 1) := by decide +kernel
theorem dL_edited_0 : decode cL_edited 0 = .ok (.aload_n 0, 1) := by decide +kernel
theorem dL_edited_1 : decode cL_edited 1 = .ok (.arraylength, 1) := by decide +kernel
theorem dL_edited_2 : decode cL_edited 2 = .ok (.istore 6, 2) := by decide +kernel
theorem dL_edited_4 : decode cL_edited 4 = .ok (.aload_n 0, 1) := by decide +kernel
theorem dL_edited_5 : decode cL_edited 5 = .ok (.invokevirtual 137, 3) := by decide +kernel
theorem dL_edited_8 : decode cL_edited 8 = .ok (.checkcast 138, 3) := by decide +kernel
theorem dL_edited_11 : decode cL_edited 11 = .ok (.astore 7, 2) := by decide +kernel
theorem dL_edited_13 : decode cL_edited 13 = .ok (.aload_n 1, 1) := by decide +kernel
theorem dL_edited_14 : decode cL_edited 14 = .ok (.invokevirtual 137, 3) := by decide +kernel
theorem dL_edited_17 : decode cL_edited 17 = .ok (.checkcast 138, 3) := by decide +kernel
theorem dL_edited_20 : decode cL_edited 20 = .ok (.astore 8, 2) := by decide +kernel
theorem dL_edited_22 : decode cL_edited 22 = .ok (.iload_n 3, 1) := by decide +kernel
theorem dL_edited_23 : decode cL_edited 23 = .ok (.iload 4, 2) := by decide +kernel
theorem dL_edited_25 : decode cL_edited 25 = .ok (.invokestatic 143, 3) := by decide +kernel
theorem dL_edited_28 : decode cL_edited 28 = .ok (.istore 9, 2) := by decide +kernel
theorem dL_edited_30 : decode cL_edited 30 = .ok (.iload_n 3, 1) := by decide +kernel
theorem dL_edited_31 : decode cL_edited 31 = .ok (.iload 4, 2) := by decide +kernel
theorem dL_edited_33 : decode cL_edited 33 = .ok (.invokestatic 148, 3) := by decide +kernel
theorem dL_edited_36 : decode cL_edited 36 = .ok (.istore 10, 2) := by decide +kernel
theorem dL_edited_38 : decode cL_edited 38 = .ok (.iload_n 2, 1) := by decide +kernel
theorem dL_edited_39 : decode cL_edited 39 = .ok (.tableswitch 500 0 8 #[49, 58, 72, 176, 257, 284, 319, 369, 457], 49) := by decide +kernel
theorem dL_edited_88 : decode cL_edited 88 = .ok (.aload 7, 2) := by decide +kernel
theorem dL_edited_90 : decode cL_edited 90 = .ok (.iload_n 3, 1) := by decide +kernel
theorem dL_edited_91 : decode cL_edited 91 = .ok (.iload 5, 2) := by decide +kernel
theorem dL_edited_93 : decode cL_edited 93 = .ok (.iastore, 1) := by decide +kernel
theorem dL_edited_94 : decode cL_edited 94 = .ok (.goto 575, 3) := by decide +kernel
theorem dL_edited_97 : decode cL_edited 97 = .ok (.aload 8, 2) := by decide +kernel
theorem dL_edited_99 : decode cL_edited 99 = .ok (.iload_n 3, 1) := by decide +kernel
theorem dL_edited_100 : decode cL_edited 100 = .ok (.iconst 1, 1) := by decide +kernel
theorem dL_edited_101 : decode cL_edited 101 = .ok (.iload 5, 2) := by decide +kernel
theorem dL_edited_103 : decode cL_edited 103 = .ok (.bipush 9, 2) := by decide +kernel
theorem dL_edited_105 : decode cL_edited 105 = .ok (.irem, 1) := by decide +kernel
theorem dL_edited_106 : decode cL_edited 106 = .ok (.iadd, 1) := by decide +kernel
theorem dL_edited_107 : decode cL_edited 107 = .ok (.iastore, 1) := by decide +kernel
theorem dL_edited_108 : decode cL_edited 108 = .ok (.goto 561, 3) := by decide +kernel
theorem dL_edited_111 : decode cL_edited 111 = .ok (.iload 6, 2) := by decide +kernel
theorem dL_edited_113 : decode cL_edited 113 = .ok (.iconst 1, 1) := by decide +kernel
theorem dL_edited_114 : decode cL_edited 114 = .ok (.iadd, 1) := by decide +kernel
theorem dL_edited_115 : decode cL_edited 115 = .ok (.newarray .int, 2) := by decide +kernel
theorem dL_edited_117 : decode cL_edited 117 = .ok (.astore 7, 2) := by decide +kernel
theorem dL_edited_119 : decode cL_edited 119 = .ok (.iload 6, 2) := by decide +kernel
theorem dL_edited_121 : decode cL_edited 121 = .ok (.iconst 1, 1) := by decide +kernel
theorem dL_edited_122 : decode cL_edited 122 = .ok (.iadd, 1) := by decide +kernel
theorem dL_edited_123 : decode cL_edited 123 = .ok (.newarray .int, 2) := by decide +kernel
theorem dL_edited_125 : decode cL_edited 125 = .ok (.astore 8, 2) := by decide +kernel
theorem dL_edited_127 : decode cL_edited 127 = .ok (.iconst 0, 1) := by decide +kernel
theorem dL_edited_128 : decode cL_edited 128 = .ok (.istore 11, 2) := by decide +kernel
theorem dL_edited_130 : decode cL_edited 130 = .ok (.iload 11, 2) := by decide +kernel
theorem dL_edited_132 : decode cL_edited 132 = .ok (.iload 6, 2) := by decide +kernel
theorem dL_edited_134 : decode cL_edited 134 = .ok (.if_icmp .gt 78, 3) := by decide +kernel
theorem dL_edited_137 : decode cL_edited 137 = .ok (.aload 7, 2) := by decide +kernel
theorem dL_edited_139 : decode cL_edited 139 = .ok (.iload 11, 2) := by decide +kernel
theorem dL_edited_141 : decode cL_edited 141 = .ok (.iload 11, 2) := by decide +kernel
theorem dL_edited_143 : decode cL_edited 143 = .ok (.iload_n 3, 1) := by decide +kernel
theorem dL_edited_144 : decode cL_edited 144 = .ok (.if_icmp .ge 10, 3) := by decide +kernel
theorem dL_edited_147 : decode cL_edited 147 = .ok (.aload_n 0, 1) := by decide +kernel
theorem dL_edited_148 : decode cL_edited 148 = .ok (.iload 11, 2) := by decide +kernel
theorem dL_edited_150 : decode cL_edited 150 = .ok (.iaload, 1) := by decide +kernel
theorem dL_edited_151 : decode cL_edited 151 = .ok (.goto 20, 3) := by decide +kernel
theorem dL_edited_154 : decode cL_edited 154 = .ok (.iload 11, 2) := by decide +kernel
theorem dL_edited_156 : decode cL_edited 156 = .ok (.iload_n 3, 1) := by decide +kernel
theorem dL_edited_157 : decode cL_edited 157 = .ok (.if_icmp .ne 8, 3) := by decide +kernel
theorem dL_edited_160 : decode cL_edited 160 = .ok (.iload 5, 2) := by decide +kernel
theorem dL_edited_162 : decode cL_edited 162 = .ok (.goto 9, 3) := by decide +kernel
theorem dL_edited_165 : decode cL_edited 165 = .ok (.aload_n 0, 1) := by decide +kernel
theorem dL_edited_166 : decode cL_edited 166 = .ok (.iload 11, 2) := by decide +kernel
theorem dL_edited_168 : decode cL_edited 168 = .ok (.iconst 1, 1) := by decide +kernel
theorem dL_edited_169 : decode cL_edited 169 = .ok (.isub, 1) := by decide +kernel
theorem dL_edited_170 : decode cL_edited 170 = .ok (.iaload, 1) := by decide +kernel
theorem dL_edited_171 : decode cL_edited 171 = .ok (.iastore, 1) := by decide +kernel
theorem dL_edited_172 : decode cL_edited 172 = .ok (.aload 8, 2) := by decide +kernel
theorem dL_edited_174 : decode cL_edited 174 = .ok (.iload 11, 2) := by decide +kernel
theorem dL_edited_176 : decode cL_edited 176 = .ok (.iload 11, 2) := by decide +kernel
theorem dL_edited_178 : decode cL_edited 178 = .ok (.iload_n 3, 1) := by decide +kernel
theorem dL_edited_179 : decode cL_edited 179 = .ok (.if_icmp .ge 10, 3) := by decide +kernel
theorem dL_edited_182 : decode cL_edited 182 = .ok (.aload_n 1, 1) := by decide +kernel
theorem dL_edited_183 : decode cL_edited 183 = .ok (.iload 11, 2) := by decide +kernel
theorem dL_edited_185 : decode cL_edited 185 = .ok (.iaload, 1) := by decide +kernel
theorem dL_edited_186 : decode cL_edited 186 = .ok (.goto 19, 3) := by decide +kernel
theorem dL_edited_189 : decode cL_edited 189 = .ok (.iload 11, 2) := by decide +kernel
theorem dL_edited_191 : decode cL_edited 191 = .ok (.iload_n 3, 1) := by decide +kernel
theorem dL_edited_192 : decode cL_edited 192 = .ok (.if_icmp .ne 7, 3) := by decide +kernel
theorem dL_edited_195 : decode cL_edited 195 = .ok (.iconst 1, 1) := by decide +kernel
theorem dL_edited_196 : decode cL_edited 196 = .ok (.goto 9, 3) := by decide +kernel
theorem dL_edited_199 : decode cL_edited 199 = .ok (.aload_n 1, 1) := by decide +kernel
theorem dL_edited_200 : decode cL_edited 200 = .ok (.iload 11, 2) := by decide +kernel
theorem dL_edited_202 : decode cL_edited 202 = .ok (.iconst 1, 1) := by decide +kernel
theorem dL_edited_203 : decode cL_edited 203 = .ok (.isub, 1) := by decide +kernel
theorem dL_edited_204 : decode cL_edited 204 = .ok (.iaload, 1) := by decide +kernel
theorem dL_edited_205 : decode cL_edited 205 = .ok (.iastore, 1) := by decide +kernel
theorem dL_edited_206 : decode cL_edited 206 = .ok (.iinc 11 1, 3) := by decide +kernel
theorem dL_edited_209 : decode cL_edited 209 = .ok (.goto (-79), 3) := by decide +kernel
theorem dL_edited_212 : decode cL_edited 212 = .ok (.goto 457, 3) := by decide +kernel
theorem dL_edited_215 : decode cL_edited 215 = .ok (.iload 6, 2) := by decide +kernel
theorem dL_edited_217 : decode cL_edited 217 = .ok (.iconst 1, 1) := by decide +kernel
theorem dL_edited_218 : decode cL_edited 218 = .ok (.isub, 1) := by decide +kernel
theorem dL_edited_219 : decode cL_edited 219 = .ok (.newarray .int, 2) := by decide +kernel
theorem dL_edited_221 : decode cL_edited 221 = .ok (.astore 7, 2) := by decide +kernel
theorem dL_edited_223 : decode cL_edited 223 = .ok (.iload 6, 2) := by decide +kernel
theorem dL_edited_225 : decode cL_edited 225 = .ok (.iconst 1, 1) := by decide +kernel
theorem dL_edited_226 : decode cL_edited 226 = .ok (.isub, 1) := by decide +kernel
theorem dL_edited_227 : decode cL_edited 227 = .ok (.newarray .int, 2) := by decide +kernel
theorem dL_edited_229 : decode cL_edited 229 = .ok (.astore 8, 2) := by decide +kernel
theorem dL_edited_231 : decode cL_edited 231 = .ok (.iconst 0, 1) := by decide +kernel
theorem dL_edited_232 : decode cL_edited 232 = .ok (.istore 11, 2) := by decide +kernel
theorem dL_edited_234 : decode cL_edited 234 = .ok (.iload 11, 2) := by decide +kernel
theorem dL_edited_236 : decode cL_edited 236 = .ok (.iconst 1, 1) := by decide +kernel
theorem dL_edited_237 : decode cL_edited 237 = .ok (.iadd, 1) := by decide +kernel
theorem dL_edited_238 : decode cL_edited 238 = .ok (.iload 6, 2) := by decide +kernel
theorem dL_edited_240 : decode cL_edited 240 = .ok (.if_icmp .ge 53, 3) := by decide +kernel
theorem dL_edited_243 : decode cL_edited 243 = .ok (.aload 7, 2) := by decide +kernel
theorem dL_edited_245 : decode cL_edited 245 = .ok (.iload 11, 2) := by decide +kernel
theorem dL_edited_247 : decode cL_edited 247 = .ok (.aload_n 0, 1) := by decide +kernel
theorem dL_edited_248 : decode cL_edited 248 = .ok (.iload 11, 2) := by decide +kernel
theorem dL_edited_250 : decode cL_edited 250 = .ok (.iload_n 3, 1) := by decide +kernel
theorem dL_edited_251 : decode cL_edited 251 = .ok (.if_icmp .ge 8, 3) := by decide +kernel
theorem dL_edited_254 : decode cL_edited 254 = .ok (.iload 11, 2) := by decide +kernel
theorem dL_edited_256 : decode cL_edited 256 = .ok (.goto 7, 3) := by decide +kernel
theorem dL_edited_259 : decode cL_edited 259 = .ok (.iload 11, 2) := by decide +kernel
theorem dL_edited_261 : decode cL_edited 261 = .ok (.iconst 1, 1) := by decide +kernel
theorem dL_edited_262 : decode cL_edited 262 = .ok (.iadd, 1) := by decide +kernel
theorem dL_edited_263 : decode cL_edited 263 = .ok (.iaload, 1) := by decide +kernel
theorem dL_edited_264 : decode cL_edited 264 = .ok (.iastore, 1) := by decide +kernel
theorem dL_edited_265 : decode cL_edited 265 = .ok (.aload 8, 2) := by decide +kernel
theorem dL_edited_267 : decode cL_edited 267 = .ok (.iload 11, 2) := by decide +kernel
theorem dL_edited_269 : decode cL_edited 269 = .ok (.aload_n 1, 1) := by decide +kernel
theorem dL_edited_270 : decode cL_edited 270 = .ok (.iload 11, 2) := by decide +kernel
theorem dL_edited_272 : decode cL_edited 272 = .ok (.iload_n 3, 1) := by decide +kernel
theorem dL_edited_273 : decode cL_edited 273 = .ok (.if_icmp .ge 8, 3) := by decide +kernel
theorem dL_edited_276 : decode cL_edited 276 = .ok (.iload 11, 2) := by decide +kernel
theorem dL_edited_278 : decode cL_edited 278 = .ok (.goto 7, 3) := by decide +kernel
theorem dL_edited_281 : decode cL_edited 281 = .ok (.iload 11, 2) := by decide +kernel
theorem dL_edited_283 : decode cL_edited 283 = .ok (.iconst 1, 1) := by decide +kernel
theorem dL_edited_284 : decode cL_edited 284 = .ok (.iadd, 1) := by decide +kernel
theorem dL_edited_285 : decode cL_edited 285 = .ok (.iaload, 1) := by decide +kernel
theorem dL_edited_286 : decode cL_edited 286 = .ok (.iastore, 1) := by decide +kernel
theorem dL_edited_287 : decode cL_edited 287 = .ok (.iinc 11 1, 3) := by decide +kernel
theorem dL_edited_290 : decode cL_edited 290 = .ok (.goto (-56), 3) := by decide +kernel
theorem dL_edited_293 : decode cL_edited 293 = .ok (.goto 376, 3) := by decide +kernel
theorem dL_edited_296 : decode cL_edited 296 = .ok (.iload 9, 2) := by decide +kernel
theorem dL_edited_298 : decode cL_edited 298 = .ok (.istore 11, 2) := by decide +kernel
theorem dL_edited_300 : decode cL_edited 300 = .ok (.iload 11, 2) := by decide +kernel
theorem dL_edited_302 : decode cL_edited 302 = .ok (.iload 10, 2) := by decide +kernel
theorem dL_edited_304 : decode cL_edited 304 = .ok (.if_icmp .gt 16, 3) := by decide +kernel
theorem dL_edited_307 : decode cL_edited 307 = .ok (.aload 7, 2) := by decide +kernel
theorem dL_edited_309 : decode cL_edited 309 = .ok (.iload 11, 2) := by decide +kernel
theorem dL_edited_311 : decode cL_edited 311 = .ok (.iload 5, 2) := by decide +kernel
theorem dL_edited_313 : decode cL_edited 313 = .ok (.iastore, 1) := by decide +kernel
theorem dL_edited_314 : decode cL_edited 314 = .ok (.iinc 11 1, 3) := by decide +kernel
theorem dL_edited_317 : decode cL_edited 317 = .ok (.goto (-17), 3) := by decide +kernel
theorem dL_edited_320 : decode cL_edited 320 = .ok (.goto 349, 3) := by decide +kernel
theorem dL_edited_323 : decode cL_edited 323 = .ok (.aload 7, 2) := by decide +kernel
theorem dL_edited_325 : decode cL_edited 325 = .ok (.iload_n 3, 1) := by decide +kernel
theorem dL_edited_326 : decode cL_edited 326 = .ok (.aload_n 0, 1) := by decide +kernel
theorem dL_edited_327 : decode cL_edited 327 = .ok (.iload 4, 2) := by decide +kernel
theorem dL_edited_329 : decode cL_edited 329 = .ok (.iaload, 1) := by decide +kernel
theorem dL_edited_330 : decode cL_edited 330 = .ok (.iastore, 1) := by decide +kernel
theorem dL_edited_331 : decode cL_edited 331 = .ok (.aload 8, 2) := by decide +kernel
theorem dL_edited_333 : decode cL_edited 333 = .ok (.iload_n 3, 1) := by decide +kernel
theorem dL_edited_334 : decode cL_edited 334 = .ok (.aload_n 1, 1) := by decide +kernel
theorem dL_edited_335 : decode cL_edited 335 = .ok (.iload 4, 2) := by decide +kernel
theorem dL_edited_337 : decode cL_edited 337 = .ok (.iaload, 1) := by decide +kernel
theorem dL_edited_338 : decode cL_edited 338 = .ok (.iastore, 1) := by decide +kernel
theorem dL_edited_339 : decode cL_edited 339 = .ok (.aload 7, 2) := by decide +kernel
theorem dL_edited_341 : decode cL_edited 341 = .ok (.iload 4, 2) := by decide +kernel
theorem dL_edited_343 : decode cL_edited 343 = .ok (.aload_n 0, 1) := by decide +kernel
theorem dL_edited_344 : decode cL_edited 344 = .ok (.iload_n 3, 1) := by decide +kernel
theorem dL_edited_345 : decode cL_edited 345 = .ok (.iaload, 1) := by decide +kernel
theorem dL_edited_346 : decode cL_edited 346 = .ok (.iastore, 1) := by decide +kernel
theorem dL_edited_347 : decode cL_edited 347 = .ok (.aload 8, 2) := by decide +kernel
theorem dL_edited_349 : decode cL_edited 349 = .ok (.iload 4, 2) := by decide +kernel
theorem dL_edited_351 : decode cL_edited 351 = .ok (.aload_n 1, 1) := by decide +kernel
theorem dL_edited_352 : decode cL_edited 352 = .ok (.iload_n 3, 1) := by decide +kernel
theorem dL_edited_353 : decode cL_edited 353 = .ok (.iaload, 1) := by decide +kernel
theorem dL_edited_354 : decode cL_edited 354 = .ok (.iastore, 1) := by decide +kernel
theorem dL_edited_355 : decode cL_edited 355 = .ok (.goto 314, 3) := by decide +kernel
theorem dL_edited_358 : decode cL_edited 358 = .ok (.iload 9, 2) := by decide +kernel
theorem dL_edited_360 : decode cL_edited 360 = .ok (.istore 11, 2) := by decide +kernel
theorem dL_edited_362 : decode cL_edited 362 = .ok (.iload 11, 2) := by decide +kernel
theorem dL_edited_364 : decode cL_edited 364 = .ok (.iload 10, 2) := by decide +kernel
theorem dL_edited_366 : decode cL_edited 366 = .ok (.if_icmp .gt 39, 3) := by decide +kernel
theorem dL_edited_369 : decode cL_edited 369 = .ok (.aload 7, 2) := by decide +kernel
theorem dL_edited_371 : decode cL_edited 371 = .ok (.iload 11, 2) := by decide +kernel
theorem dL_edited_373 : decode cL_edited 373 = .ok (.aload_n 0, 1) := by decide +kernel
theorem dL_edited_374 : decode cL_edited 374 = .ok (.iload 9, 2) := by decide +kernel
theorem dL_edited_376 : decode cL_edited 376 = .ok (.iload 10, 2) := by decide +kernel
theorem dL_edited_378 : decode cL_edited 378 = .ok (.iadd, 1) := by decide +kernel
theorem dL_edited_379 : decode cL_edited 379 = .ok (.iload 11, 2) := by decide +kernel
theorem dL_edited_381 : decode cL_edited 381 = .ok (.isub, 1) := by decide +kernel
theorem dL_edited_382 : decode cL_edited 382 = .ok (.iaload, 1) := by decide +kernel
theorem dL_edited_383 : decode cL_edited 383 = .ok (.iastore, 1) := by decide +kernel
theorem dL_edited_384 : decode cL_edited 384 = .ok (.aload 8, 2) := by decide +kernel
theorem dL_edited_386 : decode cL_edited 386 = .ok (.iload 11, 2) := by decide +kernel
theorem dL_edited_388 : decode cL_edited 388 = .ok (.aload_n 1, 1) := by decide +kernel
theorem dL_edited_389 : decode cL_edited 389 = .ok (.iload 9, 2) := by decide +kernel
theorem dL_edited_391 : decode cL_edited 391 = .ok (.iload 10, 2) := by decide +kernel
theorem dL_edited_393 : decode cL_edited 393 = .ok (.iadd, 1) := by decide +kernel
theorem dL_edited_394 : decode cL_edited 394 = .ok (.iload 11, 2) := by decide +kernel
theorem dL_edited_396 : decode cL_edited 396 = .ok (.isub, 1) := by decide +kernel
theorem dL_edited_397 : decode cL_edited 397 = .ok (.iaload, 1) := by decide +kernel
theorem dL_edited_398 : decode cL_edited 398 = .ok (.iastore, 1) := by decide +kernel
theorem dL_edited_399 : decode cL_edited 399 = .ok (.iinc 11 1, 3) := by decide +kernel
theorem dL_edited_402 : decode cL_edited 402 = .ok (.goto (-40), 3) := by decide +kernel
theorem dL_edited_405 : decode cL_edited 405 = .ok (.goto 264, 3) := by decide +kernel
theorem dL_edited_408 : decode cL_edited 408 = .ok (.iload 9, 2) := by decide +kernel
theorem dL_edited_410 : decode cL_edited 410 = .ok (.istore 11, 2) := by decide +kernel
theorem dL_edited_412 : decode cL_edited 412 = .ok (.iload 11, 2) := by decide +kernel
theorem dL_edited_414 : decode cL_edited 414 = .ok (.iload 10, 2) := by decide +kernel
theorem dL_edited_416 : decode cL_edited 416 = .ok (.if_icmp .gt 77, 3) := by decide +kernel
theorem dL_edited_419 : decode cL_edited 419 = .ok (.aload 7, 2) := by decide +kernel
theorem dL_edited_421 : decode cL_edited 421 = .ok (.iload 9, 2) := by decide +kernel
theorem dL_edited_423 : decode cL_edited 423 = .ok (.iload 11, 2) := by decide +kernel
theorem dL_edited_425 : decode cL_edited 425 = .ok (.iload 9, 2) := by decide +kernel
theorem dL_edited_427 : decode cL_edited 427 = .ok (.isub, 1) := by decide +kernel
theorem dL_edited_428 : decode cL_edited 428 = .ok (.iload 5, 2) := by decide +kernel
theorem dL_edited_430 : decode cL_edited 430 = .ok (.iload 10, 2) := by decide +kernel
theorem dL_edited_432 : decode cL_edited 432 = .ok (.iload 9, 2) := by decide +kernel
theorem dL_edited_434 : decode cL_edited 434 = .ok (.isub, 1) := by decide +kernel
theorem dL_edited_435 : decode cL_edited 435 = .ok (.iconst 2, 1) := by decide +kernel
theorem dL_edited_436 : decode cL_edited 436 = .ok (.iadd, 1) := by decide +kernel
theorem dL_edited_437 : decode cL_edited 437 = .ok (.irem, 1) := by decide +kernel
theorem dL_edited_438 : decode cL_edited 438 = .ok (.iadd, 1) := by decide +kernel
theorem dL_edited_439 : decode cL_edited 439 = .ok (.iload 10, 2) := by decide +kernel
theorem dL_edited_441 : decode cL_edited 441 = .ok (.iload 9, 2) := by decide +kernel
theorem dL_edited_443 : decode cL_edited 443 = .ok (.isub, 1) := by decide +kernel
theorem dL_edited_444 : decode cL_edited 444 = .ok (.iconst 1, 1) := by decide +kernel
theorem dL_edited_445 : decode cL_edited 445 = .ok (.iadd, 1) := by decide +kernel
theorem dL_edited_446 : decode cL_edited 446 = .ok (.irem, 1) := by decide +kernel
theorem dL_edited_447 : decode cL_edited 447 = .ok (.iadd, 1) := by decide +kernel
theorem dL_edited_448 : decode cL_edited 448 = .ok (.aload_n 0, 1) := by decide +kernel
theorem dL_edited_449 : decode cL_edited 449 = .ok (.iload 11, 2) := by decide +kernel
theorem dL_edited_451 : decode cL_edited 451 = .ok (.iaload, 1) := by decide +kernel
theorem dL_edited_452 : decode cL_edited 452 = .ok (.iastore, 1) := by decide +kernel
theorem dL_edited_453 : decode cL_edited 453 = .ok (.aload 8, 2) := by decide +kernel
theorem dL_edited_455 : decode cL_edited 455 = .ok (.iload 9, 2) := by decide +kernel
theorem dL_edited_457 : decode cL_edited 457 = .ok (.iload 11, 2) := by decide +kernel
theorem dL_edited_459 : decode cL_edited 459 = .ok (.iload 9, 2) := by decide +kernel
theorem dL_edited_461 : decode cL_edited 461 = .ok (.isub, 1) := by decide +kernel
theorem dL_edited_462 : decode cL_edited 462 = .ok (.iload 5, 2) := by decide +kernel
theorem dL_edited_464 : decode cL_edited 464 = .ok (.iload 10, 2) := by decide +kernel
theorem dL_edited_466 : decode cL_edited 466 = .ok (.iload 9, 2) := by decide +kernel
theorem dL_edited_468 : decode cL_edited 468 = .ok (.isub, 1) := by decide +kernel
theorem dL_edited_469 : decode cL_edited 469 = .ok (.iconst 2, 1) := by decide +kernel
theorem dL_edited_470 : decode cL_edited 470 = .ok (.iadd, 1) := by decide +kernel
theorem dL_edited_471 : decode cL_edited 471 = .ok (.irem, 1) := by decide +kernel
theorem dL_edited_472 : decode cL_edited 472 = .ok (.iadd, 1) := by decide +kernel
theorem dL_edited_473 : decode cL_edited 473 = .ok (.iload 10, 2) := by decide +kernel
theorem dL_edited_475 : decode cL_edited 475 = .ok (.iload 9, 2) := by decide +kernel
theorem dL_edited_477 : decode cL_edited 477 = .ok (.isub, 1) := by decide +kernel
theorem dL_edited_478 : decode cL_edited 478 = .ok (.iconst 1, 1) := by decide +kernel
theorem dL_edited_479 : decode cL_edited 479 = .ok (.iadd, 1) := by decide +kernel
theorem dL_edited_480 : decode cL_edited 480 = .ok (.irem, 1) := by decide +kernel
theorem dL_edited_481 : decode cL_edited 481 = .ok (.iadd, 1) := by decide +kernel
theorem dL_edited_482 : decode cL_edited 482 = .ok (.aload_n 1, 1) := by decide +kernel
theorem dL_edited_483 : decode cL_edited 483 = .ok (.iload 11, 2) := by decide +kernel
theorem dL_edited_485 : decode cL_edited 485 = .ok (.iaload, 1) := by decide +kernel
theorem dL_edited_486 : decode cL_edited 486 = .ok (.iastore, 1) := by decide +kernel
theorem dL_edited_487 : decode cL_edited 487 = .ok (.iinc 11 1, 3) := by decide +kernel
theorem dL_edited_490 : decode cL_edited 490 = .ok (.goto (-78), 3) := by decide +kernel
theorem dL_edited_493 : decode cL_edited 493 = .ok (.goto 176, 3) := by decide +kernel
theorem dL_edited_496 : decode cL_edited 496 = .ok (.iconst 0, 1) := by decide +kernel
theorem dL_edited_497 : decode cL_edited 497 = .ok (.istore 11, 2) := by decide +kernel
theorem dL_edited_499 : decode cL_edited 499 = .ok (.iload 11, 2) := by decide +kernel
theorem dL_edited_501 : decode cL_edited 501 = .ok (.iload 6, 2) := by decide +kernel
theorem dL_edited_503 : decode cL_edited 503 = .ok (.if_icmp .ge 33, 3) := by decide +kernel
theorem dL_edited_506 : decode cL_edited 506 = .ok (.aload 7, 2) := by decide +kernel
theorem dL_edited_508 : decode cL_edited 508 = .ok (.iload 11, 2) := by decide +kernel
theorem dL_edited_510 : decode cL_edited 510 = .ok (.aload_n 0, 1) := by decide +kernel
theorem dL_edited_511 : decode cL_edited 511 = .ok (.iload 11, 2) := by decide +kernel
theorem dL_edited_513 : decode cL_edited 513 = .ok (.iaload, 1) := by decide +kernel
theorem dL_edited_514 : decode cL_edited 514 = .ok (.aload_n 0, 1) := by decide +kernel
theorem dL_edited_515 : decode cL_edited 515 = .ok (.iload_n 3, 1) := by decide +kernel
theorem dL_edited_516 : decode cL_edited 516 = .ok (.iaload, 1) := by decide +kernel
theorem dL_edited_517 : decode cL_edited 517 = .ok (.if_icmp .ne 8, 3) := by decide +kernel
theorem dL_edited_520 : decode cL_edited 520 = .ok (.iload 5, 2) := by decide +kernel
theorem dL_edited_522 : decode cL_edited 522 = .ok (.goto 7, 3) := by decide +kernel
theorem dL_edited_525 : decode cL_edited 525 = .ok (.aload_n 0, 1) := by decide +kernel
theorem dL_edited_526 : decode cL_edited 526 = .ok (.iload 11, 2) := by decide +kernel
theorem dL_edited_528 : decode cL_edited 528 = .ok (.iaload, 1) := by decide +kernel
theorem dL_edited_529 : decode cL_edited 529 = .ok (.iastore, 1) := by decide +kernel
theorem dL_edited_530 : decode cL_edited 530 = .ok (.iinc 11 1, 3) := by decide +kernel
theorem dL_edited_533 : decode cL_edited 533 = .ok (.goto (-34), 3) := by decide +kernel
theorem dL_edited_536 : decode cL_edited 536 = .ok (.goto 133, 3) := by decide +kernel
theorem dL_edited_539 : decode cL_edited 539 = .ok (.iload 9, 2) := by decide +kernel
theorem dL_edited_541 : decode cL_edited 541 = .ok (.istore 11, 2) := by decide +kernel
theorem dL_edited_543 : decode cL_edited 543 = .ok (.iload 11, 2) := by decide +kernel
theorem dL_edited_545 : decode cL_edited 545 = .ok (.iload 10, 2) := by decide +kernel
theorem dL_edited_547 : decode cL_edited 547 = .ok (.if_icmp .gt 122, 3) := by decide +kernel
theorem dL_edited_550 : decode cL_edited 550 = .ok (.iload 11, 2) := by decide +kernel
theorem dL_edited_552 : decode cL_edited 552 = .ok (.istore 12, 2) := by decide +kernel
theorem dL_edited_554 : decode cL_edited 554 = .ok (.iload 12, 2) := by decide +kernel
theorem dL_edited_556 : decode cL_edited 556 = .ok (.iload 9, 2) := by decide +kernel
theorem dL_edited_558 : decode cL_edited 558 = .ok (.if_icmp .le 105, 3) := by decide +kernel
theorem dL_edited_561 : decode cL_edited 561 = .ok (.iload 5, 2) := by decide +kernel
theorem dL_edited_563 : decode cL_edited 563 = .ok (.iconst 2, 1) := by decide +kernel
theorem dL_edited_564 : decode cL_edited 564 = .ok (.irem, 1) := by decide +kernel
theorem dL_edited_565 : decode cL_edited 565 = .ok (.ifCond .ne 21, 3) := by decide +kernel
theorem dL_edited_568 : decode cL_edited 568 = .ok (.aload 7, 2) := by decide +kernel
theorem dL_edited_570 : decode cL_edited 570 = .ok (.iload 12, 2) := by decide +kernel
theorem dL_edited_572 : decode cL_edited 572 = .ok (.iconst 1, 1) := by decide +kernel
theorem dL_edited_573 : decode cL_edited 573 = .ok (.isub, 1) := by decide +kernel
theorem dL_edited_574 : decode cL_edited 574 = .ok (.iaload, 1) := by decide +kernel
theorem dL_edited_575 : decode cL_edited 575 = .ok (.aload 7, 2) := by decide +kernel
theorem dL_edited_577 : decode cL_edited 577 = .ok (.iload 12, 2) := by decide +kernel
theorem dL_edited_579 : decode cL_edited 579 = .ok (.iaload, 1) := by decide +kernel
theorem dL_edited_580 : decode cL_edited 580 = .ok (.if_icmp .le 83, 3) := by decide +kernel
theorem dL_edited_583 : decode cL_edited 583 = .ok (.goto 18, 3) := by decide +kernel
theorem dL_edited_586 : decode cL_edited 586 = .ok (.aload 7, 2) := by decide +kernel
theorem dL_edited_588 : decode cL_edited 588 = .ok (.iload 12, 2) := by decide +kernel
theorem dL_edited_590 : decode cL_edited 590 = .ok (.iconst 1, 1) := by decide +kernel
theorem dL_edited_591 : decode cL_edited 591 = .ok (.isub, 1) := by decide +kernel
theorem dL_edited_592 : decode cL_edited 592 = .ok (.iaload, 1) := by decide +kernel
theorem dL_edited_593 : decode cL_edited 593 = .ok (.aload 7, 2) := by decide +kernel
theorem dL_edited_595 : decode cL_edited 595 = .ok (.iload 12, 2) := by decide +kernel
theorem dL_edited_597 : decode cL_edited 597 = .ok (.iaload, 1) := by decide +kernel
theorem dL_edited_598 : decode cL_edited 598 = .ok (.if_icmp .ge 65, 3) := by decide +kernel
theorem dL_edited_601 : decode cL_edited 601 = .ok (.aload 7, 2) := by decide +kernel
theorem dL_edited_603 : decode cL_edited 603 = .ok (.iload 12, 2) := by decide +kernel
theorem dL_edited_605 : decode cL_edited 605 = .ok (.iaload, 1) := by decide +kernel
theorem dL_edited_606 : decode cL_edited 606 = .ok (.istore 13, 2) := by decide +kernel
theorem dL_edited_608 : decode cL_edited 608 = .ok (.aload 7, 2) := by decide +kernel
theorem dL_edited_610 : decode cL_edited 610 = .ok (.iload 12, 2) := by decide +kernel
theorem dL_edited_612 : decode cL_edited 612 = .ok (.aload 7, 2) := by decide +kernel
theorem dL_edited_614 : decode cL_edited 614 = .ok (.iload 12, 2) := by decide +kernel
theorem dL_edited_616 : decode cL_edited 616 = .ok (.iconst 1, 1) := by decide +kernel
theorem dL_edited_617 : decode cL_edited 617 = .ok (.isub, 1) := by decide +kernel
theorem dL_edited_618 : decode cL_edited 618 = .ok (.iaload, 1) := by decide +kernel
theorem dL_edited_619 : decode cL_edited 619 = .ok (.iastore, 1) := by decide +kernel
theorem dL_edited_620 : decode cL_edited 620 = .ok (.aload 7, 2) := by decide +kernel
theorem dL_edited_622 : decode cL_edited 622 = .ok (.iload 12, 2) := by decide +kernel
theorem dL_edited_624 : decode cL_edited 624 = .ok (.iconst 1, 1) := by decide +kernel
theorem dL_edited_625 : decode cL_edited 625 = .ok (.isub, 1) := by decide +kernel
theorem dL_edited_626 : decode cL_edited 626 = .ok (.iload 13, 2) := by decide +kernel
theorem dL_edited_628 : decode cL_edited 628 = .ok (.iastore, 1) := by decide +kernel
theorem dL_edited_629 : decode cL_edited 629 = .ok (.aload 8, 2) := by decide +kernel
theorem dL_edited_631 : decode cL_edited 631 = .ok (.iload 12, 2) := by decide +kernel
theorem dL_edited_633 : decode cL_edited 633 = .ok (.iaload, 1) := by decide +kernel
theorem dL_edited_634 : decode cL_edited 634 = .ok (.istore 13, 2) := by decide +kernel
theorem dL_edited_636 : decode cL_edited 636 = .ok (.aload 8, 2) := by decide +kernel
theorem dL_edited_638 : decode cL_edited 638 = .ok (.iload 12, 2) := by decide +kernel
theorem dL_edited_640 : decode cL_edited 640 = .ok (.aload 8, 2) := by decide +kernel
theorem dL_edited_642 : decode cL_edited 642 = .ok (.iload 12, 2) := by decide +kernel
theorem dL_edited_644 : decode cL_edited 644 = .ok (.iconst 1, 1) := by decide +kernel
theorem dL_edited_645 : decode cL_edited 645 = .ok (.isub, 1) := by decide +kernel
theorem dL_edited_646 : decode cL_edited 646 = .ok (.iaload, 1) := by decide +kernel
theorem dL_edited_647 : decode cL_edited 647 = .ok (.iastore, 1) := by decide +kernel
theorem dL_edited_648 : decode cL_edited 648 = .ok (.aload 8, 2) := by decide +kernel
theorem dL_edited_650 : decode cL_edited 650 = .ok (.iload 12, 2) := by decide +kernel
theorem dL_edited_652 : decode cL_edited 652 = .ok (.iconst 1, 1) := by decide +kernel
theorem dL_edited_653 : decode cL_edited 653 = .ok (.isub, 1) := by decide +kernel
theorem dL_edited_654 : decode cL_edited 654 = .ok (.iload 13, 2) := by decide +kernel
theorem dL_edited_656 : decode cL_edited 656 = .ok (.iastore, 1) := by decide +kernel
theorem dL_edited_657 : decode cL_edited 657 = .ok (.iinc 12 (-1), 3) := by decide +kernel
theorem dL_edited_660 : decode cL_edited 660 = .ok (.goto (-106), 3) := by decide +kernel
theorem dL_edited_663 : decode cL_edited 663 = .ok (.iinc 11 1, 3) := by decide +kernel
theorem dL_edited_666 : decode cL_edited 666 = .ok (.goto (-123), 3) := by decide +kernel
theorem dL_edited_669 : decode cL_edited 669 = .ok (.iconst 2, 1) := by decide +kernel
theorem dL_edited_670 : decode cL_edited 670 = .ok (.anewarray 138, 3) := by decide +kernel
theorem dL_edited_673 : decode cL_edited 673 = .ok (.dup, 1) := by decide +kernel
theorem dL_edited_674 : decode cL_edited 674 = .ok (.iconst 0, 1) := by decide +kernel
theorem dL_edited_675 : decode cL_edited 675 = .ok (.aload 7, 2) := by decide +kernel
theorem dL_edited_677 : decode cL_edited 677 = .ok (.aastore, 1) := by decide +kernel
theorem dL_edited_678 : decode cL_edited 678 = .ok (.dup, 1) := by decide +kernel
theorem dL_edited_679 : decode cL_edited 679 = .ok (.iconst 1, 1) := by decide +kernel
theorem dL_edited_680 : decode cL_edited 680 = .ok (.aload 8, 2) := by decide +kernel
theorem dL_edited_682 : decode cL_edited 682 = .ok (.aastore, 1) := by decide +kernel
theorem dL_edited_683 : decode cL_edited 683 = .ok (.areturn, 1) := by decide +kernel
set_option maxRecDepth 20000 in
theorem ggL_does_X5_set : GoodIn wsL_does wsX5_set := goodIn_r _ [12, 13, 14, 15, 16, 17, 18, 19, 20, 21, 22, 23, 11, 24, 25, 26, 27, 28, 29, 30, 31, 32, 33, 34, 35, 36, 37, 38, 39, 40, 41, 42, 43, 44, 45, 46, 47, 48, 49, 50, 51, 52, 53, 54, 2, 3, 4, 55, 56, 57, 58, 59, 60, 61, 62, 63, 64, 65, 66, 67, 68, 69, 70, 71, 72, 73, 140, 141, 142, 143, 144, 145, 146, 147, 148, 149, 150, 151, 152, 153, 154, 155, 156, 157] rfl (by decide +kernel)
set_option maxRecDepth 20000 in
theorem gL_does_X5_set : GoodIn wsL_does (wsV RL 151 RX5 yX5_set wsX5_set) := goodIn_app (goodIn_r _ [8, 9, 10, 11] rfl (by decide +kernel)) ggL_does_X5_set
set_option maxRecDepth 20000 in
theorem ggL_does_X5_weigh : GoodIn wsL_does wsX5_weigh := goodIn_r _ [77, 13, 78, 15, 16, 17, 18, 19, 20, 21, 25, 26, 27, 28, 29, 30, 31, 32, 33, 11, 34, 35, 36, 37, 38, 39, 40, 41, 42, 43, 44, 45, 46, 47, 48, 49, 50, 51, 52, 53, 54, 2, 3, 4, 55, 56, 57, 58, 59, 60, 61, 62, 63, 64, 65, 66, 67, 68, 69, 70, 71, 72, 73, 140, 141, 142, 143, 144, 145, 146, 147, 148, 149, 150, 151, 152, 153, 154, 155, 156, 157] rfl (by decide +kernel)
set_option maxRecDepth 20000 in
theorem gL_does_X5_weigh : GoodIn wsL_does (wsV RL 154 RX5 yX5_weigh wsX5_weigh) := goodIn_app (goodIn_r _ [74, 75, 76, 11] rfl (by decide +kernel)) ggL_does_X5_weigh
set_option maxRecDepth 20000 in
theorem ggL_does_X5_insert : GoodIn wsL_does wsX5_insert := goodIn_r _ [82, 13, 35, 15, 22, 23, 11, 24, 25, 26, 27, 19, 28, 21, 29, 30, 83, 84, 85, 86, 31, 32, 33, 34, 36, 37, 38, 39, 40, 41, 42, 43, 44, 45, 46, 47, 48, 49, 50, 51, 52, 53, 54, 2, 3, 4, 55, 56, 57, 58, 59, 60, 61, 62, 63, 64, 65, 66, 67, 68, 69, 70, 71, 72, 73, 140, 141, 142, 143, 144, 145, 146, 147, 148, 149, 150, 151, 152, 153, 154, 155, 156, 157] rfl (by decide +kernel)
set_option maxRecDepth 20000 in
theorem gL_does_X5_insert : GoodIn wsL_does (wsV RL 157 RX5 yX5_insert wsX5_insert) := goodIn_app (goodIn_r _ [79, 80, 81, 11] rfl (by decide +kernel)) ggL_does_X5_insert
set_option maxRecDepth 20000 in
theorem ggL_does_X5_remove : GoodIn wsL_does wsX5_remove := goodIn_r _ [90, 13, 14, 15, 16, 17, 18, 19, 20, 21, 25, 26, 27, 28, 29, 30, 91, 92, 93, 94, 31, 32, 33, 11, 34, 35, 36, 37, 38, 39, 40, 41, 42, 43, 44, 45, 46, 47, 48, 49, 50, 51, 52, 53, 54, 2, 3, 4, 55, 56, 57, 58, 59, 60, 61, 62, 63, 64, 65, 66, 67, 68, 69, 70, 71, 72, 73, 140, 141, 142, 143, 144, 145, 146, 147, 148, 149, 150, 151, 152, 153, 154, 155, 156, 157] rfl (by decide +kernel)
set_option maxRecDepth 20000 in
theorem gL_does_X5_remove : GoodIn wsL_does (wsV RL 160 RX5 yX5_remove wsX5_remove) := goodIn_app (goodIn_r _ [87, 88, 89, 11] rfl (by decide +kernel)) ggL_does_X5_remove
set_option maxRecDepth 20000 in
theorem ggL_does_X5_fill : GoodIn wsL_does wsX5_fill := goodIn_r _ [98, 13, 15, 14, 99, 100, 101, 19, 102, 21, 22, 23, 11, 24, 25, 26, 27, 28, 29, 30, 31, 32, 33, 34, 35, 36, 37, 38, 39, 40, 41, 42, 43, 44, 45, 46, 47, 48, 49, 50, 51, 52, 53, 54, 2, 3, 4, 55, 56, 57, 58, 59, 60, 61, 62, 63, 64, 65, 66, 67, 68, 69, 70, 71, 72, 73, 140, 141, 142, 143, 144, 145, 146, 147, 148, 149, 150, 151, 152, 153, 154, 155, 156, 157] rfl (by decide +kernel)
set_option maxRecDepth 20000 in
theorem gL_does_X5_fill : GoodIn wsL_does (wsV RL 163 RX5 yX5_fill wsX5_fill) := goodIn_app (goodIn_r _ [95, 96, 97, 11] rfl (by decide +kernel)) ggL_does_X5_fill
set_option maxRecDepth 20000 in
theorem ggL_does_X5_swap : GoodIn wsL_does wsX5_swap := goodIn_r _ [106, 13, 15, 16, 17, 18, 19, 20, 21, 25, 26, 27, 28, 29, 30, 107, 108, 109, 110, 31, 32, 33, 11, 34, 35, 36, 37, 38, 39, 40, 41, 42, 43, 44, 45, 46, 47, 48, 49, 50, 51, 52, 53, 54, 2, 3, 4, 55, 56, 57, 58, 59, 60, 61, 62, 63, 64, 65, 66, 67, 68, 69, 70, 71, 72, 73, 140, 141, 142, 143, 144, 145, 146, 147, 148, 149, 150, 151, 152, 153, 154, 155, 156, 157] rfl (by decide +kernel)
set_option maxRecDepth 20000 in
theorem gL_does_X5_swap : GoodIn wsL_does (wsV RL 166 RX5 yX5_swap wsX5_swap) := goodIn_app (goodIn_r _ [103, 104, 105, 11] rfl (by decide +kernel)) ggL_does_X5_swap
set_option maxRecDepth 20000 in
theorem ggL_does_X5_flip : GoodIn wsL_does wsX5_flip := goodIn_r _ [114, 13, 15, 99, 100, 101, 19, 102, 21, 25, 26, 27, 28, 29, 30, 115, 116, 117, 118, 119, 108, 109, 110, 31, 32, 33, 11, 34, 35, 36, 37, 38, 39, 40, 41, 42, 43, 44, 45, 46, 47, 48, 49, 50, 51, 52, 53, 54, 2, 3, 4, 55, 56, 57, 58, 59, 60, 61, 62, 63, 64, 65, 66, 67, 68, 69, 70, 71, 72, 73, 140, 141, 142, 143, 144, 145, 146, 147, 148, 149, 150, 151, 152, 153, 154, 155, 156, 157] rfl (by decide +kernel)
set_option maxRecDepth 20000 in
theorem gL_does_X5_flip : GoodIn wsL_does (wsV RL 170 RX5 yX5_flip wsX5_flip) := goodIn_app (goodIn_r _ [111, 112, 113, 11] rfl (by decide +kernel)) ggL_does_X5_flip
set_option maxRecDepth 20000 in
theorem ggL_does_X5_shift : GoodIn wsL_does wsX5_shift := goodIn_r _ [123, 13, 15, 99, 100, 101, 19, 102, 21, 25, 26, 27, 28, 29, 30, 115, 116, 117, 118, 119, 108, 109, 110, 31, 32, 33, 11, 34, 35, 36, 37, 38, 39, 40, 41, 42, 43, 44, 45, 46, 47, 48, 49, 50, 51, 52, 53, 54, 2, 3, 4, 55, 56, 57, 58, 59, 60, 61, 62, 63, 64, 65, 66, 67, 68, 69, 70, 71, 72, 73, 140, 141, 142, 143, 144, 145, 146, 147, 148, 149, 150, 151, 152, 153, 154, 155, 156, 157] rfl (by decide +kernel)
set_option maxRecDepth 20000 in
theorem gL_does_X5_shift : GoodIn wsL_does (wsV RL 173 RX5 yX5_shift wsX5_shift) := goodIn_app (goodIn_r _ [120, 121, 122, 11] rfl (by decide +kernel)) ggL_does_X5_shift
set_option maxRecDepth 20000 in
theorem ggL_does_X5_replace : GoodIn wsL_does wsX5_replace := goodIn_r _ [127, 15, 13, 35, 14, 22, 23, 11, 24, 25, 26, 27, 19, 28, 21, 29, 30, 31, 32, 33, 34, 36, 37, 38, 39, 40, 41, 42, 43, 44, 45, 46, 47, 48, 49, 50, 51, 52, 53, 54, 2, 3, 4, 55, 56, 57, 58, 59, 60, 61, 62, 63, 64, 65, 66, 67, 68, 69, 70, 71, 72, 73, 140, 141, 142, 143, 144, 145, 146, 147, 148, 149, 150, 151, 152, 153, 154, 155, 156, 157] rfl (by decide +kernel)
set_option maxRecDepth 20000 in
theorem gL_does_X5_replace : GoodIn wsL_does (wsV RL 176 RX5 yX5_replace wsX5_replace) := goodIn_app (goodIn_r _ [124, 125, 126, 11] rfl (by decide +kernel)) ggL_does_X5_replace
set_option maxRecDepth 20000 in
theorem ggL_does_X5_sort : GoodIn wsL_does wsX5_sort := goodIn_r _ [131, 13, 15, 99, 100, 101, 19, 102, 21, 25, 26, 27, 28, 29, 30, 132, 133, 134, 135, 136, 137, 138, 139, 119, 108, 109, 110, 31, 32, 33, 11, 34, 35, 36, 37, 38, 39, 40, 41, 42, 43, 44, 45, 46, 47, 48, 49, 50, 51, 52, 53, 54, 2, 3, 4, 55, 56, 57, 58, 59, 60, 61, 62, 63, 64, 65, 66, 67, 68, 69, 70, 71, 72, 73, 140, 141, 142, 143, 144, 145, 146, 147, 148, 149, 150, 151, 152, 153, 154, 155, 156, 157] rfl (by decide +kernel)
set_option maxRecDepth 20000 in
theorem gL_does_X5_sort : GoodIn wsL_does (wsV RL 179 RX5 yX5_sort wsX5_sort) := goodIn_app (goodIn_r _ [128, 129, 130, 11] rfl (by decide +kernel)) ggL_does_X5_sort
theorem dL_does_0 : decode cL_does 0 = .ok (.iload 5, 2) := by decide +kernel
theorem dL_does_2 : decode cL_does 2 = .ok (.iload 6, 2) := by decide +kernel
theorem dL_does_4 : decode cL_does 4 = .ok (.invokestatic 143, 3) := by decide +kernel
theorem dL_does_7 : decode cL_does 7 = .ok (.istore 8, 2) := by decide +kernel
theorem dL_does_9 : decode cL_does 9 = .ok (.iload 5, 2) := by decide +kernel
theorem dL_does_11 : decode cL_does 11 = .ok (.iload 6, 2) := by decide +kernel
theorem dL_does_13 : decode cL_does 13 = .ok (.invokestatic 148, 3) := by decide +kernel
theorem dL_does_16 : decode cL_does 16 = .ok (.istore 9, 2) := by decide +kernel
theorem dL_does_18 : decode cL_does 18 = .ok (.iconst 0, 1) := by decide +kernel
theorem dL_does_19 : decode cL_does 19 = .ok (.istore 10, 2) := by decide +kernel
theorem dL_does_21 : decode cL_does 21 = .ok (.iconst 0, 1) := by decide +kernel
theorem dL_does_22 : decode cL_does 22 = .ok (.istore 11, 2) := by decide +kernel
theorem dL_does_24 : decode cL_does 24 = .ok (.iload 11, 2) := by decide +kernel
theorem dL_does_26 : decode cL_does 26 = .ok (.aload_n 1, 1) := by decide +kernel
theorem dL_does_27 : decode cL_does 27 = .ok (.arraylength, 1) := by decide +kernel
theorem dL_does_28 : decode cL_does 28 = .ok (.if_icmp .ge 41, 3) := by decide +kernel
theorem dL_does_31 : decode cL_does 31 = .ok (.iload 11, 2) := by decide +kernel
theorem dL_does_33 : decode cL_does 33 = .ok (.aload_n 3, 1) := by decide +kernel
theorem dL_does_34 : decode cL_does 34 = .ok (.iconst 0, 1) := by decide +kernel
theorem dL_does_35 : decode cL_does 35 = .ok (.aaload, 1) := by decide +kernel
theorem dL_does_36 : decode cL_does 36 = .ok (.arraylength, 1) := by decide +kernel
theorem dL_does_37 : decode cL_does 37 = .ok (.if_icmp .ge 32, 3) := by decide +kernel
theorem dL_does_40 : decode cL_does 40 = .ok (.iload 10, 2) := by decide +kernel
theorem dL_does_42 : decode cL_does 42 = .ok (.aload_n 1, 1) := by decide +kernel
theorem dL_does_43 : decode cL_does 43 = .ok (.iload 11, 2) := by decide +kernel
theorem dL_does_45 : decode cL_does 45 = .ok (.iaload, 1) := by decide +kernel
theorem dL_does_46 : decode cL_does 46 = .ok (.aload_n 3, 1) := by decide +kernel
theorem dL_does_47 : decode cL_does 47 = .ok (.iconst 0, 1) := by decide +kernel
theorem dL_does_48 : decode cL_does 48 = .ok (.aaload, 1) := by decide +kernel
theorem dL_does_49 : decode cL_does 49 = .ok (.iload 11, 2) := by decide +kernel
theorem dL_does_51 : decode cL_does 51 = .ok (.iaload, 1) := by decide +kernel
theorem dL_does_52 : decode cL_does 52 = .ok (.if_icmp .ne 7, 3) := by decide +kernel
theorem dL_does_55 : decode cL_does 55 = .ok (.iconst 0, 1) := by decide +kernel
theorem dL_does_56 : decode cL_does 56 = .ok (.goto 4, 3) := by decide +kernel
theorem dL_does_59 : decode cL_does 59 = .ok (.iconst 1, 1) := by decide +kernel
theorem dL_does_60 : decode cL_does 60 = .ok (.iadd, 1) := by decide +kernel
theorem dL_does_61 : decode cL_does 61 = .ok (.istore 10, 2) := by decide +kernel
theorem dL_does_63 : decode cL_does 63 = .ok (.iinc 11 1, 3) := by decide +kernel
theorem dL_does_66 : decode cL_does 66 = .ok (.goto (-42), 3) := by decide +kernel
theorem dL_does_69 : decode cL_does 69 = .ok (.iload 4, 2) := by decide +kernel
theorem dL_does_71 : decode cL_does 71 = .ok (.tableswitch 255 0 8 #[49, 70, 96, 117, 136, 157, 186, 205, 234], 49) := by decide +kernel
theorem dL_does_120 : decode cL_does 120 = .ok (.aload_n 0, 1) := by decide +kernel
theorem dL_does_121 : decode cL_does 121 = .ok (.iload 5, 2) := by decide +kernel
theorem dL_does_123 : decode cL_does 123 = .ok (.iload 7, 2) := by decide +kernel
theorem dL_does_125 : decode cL_does 125 = .ok (.invokevirtual 151, 3) := by decide +kernel
theorem dL_does_128 : decode cL_does 128 = .ok (.aload_n 1, 1) := by decide +kernel
theorem dL_does_129 : decode cL_does 129 = .ok (.iload 5, 2) := by decide +kernel
theorem dL_does_131 : decode cL_does 131 = .ok (.iaload, 1) := by decide +kernel
theorem dL_does_132 : decode cL_does 132 = .ok (.if_icmp .ne 7, 3) := by decide +kernel
theorem dL_does_135 : decode cL_does 135 = .ok (.iconst 1, 1) := by decide +kernel
theorem dL_does_136 : decode cL_does 136 = .ok (.goto 4, 3) := by decide +kernel
theorem dL_does_139 : decode cL_does 139 = .ok (.iconst 0, 1) := by decide +kernel
theorem dL_does_140 : decode cL_does 140 = .ok (.ireturn, 1) := by decide +kernel
theorem dL_does_141 : decode cL_does 141 = .ok (.aload_n 0, 1) := by decide +kernel
theorem dL_does_142 : decode cL_does 142 = .ok (.iload 5, 2) := by decide +kernel
theorem dL_does_144 : decode cL_does 144 = .ok (.iconst 1, 1) := by decide +kernel
theorem dL_does_145 : decode cL_does 145 = .ok (.iload 7, 2) := by decide +kernel
theorem dL_does_147 : decode cL_does 147 = .ok (.bipush 9, 2) := by decide +kernel
theorem dL_does_149 : decode cL_does 149 = .ok (.irem, 1) := by decide +kernel
theorem dL_does_150 : decode cL_does 150 = .ok (.iadd, 1) := by decide +kernel
theorem dL_does_151 : decode cL_does 151 = .ok (.invokevirtual 154, 3) := by decide +kernel
theorem dL_does_154 : decode cL_does 154 = .ok (.aload_n 2, 1) := by decide +kernel
theorem dL_does_155 : decode cL_does 155 = .ok (.iload 5, 2) := by decide +kernel
theorem dL_does_157 : decode cL_does 157 = .ok (.iaload, 1) := by decide +kernel
theorem dL_does_158 : decode cL_does 158 = .ok (.if_icmp .ne 7, 3) := by decide +kernel
theorem dL_does_161 : decode cL_does 161 = .ok (.iconst 1, 1) := by decide +kernel
theorem dL_does_162 : decode cL_does 162 = .ok (.goto 4, 3) := by decide +kernel
theorem dL_does_165 : decode cL_does 165 = .ok (.iconst 0, 1) := by decide +kernel
theorem dL_does_166 : decode cL_does 166 = .ok (.ireturn, 1) := by decide +kernel
theorem dL_does_167 : decode cL_does 167 = .ok (.aload_n 0, 1) := by decide +kernel
theorem dL_does_168 : decode cL_does 168 = .ok (.iload 5, 2) := by decide +kernel
theorem dL_does_170 : decode cL_does 170 = .ok (.iload 7, 2) := by decide +kernel
theorem dL_does_172 : decode cL_does 172 = .ok (.invokevirtual 157, 3) := by decide +kernel
theorem dL_does_175 : decode cL_does 175 = .ok (.aload_n 1, 1) := by decide +kernel
theorem dL_does_176 : decode cL_does 176 = .ok (.arraylength, 1) := by decide +kernel
theorem dL_does_177 : decode cL_does 177 = .ok (.iconst 1, 1) := by decide +kernel
theorem dL_does_178 : decode cL_does 178 = .ok (.iadd, 1) := by decide +kernel
theorem dL_does_179 : decode cL_does 179 = .ok (.if_icmp .ne 7, 3) := by decide +kernel
theorem dL_does_182 : decode cL_does 182 = .ok (.iconst 1, 1) := by decide +kernel
theorem dL_does_183 : decode cL_does 183 = .ok (.goto 4, 3) := by decide +kernel
theorem dL_does_186 : decode cL_does 186 = .ok (.iconst 0, 1) := by decide +kernel
theorem dL_does_187 : decode cL_does 187 = .ok (.ireturn, 1) := by decide +kernel
theorem dL_does_188 : decode cL_does 188 = .ok (.aload_n 0, 1) := by decide +kernel
theorem dL_does_189 : decode cL_does 189 = .ok (.iload 5, 2) := by decide +kernel
theorem dL_does_191 : decode cL_does 191 = .ok (.invokevirtual 160, 3) := by decide +kernel
theorem dL_does_194 : decode cL_does 194 = .ok (.aload_n 1, 1) := by decide +kernel
theorem dL_does_195 : decode cL_does 195 = .ok (.iload 5, 2) := by decide +kernel
theorem dL_does_197 : decode cL_does 197 = .ok (.iaload, 1) := by decide +kernel
theorem dL_does_198 : decode cL_does 198 = .ok (.if_icmp .ne 7, 3) := by decide +kernel
theorem dL_does_201 : decode cL_does 201 = .ok (.iconst 1, 1) := by decide +kernel
theorem dL_does_202 : decode cL_does 202 = .ok (.goto 4, 3) := by decide +kernel
theorem dL_does_205 : decode cL_does 205 = .ok (.iconst 0, 1) := by decide +kernel
theorem dL_does_206 : decode cL_does 206 = .ok (.ireturn, 1) := by decide +kernel
theorem dL_does_207 : decode cL_does 207 = .ok (.aload_n 0, 1) := by decide +kernel
theorem dL_does_208 : decode cL_does 208 = .ok (.iload 8, 2) := by decide +kernel
theorem dL_does_210 : decode cL_does 210 = .ok (.iload 9, 2) := by decide +kernel
theorem dL_does_212 : decode cL_does 212 = .ok (.iload 7, 2) := by decide +kernel
theorem dL_does_214 : decode cL_does 214 = .ok (.invokevirtual 163, 3) := by decide +kernel
theorem dL_does_217 : decode cL_does 217 = .ok (.iload 10, 2) := by decide +kernel
theorem dL_does_219 : decode cL_does 219 = .ok (.if_icmp .ne 7, 3) := by decide +kernel
theorem dL_does_222 : decode cL_does 222 = .ok (.iconst 1, 1) := by decide +kernel
theorem dL_does_223 : decode cL_does 223 = .ok (.goto 4, 3) := by decide +kernel
theorem dL_does_226 : decode cL_does 226 = .ok (.iconst 0, 1) := by decide +kernel
theorem dL_does_227 : decode cL_does 227 = .ok (.ireturn, 1) := by decide +kernel
theorem dL_does_228 : decode cL_does 228 = .ok (.aload_n 0, 1) := by decide +kernel
theorem dL_does_229 : decode cL_does 229 = .ok (.iload 5, 2) := by decide +kernel
theorem dL_does_231 : decode cL_does 231 = .ok (.iload 6, 2) := by decide +kernel
theorem dL_does_233 : decode cL_does 233 = .ok (.invokevirtual 166, 3) := by decide +kernel
theorem dL_does_236 : decode cL_does 236 = .ok (.iload 5, 2) := by decide +kernel
theorem dL_does_238 : decode cL_does 238 = .ok (.iload 6, 2) := by decide +kernel
theorem dL_does_240 : decode cL_does 240 = .ok (.if_icmp .eq 7, 3) := by decide +kernel
theorem dL_does_243 : decode cL_does 243 = .ok (.iconst 1, 1) := by decide +kernel
theorem dL_does_244 : decode cL_does 244 = .ok (.goto 4, 3) := by decide +kernel
theorem dL_does_247 : decode cL_does 247 = .ok (.iconst 0, 1) := by decide +kernel
theorem dL_does_248 : decode cL_does 248 = .ok (.if_icmp .ne 7, 3) := by decide +kernel
theorem dL_does_251 : decode cL_does 251 = .ok (.iconst 1, 1) := by decide +kernel
theorem dL_does_252 : decode cL_does 252 = .ok (.goto 4, 3) := by decide +kernel
theorem dL_does_255 : decode cL_does 255 = .ok (.iconst 0, 1) := by decide +kernel
theorem dL_does_256 : decode cL_does 256 = .ok (.ireturn, 1) := by decide +kernel
theorem dL_does_257 : decode cL_does 257 = .ok (.aload_n 0, 1) := by decide +kernel
theorem dL_does_258 : decode cL_does 258 = .ok (.iload 8, 2) := by decide +kernel
theorem dL_does_260 : decode cL_does 260 = .ok (.iload 9, 2) := by decide +kernel
theorem dL_does_262 : decode cL_does 262 = .ok (.invokevirtual 170, 3) := by decide +kernel
theorem dL_does_265 : decode cL_does 265 = .ok (.iload 10, 2) := by decide +kernel
theorem dL_does_267 : decode cL_does 267 = .ok (.if_icmp .ne 7, 3) := by decide +kernel
theorem dL_does_270 : decode cL_does 270 = .ok (.iconst 1, 1) := by decide +kernel
theorem dL_does_271 : decode cL_does 271 = .ok (.goto 4, 3) := by decide +kernel
theorem dL_does_274 : decode cL_does 274 = .ok (.iconst 0, 1) := by decide +kernel
theorem dL_does_275 : decode cL_does 275 = .ok (.ireturn, 1) := by decide +kernel
theorem dL_does_276 : decode cL_does 276 = .ok (.aload_n 0, 1) := by decide +kernel
theorem dL_does_277 : decode cL_does 277 = .ok (.iload 8, 2) := by decide +kernel
theorem dL_does_279 : decode cL_does 279 = .ok (.iload 9, 2) := by decide +kernel
theorem dL_does_281 : decode cL_does 281 = .ok (.iload 7, 2) := by decide +kernel
theorem dL_does_283 : decode cL_does 283 = .ok (.iload 9, 2) := by decide +kernel
theorem dL_does_285 : decode cL_does 285 = .ok (.iload 8, 2) := by decide +kernel
theorem dL_does_287 : decode cL_does 287 = .ok (.isub, 1) := by decide +kernel
theorem dL_does_288 : decode cL_does 288 = .ok (.iconst 2, 1) := by decide +kernel
theorem dL_does_289 : decode cL_does 289 = .ok (.iadd, 1) := by decide +kernel
theorem dL_does_290 : decode cL_does 290 = .ok (.irem, 1) := by decide +kernel
theorem dL_does_291 : decode cL_does 291 = .ok (.invokevirtual 173, 3) := by decide +kernel
theorem dL_does_294 : decode cL_does 294 = .ok (.iload 10, 2) := by decide +kernel
theorem dL_does_296 : decode cL_does 296 = .ok (.if_icmp .ne 7, 3) := by decide +kernel
theorem dL_does_299 : decode cL_does 299 = .ok (.iconst 1, 1) := by decide +kernel
theorem dL_does_300 : decode cL_does 300 = .ok (.goto 4, 3) := by decide +kernel
theorem dL_does_303 : decode cL_does 303 = .ok (.iconst 0, 1) := by decide +kernel
theorem dL_does_304 : decode cL_does 304 = .ok (.ireturn, 1) := by decide +kernel
theorem dL_does_305 : decode cL_does 305 = .ok (.aload_n 0, 1) := by decide +kernel
theorem dL_does_306 : decode cL_does 306 = .ok (.aload_n 1, 1) := by decide +kernel
theorem dL_does_307 : decode cL_does 307 = .ok (.iload 5, 2) := by decide +kernel
theorem dL_does_309 : decode cL_does 309 = .ok (.iaload, 1) := by decide +kernel
theorem dL_does_310 : decode cL_does 310 = .ok (.iload 7, 2) := by decide +kernel
theorem dL_does_312 : decode cL_does 312 = .ok (.invokevirtual 176, 3) := by decide +kernel
theorem dL_does_315 : decode cL_does 315 = .ok (.iload 10, 2) := by decide +kernel
theorem dL_does_317 : decode cL_does 317 = .ok (.if_icmp .ne 7, 3) := by decide +kernel
theorem dL_does_320 : decode cL_does 320 = .ok (.iconst 1, 1) := by decide +kernel
theorem dL_does_321 : decode cL_does 321 = .ok (.goto 4, 3) := by decide +kernel
theorem dL_does_324 : decode cL_does 324 = .ok (.iconst 0, 1) := by decide +kernel
theorem dL_does_325 : decode cL_does 325 = .ok (.ireturn, 1) := by decide +kernel
theorem dL_does_326 : decode cL_does 326 = .ok (.aload_n 0, 1) := by decide +kernel
theorem dL_does_327 : decode cL_does 327 = .ok (.iload 8, 2) := by decide +kernel
theorem dL_does_329 : decode cL_does 329 = .ok (.iload 9, 2) := by decide +kernel
theorem dL_does_331 : decode cL_does 331 = .ok (.iload 7, 2) := by decide +kernel
theorem dL_does_333 : decode cL_does 333 = .ok (.iconst 2, 1) := by decide +kernel
theorem dL_does_334 : decode cL_does 334 = .ok (.irem, 1) := by decide +kernel
theorem dL_does_335 : decode cL_does 335 = .ok (.ifCond .ne 7, 3) := by decide +kernel
theorem dL_does_338 : decode cL_does 338 = .ok (.iconst 1, 1) := by decide +kernel
theorem dL_does_339 : decode cL_does 339 = .ok (.goto 4, 3) := by decide +kernel
theorem dL_does_342 : decode cL_does 342 = .ok (.iconst 0, 1) := by decide +kernel
theorem dL_does_343 : decode cL_does 343 = .ok (.invokevirtual 179, 3) := by decide +kernel
theorem dL_does_346 : decode cL_does 346 = .ok (.iload 10, 2) := by decide +kernel
theorem dL_does_348 : decode cL_does 348 = .ok (.if_icmp .ne 7, 3) := by decide +kernel
theorem dL_does_351 : decode cL_does 351 = .ok (.iconst 1, 1) := by decide +kernel
theorem dL_does_352 : decode cL_does 352 = .ok (.goto 4, 3) := by decide +kernel
theorem dL_does_355 : decode cL_does 355 = .ok (.iconst 0, 1) := by decide +kernel
theorem dL_does_356 : decode cL_does 356 = .ok (.ireturn, 1) := by decide +kernel
theorem dL_isSame_0 : decode cL_isSame 0 = .ok (.aload_n 0, 1) := by decide +kernel
theorem dL_isSame_1 : decode cL_isSame 1 = .ok (.arraylength, 1) := by decide +kernel
theorem dL_isSame_2 : decode cL_isSame 2 = .ok (.aload_n 1, 1) := by decide +kernel
theorem dL_isSame_3 : decode cL_isSame 3 = .ok (.arraylength, 1) := by decide +kernel
theorem dL_isSame_4 : decode cL_isSame 4 = .ok (.if_icmp .eq 5, 3) := by decide +kernel
theorem dL_isSame_7 : decode cL_isSame 7 = .ok (.iconst 0, 1) := by decide +kernel
theorem dL_isSame_8 : decode cL_isSame 8 = .ok (.ireturn, 1) := by decide +kernel
theorem dL_isSame_9 : decode cL_isSame 9 = .ok (.iconst 0, 1) := by decide +kernel
theorem dL_isSame_10 : decode cL_isSame 10 = .ok (.istore_n 2, 1) := by decide +kernel
theorem dL_isSame_11 : decode cL_isSame 11 = .ok (.iload_n 2, 1) := by decide +kernel
theorem dL_isSame_12 : decode cL_isSame 12 = .ok (.aload_n 0, 1) := by decide +kernel
theorem dL_isSame_13 : decode cL_isSame 13 = .ok (.arraylength, 1) := by decide +kernel
theorem dL_isSame_14 : decode cL_isSame 14 = .ok (.if_icmp .ge 20, 3) := by decide +kernel
theorem dL_isSame_17 : decode cL_isSame 17 = .ok (.aload_n 0, 1) := by decide +kernel
theorem dL_isSame_18 : decode cL_isSame 18 = .ok (.iload_n 2, 1) := by decide +kernel
theorem dL_isSame_19 : decode cL_isSame 19 = .ok (.iaload, 1) := by decide +kernel
theorem dL_isSame_20 : decode cL_isSame 20 = .ok (.aload_n 1, 1) := by decide +kernel
theorem dL_isSame_21 : decode cL_isSame 21 = .ok (.iload_n 2, 1) := by decide +kernel
theorem dL_isSame_22 : decode cL_isSame 22 = .ok (.iaload, 1) := by decide +kernel
theorem dL_isSame_23 : decode cL_isSame 23 = .ok (.if_icmp .eq 5, 3) := by decide +kernel
theorem dL_isSame_26 : decode cL_isSame 26 = .ok (.iconst 0, 1) := by decide +kernel
theorem dL_isSame_27 : decode cL_isSame 27 = .ok (.ireturn, 1) := by decide +kernel
theorem dL_isSame_28 : decode cL_isSame 28 = .ok (.iinc 2 1, 3) := by decide +kernel
theorem dL_isSame_31 : decode cL_isSame 31 = .ok (.goto (-20), 3) := by decide +kernel
theorem dL_isSame_34 : decode cL_isSame 34 = .ok (.iconst 1, 1) := by decide +kernel
theorem dL_isSame_35 : decode cL_isSame 35 = .ok (.ireturn, 1) := by decide +kernel
