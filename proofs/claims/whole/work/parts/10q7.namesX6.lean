theorem dX6_init_0 : decode cX6_init 0 = .ok (.aload_n 0, 1) := by decide +kernel
theorem dX6_init_1 : decode cX6_init 1 = .ok (.invokespecial 1, 3) := by decide +kernel
theorem dX6_init_4 : decode cX6_init 4 = .ok (.aload_n 0, 1) := by decide +kernel
theorem dX6_init_5 : decode cX6_init 5 = .ok (.sipush 900, 3) := by decide +kernel
theorem dX6_init_8 : decode cX6_init 8 = .ok (.newarray .int, 2) := by decide +kernel
theorem dX6_init_10 : decode cX6_init 10 = .ok (.putfield 7, 3) := by decide +kernel
theorem dX6_init_13 : decode cX6_init 13 = .ok (.aload_n 0, 1) := by decide +kernel
theorem dX6_init_14 : decode cX6_init 14 = .ok (.bipush 120, 2) := by decide +kernel
theorem dX6_init_16 : decode cX6_init 16 = .ok (.newarray .int, 2) := by decide +kernel
theorem dX6_init_18 : decode cX6_init 18 = .ok (.putfield 13, 3) := by decide +kernel
theorem dX6_init_21 : decode cX6_init 21 = .ok (.aload_n 0, 1) := by decide +kernel
theorem dX6_init_22 : decode cX6_init 22 = .ok (.bipush 120, 2) := by decide +kernel
theorem dX6_init_24 : decode cX6_init 24 = .ok (.newarray .int, 2) := by decide +kernel
theorem dX6_init_26 : decode cX6_init 26 = .ok (.putfield 16, 3) := by decide +kernel
theorem dX6_init_29 : decode cX6_init 29 = .ok (.aload_n 0, 1) := by decide +kernel
theorem dX6_init_30 : decode cX6_init 30 = .ok (.sipush 1440, 3) := by decide +kernel
theorem dX6_init_33 : decode cX6_init 33 = .ok (.newarray .int, 2) := by decide +kernel
theorem dX6_init_35 : decode cX6_init 35 = .ok (.putfield 19, 3) := by decide +kernel
theorem dX6_init_38 : decode cX6_init 38 = .ok (.aload_n 0, 1) := by decide +kernel
theorem dX6_init_39 : decode cX6_init 39 = .ok (.sipush 1440, 3) := by decide +kernel
theorem dX6_init_42 : decode cX6_init 42 = .ok (.newarray .int, 2) := by decide +kernel
theorem dX6_init_44 : decode cX6_init 44 = .ok (.putfield 22, 3) := by decide +kernel
theorem dX6_init_47 : decode cX6_init 47 = .ok (.aload_n 0, 1) := by decide +kernel
theorem dX6_init_48 : decode cX6_init 48 = .ok (.bipush 12, 2) := by decide +kernel
theorem dX6_init_50 : decode cX6_init 50 = .ok (.newarray .int, 2) := by decide +kernel
theorem dX6_init_52 : decode cX6_init 52 = .ok (.putfield 25, 3) := by decide +kernel
theorem dX6_init_55 : decode cX6_init 55 = .ok (.aload_n 0, 1) := by decide +kernel
theorem dX6_init_56 : decode cX6_init 56 = .ok (.bipush (-2), 2) := by decide +kernel
theorem dX6_init_58 : decode cX6_init 58 = .ok (.putfield 28, 3) := by decide +kernel
theorem dX6_init_61 : decode cX6_init 61 = .ok (.aload_n 0, 1) := by decide +kernel
theorem dX6_init_62 : decode cX6_init 62 = .ok (.bipush 120, 2) := by decide +kernel
theorem dX6_init_64 : decode cX6_init 64 = .ok (.newarray .int, 2) := by decide +kernel
theorem dX6_init_66 : decode cX6_init 66 = .ok (.putfield 32, 3) := by decide +kernel
theorem dX6_init_69 : decode cX6_init 69 = .ok (.aload_n 0, 1) := by decide +kernel
theorem dX6_init_70 : decode cX6_init 70 = .ok (.bipush 120, 2) := by decide +kernel
theorem dX6_init_72 : decode cX6_init 72 = .ok (.newarray .int, 2) := by decide +kernel
theorem dX6_init_74 : decode cX6_init 74 = .ok (.putfield 35, 3) := by decide +kernel
theorem dX6_init_77 : decode cX6_init 77 = .ok (.aload_n 0, 1) := by decide +kernel
theorem dX6_init_78 : decode cX6_init 78 = .ok (.iconst (-1), 1) := by decide +kernel
theorem dX6_init_79 : decode cX6_init 79 = .ok (.putfield 38, 3) := by decide +kernel
theorem dX6_init_82 : decode cX6_init 82 = .ok (.aload_n 0, 1) := by decide +kernel
theorem dX6_init_83 : decode cX6_init 83 = .ok (.bipush 121, 2) := by decide +kernel
theorem dX6_init_85 : decode cX6_init 85 = .ok (.newarray .int, 2) := by decide +kernel
theorem dX6_init_87 : decode cX6_init 87 = .ok (.putfield 41, 3) := by decide +kernel
theorem dX6_init_90 : decode cX6_init 90 = .ok (.aload_n 0, 1) := by decide +kernel
theorem dX6_init_91 : decode cX6_init 91 = .ok (.bipush 121, 2) := by decide +kernel
theorem dX6_init_93 : decode cX6_init 93 = .ok (.newarray .int, 2) := by decide +kernel
theorem dX6_init_95 : decode cX6_init 95 = .ok (.putfield 44, 3) := by decide +kernel
theorem dX6_init_98 : decode cX6_init 98 = .ok (.aload_n 0, 1) := by decide +kernel
theorem dX6_init_99 : decode cX6_init 99 = .ok (.sipush 1000, 3) := by decide +kernel
theorem dX6_init_102 : decode cX6_init 102 = .ok (.newarray .int, 2) := by decide +kernel
theorem dX6_init_104 : decode cX6_init 104 = .ok (.putfield 47, 3) := by decide +kernel
theorem dX6_init_107 : decode cX6_init 107 = .ok (.aload_n 0, 1) := by decide +kernel
theorem dX6_init_108 : decode cX6_init 108 = .ok (.sipush 1000, 3) := by decide +kernel
theorem dX6_init_111 : decode cX6_init 111 = .ok (.newarray .int, 2) := by decide +kernel
theorem dX6_init_113 : decode cX6_init 113 = .ok (.putfield 50, 3) := by decide +kernel
theorem dX6_init_116 : decode cX6_init 116 = .ok (.aload_n 0, 1) := by decide +kernel
theorem dX6_init_117 : decode cX6_init 117 = .ok (.sipush 1000, 3) := by decide +kernel
theorem dX6_init_120 : decode cX6_init 120 = .ok (.newarray .int, 2) := by decide +kernel
theorem dX6_init_122 : decode cX6_init 122 = .ok (.putfield 53, 3) := by decide +kernel
theorem dX6_init_125 : decode cX6_init 125 = .ok (.aload_n 0, 1) := by decide +kernel
theorem dX6_init_126 : decode cX6_init 126 = .ok (.bipush 120, 2) := by decide +kernel
theorem dX6_init_128 : decode cX6_init 128 = .ok (.newarray .int, 2) := by decide +kernel
theorem dX6_init_130 : decode cX6_init 130 = .ok (.putfield 56, 3) := by decide +kernel
theorem dX6_init_133 : decode cX6_init 133 = .ok (.aload_n 0, 1) := by decide +kernel
theorem dX6_init_134 : decode cX6_init 134 = .ok (.sipush 1000, 3) := by decide +kernel
theorem dX6_init_137 : decode cX6_init 137 = .ok (.newarray .boolean, 2) := by decide +kernel
theorem dX6_init_139 : decode cX6_init 139 = .ok (.putfield 59, 3) := by decide +kernel
theorem dX6_init_142 : decode cX6_init 142 = .ok (.aload_n 0, 1) := by decide +kernel
theorem dX6_init_143 : decode cX6_init 143 = .ok (.sipush 1000, 3) := by decide +kernel
theorem dX6_init_146 : decode cX6_init 146 = .ok (.newarray .int, 2) := by decide +kernel
theorem dX6_init_148 : decode cX6_init 148 = .ok (.putfield 63, 3) := by decide +kernel
theorem dX6_init_151 : decode cX6_init 151 = .ok (.aload_n 0, 1) := by decide +kernel
theorem dX6_init_152 : decode cX6_init 152 = .ok (.bipush 121, 2) := by decide +kernel
theorem dX6_init_154 : decode cX6_init 154 = .ok (.newarray .int, 2) := by decide +kernel
theorem dX6_init_156 : decode cX6_init 156 = .ok (.putfield 66, 3) := by decide +kernel
theorem dX6_init_159 : decode cX6_init 159 = .ok (.aload_n 0, 1) := by decide +kernel
theorem dX6_init_160 : decode cX6_init 160 = .ok (.bipush 8, 2) := by decide +kernel
theorem dX6_init_162 : decode cX6_init 162 = .ok (.putfield 69, 3) := by decide +kernel
theorem dX6_init_165 : decode cX6_init 165 = .ok (.return_, 1) := by decide +kernel
theorem dX6_thrown_0 : decode cX6_thrown 0 = .ok (.aload_n 0, 1) := by decide +kernel
theorem dX6_thrown_1 : decode cX6_thrown 1 = .ok (.getfield 72, 3) := by decide +kernel
theorem dX6_thrown_4 : decode cX6_thrown 4 = .ok (.ireturn, 1) := by decide +kernel
theorem dX6_feed_0 : decode cX6_feed 0 = .ok (.aload_n 0, 1) := by decide +kernel
theorem dX6_feed_1 : decode cX6_feed 1 = .ok (.iconst 0, 1) := by decide +kernel
theorem dX6_feed_2 : decode cX6_feed 2 = .ok (.putfield 72, 3) := by decide +kernel
theorem dX6_feed_5 : decode cX6_feed 5 = .ok (.aload_n 0, 1) := by decide +kernel
theorem dX6_feed_6 : decode cX6_feed 6 = .ok (.getfield 75, 3) := by decide +kernel
theorem dX6_feed_9 : decode cX6_feed 9 = .ok (.sipush 880, 3) := by decide +kernel
theorem dX6_feed_12 : decode cX6_feed 12 = .ok (.if_icmp .le 5, 3) := by decide +kernel
theorem dX6_feed_15 : decode cX6_feed 15 = .ok (.iconst (-1), 1) := by decide +kernel
theorem dX6_feed_16 : decode cX6_feed 16 = .ok (.ireturn, 1) := by decide +kernel
theorem dX6_feed_17 : decode cX6_feed 17 = .ok (.iconst 0, 1) := by decide +kernel
theorem dX6_feed_18 : decode cX6_feed 18 = .ok (.istore 6, 2) := by decide +kernel
theorem dX6_feed_20 : decode cX6_feed 20 = .ok (.iload 6, 2) := by decide +kernel
theorem dX6_feed_22 : decode cX6_feed 22 = .ok (.bipush 20, 2) := by decide +kernel
theorem dX6_feed_24 : decode cX6_feed 24 = .ok (.if_icmp .ge 86, 3) := by decide +kernel
theorem dX6_feed_27 : decode cX6_feed 27 = .ok (.iload 6, 2) := by decide +kernel
theorem dX6_feed_29 : decode cX6_feed 29 = .ok (.iconst 4, 1) := by decide +kernel
theorem dX6_feed_30 : decode cX6_feed 30 = .ok (.if_icmp .ge 7, 3) := by decide +kernel
theorem dX6_feed_33 : decode cX6_feed 33 = .ok (.iload_n 1, 1) := by decide +kernel
theorem dX6_feed_34 : decode cX6_feed 34 = .ok (.goto 39, 3) := by decide +kernel
theorem dX6_feed_37 : decode cX6_feed 37 = .ok (.iload 6, 2) := by decide +kernel
theorem dX6_feed_39 : decode cX6_feed 39 = .ok (.bipush 8, 2) := by decide +kernel
theorem dX6_feed_41 : decode cX6_feed 41 = .ok (.if_icmp .ge 7, 3) := by decide +kernel
theorem dX6_feed_44 : decode cX6_feed 44 = .ok (.iload_n 2, 1) := by decide +kernel
theorem dX6_feed_45 : decode cX6_feed 45 = .ok (.goto 28, 3) := by decide +kernel
theorem dX6_feed_48 : decode cX6_feed 48 = .ok (.iload 6, 2) := by decide +kernel
theorem dX6_feed_50 : decode cX6_feed 50 = .ok (.bipush 12, 2) := by decide +kernel
theorem dX6_feed_52 : decode cX6_feed 52 = .ok (.if_icmp .ge 7, 3) := by decide +kernel
theorem dX6_feed_55 : decode cX6_feed 55 = .ok (.iload_n 3, 1) := by decide +kernel
theorem dX6_feed_56 : decode cX6_feed 56 = .ok (.goto 17, 3) := by decide +kernel
theorem dX6_feed_59 : decode cX6_feed 59 = .ok (.iload 6, 2) := by decide +kernel
theorem dX6_feed_61 : decode cX6_feed 61 = .ok (.bipush 16, 2) := by decide +kernel
theorem dX6_feed_63 : decode cX6_feed 63 = .ok (.if_icmp .ge 8, 3) := by decide +kernel
theorem dX6_feed_66 : decode cX6_feed 66 = .ok (.iload 4, 2) := by decide +kernel
theorem dX6_feed_68 : decode cX6_feed 68 = .ok (.goto 5, 3) := by decide +kernel
theorem dX6_feed_71 : decode cX6_feed 71 = .ok (.iload 5, 2) := by decide +kernel
theorem dX6_feed_73 : decode cX6_feed 73 = .ok (.istore 7, 2) := by decide +kernel
theorem dX6_feed_75 : decode cX6_feed 75 = .ok (.aload_n 0, 1) := by decide +kernel
theorem dX6_feed_76 : decode cX6_feed 76 = .ok (.getfield 7, 3) := by decide +kernel
theorem dX6_feed_79 : decode cX6_feed 79 = .ok (.aload_n 0, 1) := by decide +kernel
theorem dX6_feed_80 : decode cX6_feed 80 = .ok (.getfield 75, 3) := by decide +kernel
theorem dX6_feed_83 : decode cX6_feed 83 = .ok (.iload 6, 2) := by decide +kernel
theorem dX6_feed_85 : decode cX6_feed 85 = .ok (.iadd, 1) := by decide +kernel
theorem dX6_feed_86 : decode cX6_feed 86 = .ok (.iload 7, 2) := by decide +kernel
theorem dX6_feed_88 : decode cX6_feed 88 = .ok (.bipush 24, 2) := by decide +kernel
theorem dX6_feed_90 : decode cX6_feed 90 = .ok (.bipush 8, 2) := by decide +kernel
theorem dX6_feed_92 : decode cX6_feed 92 = .ok (.iload 6, 2) := by decide +kernel
theorem dX6_feed_94 : decode cX6_feed 94 = .ok (.iconst 4, 1) := by decide +kernel
theorem dX6_feed_95 : decode cX6_feed 95 = .ok (.irem, 1) := by decide +kernel
theorem dX6_feed_96 : decode cX6_feed 96 = .ok (.imul, 1) := by decide +kernel
theorem dX6_feed_97 : decode cX6_feed 97 = .ok (.isub, 1) := by decide +kernel
theorem dX6_feed_98 : decode cX6_feed 98 = .ok (.ishr, 1) := by decide +kernel
theorem dX6_feed_99 : decode cX6_feed 99 = .ok (.sipush 255, 3) := by decide +kernel
theorem dX6_feed_102 : decode cX6_feed 102 = .ok (.iand, 1) := by decide +kernel
theorem dX6_feed_103 : decode cX6_feed 103 = .ok (.iastore, 1) := by decide +kernel
theorem dX6_feed_104 : decode cX6_feed 104 = .ok (.iinc 6 1, 3) := by decide +kernel
theorem dX6_feed_107 : decode cX6_feed 107 = .ok (.goto (-87), 3) := by decide +kernel
theorem dX6_feed_110 : decode cX6_feed 110 = .ok (.aload_n 0, 1) := by decide +kernel
theorem dX6_feed_111 : decode cX6_feed 111 = .ok (.dup, 1) := by decide +kernel
theorem dX6_feed_112 : decode cX6_feed 112 = .ok (.getfield 75, 3) := by decide +kernel
theorem dX6_feed_115 : decode cX6_feed 115 = .ok (.bipush 20, 2) := by decide +kernel
theorem dX6_feed_117 : decode cX6_feed 117 = .ok (.iadd, 1) := by decide +kernel
theorem dX6_feed_118 : decode cX6_feed 118 = .ok (.putfield 75, 3) := by decide +kernel
theorem dX6_feed_121 : decode cX6_feed 121 = .ok (.aload_n 0, 1) := by decide +kernel
theorem dX6_feed_122 : decode cX6_feed 122 = .ok (.getfield 75, 3) := by decide +kernel
theorem dX6_feed_125 : decode cX6_feed 125 = .ok (.ireturn, 1) := by decide +kernel
theorem dX6_here_0 : decode cX6_here 0 = .ok (.aload_n 0, 1) := by decide +kernel
theorem dX6_here_1 : decode cX6_here 1 = .ok (.getfield 78, 3) := by decide +kernel
theorem dX6_here_4 : decode cX6_here 4 = .ok (.aload_n 0, 1) := by decide +kernel
theorem dX6_here_5 : decode cX6_here 5 = .ok (.getfield 81, 3) := by decide +kernel
theorem dX6_here_8 : decode cX6_here 8 = .ok (.if_icmp .ge 15, 3) := by decide +kernel
theorem dX6_here_11 : decode cX6_here 11 = .ok (.aload_n 0, 1) := by decide +kernel
theorem dX6_here_12 : decode cX6_here 12 = .ok (.getfield 7, 3) := by decide +kernel
theorem dX6_here_15 : decode cX6_here 15 = .ok (.aload_n 0, 1) := by decide +kernel
theorem dX6_here_16 : decode cX6_here 16 = .ok (.getfield 78, 3) := by decide +kernel
theorem dX6_here_19 : decode cX6_here 19 = .ok (.iaload, 1) := by decide +kernel
theorem dX6_here_20 : decode cX6_here 20 = .ok (.goto 4, 3) := by decide +kernel
theorem dX6_here_23 : decode cX6_here 23 = .ok (.iconst (-1), 1) := by decide +kernel
theorem dX6_here_24 : decode cX6_here 24 = .ok (.ireturn, 1) := by decide +kernel
theorem dX6_isSmall_0 : decode cX6_isSmall 0 = .ok (.iload_n 0, 1) := by decide +kernel
theorem dX6_isSmall_1 : decode cX6_isSmall 1 = .ok (.bipush 97, 2) := by decide +kernel
theorem dX6_isSmall_3 : decode cX6_isSmall 3 = .ok (.if_icmp .lt 13, 3) := by decide +kernel
theorem dX6_isSmall_6 : decode cX6_isSmall 6 = .ok (.iload_n 0, 1) := by decide +kernel
theorem dX6_isSmall_7 : decode cX6_isSmall 7 = .ok (.bipush 122, 2) := by decide +kernel
theorem dX6_isSmall_9 : decode cX6_isSmall 9 = .ok (.if_icmp .gt 7, 3) := by decide +kernel
theorem dX6_isSmall_12 : decode cX6_isSmall 12 = .ok (.iconst 1, 1) := by decide +kernel
theorem dX6_isSmall_13 : decode cX6_isSmall 13 = .ok (.goto 4, 3) := by decide +kernel
theorem dX6_isSmall_16 : decode cX6_isSmall 16 = .ok (.iconst 0, 1) := by decide +kernel
theorem dX6_isSmall_17 : decode cX6_isSmall 17 = .ok (.ireturn, 1) := by decide +kernel
theorem dX6_isDigit_0 : decode cX6_isDigit 0 = .ok (.iload_n 0, 1) := by decide +kernel
theorem dX6_isDigit_1 : decode cX6_isDigit 1 = .ok (.bipush 48, 2) := by decide +kernel
theorem dX6_isDigit_3 : decode cX6_isDigit 3 = .ok (.if_icmp .lt 13, 3) := by decide +kernel
theorem dX6_isDigit_6 : decode cX6_isDigit 6 = .ok (.iload_n 0, 1) := by decide +kernel
theorem dX6_isDigit_7 : decode cX6_isDigit 7 = .ok (.bipush 57, 2) := by decide +kernel
theorem dX6_isDigit_9 : decode cX6_isDigit 9 = .ok (.if_icmp .gt 7, 3) := by decide +kernel
theorem dX6_isDigit_12 : decode cX6_isDigit 12 = .ok (.iconst 1, 1) := by decide +kernel
theorem dX6_isDigit_13 : decode cX6_isDigit 13 = .ok (.goto 4, 3) := by decide +kernel
theorem dX6_isDigit_16 : decode cX6_isDigit 16 = .ok (.iconst 0, 1) := by decide +kernel
theorem dX6_isDigit_17 : decode cX6_isDigit 17 = .ok (.ireturn, 1) := by decide +kernel
set_option maxRecDepth 20000 in
theorem ggX6_token_X6_here : GoodIn wsX6_token wsX6_here := goodIn_r _ [9, 1, 10, 11, 71, 72, 73, 74, 75, 76, 77, 78, 79, 80, 81, 82, 83, 84, 85, 86, 87, 88, 89, 90, 91, 92, 93, 94, 95, 96, 97, 98, 99, 100, 101, 102, 103, 104, 105, 106, 107, 108, 109, 110, 111, 112] rfl (by decide +kernel)
set_option maxRecDepth 20000 in
theorem gX6_token_X6_here : GoodIn wsX6_token (wsV RX6 84 RX6 yX6_here wsX6_here) := goodIn_app (goodIn_r _ [5, 6, 7, 8] rfl (by decide +kernel)) ggX6_token_X6_here
set_option maxRecDepth 20000 in
theorem ggX6_token_X6_isSmall : GoodIn wsX6_token wsX6_isSmall := goodIn_r _ [14] rfl (by decide +kernel)
set_option maxRecDepth 20000 in
theorem gX6_token_X6_isSmall : GoodIn wsX6_token (va_wsS RX6 94 yX6_isSmall wsX6_isSmall) := goodIn_app (goodIn_r _ [12, 13, 8] rfl (by decide +kernel)) ggX6_token_X6_isSmall
set_option maxRecDepth 20000 in
theorem ggX6_token_X6_wordHere : GoodIn wsX6_token wsX6_wordHere := goodIn_r _ [18, 2, 1, 11, 19, 20, 21, 22, 23, 24, 25, 26, 27, 28, 29, 30, 31, 32, 33, 34, 35, 36, 37, 38, 39, 40, 41, 42, 43, 44, 45, 46, 47, 48, 49, 50, 51, 52, 53, 54, 55, 56, 57, 58, 59, 60, 61, 62, 63, 64, 65, 66, 67, 71, 72, 73, 74, 75, 76, 77, 78, 79, 80, 81, 82, 83, 84, 85, 86, 87, 88, 89, 90, 91, 92, 93, 94, 95, 96, 97, 98, 99, 100, 101, 102, 103, 104, 105, 106, 107, 108, 109, 110, 111, 112] rfl (by decide +kernel)
set_option maxRecDepth 20000 in
theorem gX6_token_X6_wordHere : GoodIn wsX6_token (wsV RX6 98 RX6 yX6_wordHere wsX6_wordHere) := goodIn_app (goodIn_r _ [15, 16, 17, 8] rfl (by decide +kernel)) ggX6_token_X6_wordHere
set_option maxRecDepth 20000 in
theorem ggX6_token_X6_isDigit : GoodIn wsX6_token wsX6_isDigit := goodIn_r _ [70] rfl (by decide +kernel)
set_option maxRecDepth 20000 in
theorem gX6_token_X6_isDigit : GoodIn wsX6_token (va_wsS RX6 104 yX6_isDigit wsX6_isDigit) := goodIn_app (goodIn_r _ [68, 69, 8] rfl (by decide +kernel)) ggX6_token_X6_isDigit
theorem dX6_token_0 : decode cX6_token 0 = .ok (.aload_n 0, 1) := by decide +kernel
theorem dX6_token_1 : decode cX6_token 1 = .ok (.invokevirtual 84, 3) := by decide +kernel
theorem dX6_token_4 : decode cX6_token 4 = .ok (.bipush 10, 2) := by decide +kernel
theorem dX6_token_6 : decode cX6_token 6 = .ok (.if_icmp .eq 12, 3) := by decide +kernel
theorem dX6_token_9 : decode cX6_token 9 = .ok (.aload_n 0, 1) := by decide +kernel
theorem dX6_token_10 : decode cX6_token 10 = .ok (.invokevirtual 84, 3) := by decide +kernel
theorem dX6_token_13 : decode cX6_token 13 = .ok (.bipush 32, 2) := by decide +kernel
theorem dX6_token_15 : decode cX6_token 15 = .ok (.if_icmp .ne 16, 3) := by decide +kernel
theorem dX6_token_18 : decode cX6_token 18 = .ok (.aload_n 0, 1) := by decide +kernel
theorem dX6_token_19 : decode cX6_token 19 = .ok (.dup, 1) := by decide +kernel
theorem dX6_token_20 : decode cX6_token 20 = .ok (.getfield 78, 3) := by decide +kernel
theorem dX6_token_23 : decode cX6_token 23 = .ok (.iconst 1, 1) := by decide +kernel
theorem dX6_token_24 : decode cX6_token 24 = .ok (.iadd, 1) := by decide +kernel
theorem dX6_token_25 : decode cX6_token 25 = .ok (.putfield 78, 3) := by decide +kernel
theorem dX6_token_28 : decode cX6_token 28 = .ok (.goto (-28), 3) := by decide +kernel
theorem dX6_token_31 : decode cX6_token 31 = .ok (.aload_n 0, 1) := by decide +kernel
theorem dX6_token_32 : decode cX6_token 32 = .ok (.aload_n 0, 1) := by decide +kernel
theorem dX6_token_33 : decode cX6_token 33 = .ok (.getfield 78, 3) := by decide +kernel
theorem dX6_token_36 : decode cX6_token 36 = .ok (.putfield 88, 3) := by decide +kernel
theorem dX6_token_39 : decode cX6_token 39 = .ok (.aload_n 0, 1) := by decide +kernel
theorem dX6_token_40 : decode cX6_token 40 = .ok (.invokevirtual 84, 3) := by decide +kernel
theorem dX6_token_43 : decode cX6_token 43 = .ok (.istore_n 1, 1) := by decide +kernel
theorem dX6_token_44 : decode cX6_token 44 = .ok (.iload_n 1, 1) := by decide +kernel
theorem dX6_token_45 : decode cX6_token 45 = .ok (.iconst (-1), 1) := by decide +kernel
theorem dX6_token_46 : decode cX6_token 46 = .ok (.if_icmp .ne 11, 3) := by decide +kernel
theorem dX6_token_49 : decode cX6_token 49 = .ok (.aload_n 0, 1) := by decide +kernel
theorem dX6_token_50 : decode cX6_token 50 = .ok (.iconst 3, 1) := by decide +kernel
theorem dX6_token_51 : decode cX6_token 51 = .ok (.putfield 91, 3) := by decide +kernel
theorem dX6_token_54 : decode cX6_token 54 = .ok (.goto 150, 3) := by decide +kernel
theorem dX6_token_57 : decode cX6_token 57 = .ok (.iload_n 1, 1) := by decide +kernel
theorem dX6_token_58 : decode cX6_token 58 = .ok (.invokestatic 94, 3) := by decide +kernel
theorem dX6_token_61 : decode cX6_token 61 = .ok (.ifCond .eq 42, 3) := by decide +kernel
theorem dX6_token_64 : decode cX6_token 64 = .ok (.aload_n 0, 1) := by decide +kernel
theorem dX6_token_65 : decode cX6_token 65 = .ok (.invokevirtual 84, 3) := by decide +kernel
theorem dX6_token_68 : decode cX6_token 68 = .ok (.invokestatic 94, 3) := by decide +kernel
theorem dX6_token_71 : decode cX6_token 71 = .ok (.ifCond .eq 16, 3) := by decide +kernel
theorem dX6_token_74 : decode cX6_token 74 = .ok (.aload_n 0, 1) := by decide +kernel
theorem dX6_token_75 : decode cX6_token 75 = .ok (.dup, 1) := by decide +kernel
theorem dX6_token_76 : decode cX6_token 76 = .ok (.getfield 78, 3) := by decide +kernel
theorem dX6_token_79 : decode cX6_token 79 = .ok (.iconst 1, 1) := by decide +kernel
theorem dX6_token_80 : decode cX6_token 80 = .ok (.iadd, 1) := by decide +kernel
theorem dX6_token_81 : decode cX6_token 81 = .ok (.putfield 78, 3) := by decide +kernel
theorem dX6_token_84 : decode cX6_token 84 = .ok (.goto (-20), 3) := by decide +kernel
theorem dX6_token_87 : decode cX6_token 87 = .ok (.aload_n 0, 1) := by decide +kernel
theorem dX6_token_88 : decode cX6_token 88 = .ok (.iconst 0, 1) := by decide +kernel
theorem dX6_token_89 : decode cX6_token 89 = .ok (.putfield 91, 3) := by decide +kernel
theorem dX6_token_92 : decode cX6_token 92 = .ok (.aload_n 0, 1) := by decide +kernel
theorem dX6_token_93 : decode cX6_token 93 = .ok (.aload_n 0, 1) := by decide +kernel
theorem dX6_token_94 : decode cX6_token 94 = .ok (.invokevirtual 98, 3) := by decide +kernel
theorem dX6_token_97 : decode cX6_token 97 = .ok (.putfield 101, 3) := by decide +kernel
theorem dX6_token_100 : decode cX6_token 100 = .ok (.goto 104, 3) := by decide +kernel
theorem dX6_token_103 : decode cX6_token 103 = .ok (.iload_n 1, 1) := by decide +kernel
theorem dX6_token_104 : decode cX6_token 104 = .ok (.invokestatic 104, 3) := by decide +kernel
theorem dX6_token_107 : decode cX6_token 107 = .ok (.ifCond .eq 72, 3) := by decide +kernel
theorem dX6_token_110 : decode cX6_token 110 = .ok (.aload_n 0, 1) := by decide +kernel
theorem dX6_token_111 : decode cX6_token 111 = .ok (.iconst 1, 1) := by decide +kernel
theorem dX6_token_112 : decode cX6_token 112 = .ok (.putfield 91, 3) := by decide +kernel
theorem dX6_token_115 : decode cX6_token 115 = .ok (.aload_n 0, 1) := by decide +kernel
theorem dX6_token_116 : decode cX6_token 116 = .ok (.iconst 0, 1) := by decide +kernel
theorem dX6_token_117 : decode cX6_token 117 = .ok (.putfield 101, 3) := by decide +kernel
theorem dX6_token_120 : decode cX6_token 120 = .ok (.aload_n 0, 1) := by decide +kernel
theorem dX6_token_121 : decode cX6_token 121 = .ok (.invokevirtual 84, 3) := by decide +kernel
theorem dX6_token_124 : decode cX6_token 124 = .ok (.invokestatic 104, 3) := by decide +kernel
theorem dX6_token_127 : decode cX6_token 127 = .ok (.ifCond .eq 77, 3) := by decide +kernel
theorem dX6_token_130 : decode cX6_token 130 = .ok (.aload_n 0, 1) := by decide +kernel
theorem dX6_token_131 : decode cX6_token 131 = .ok (.aload_n 0, 1) := by decide +kernel
theorem dX6_token_132 : decode cX6_token 132 = .ok (.getfield 101, 3) := by decide +kernel
theorem dX6_token_135 : decode cX6_token 135 = .ok (.sipush 9999, 3) := by decide +kernel
theorem dX6_token_138 : decode cX6_token 138 = .ok (.if_icmp .le 10, 3) := by decide +kernel
theorem dX6_token_141 : decode cX6_token 141 = .ok (.aload_n 0, 1) := by decide +kernel
theorem dX6_token_142 : decode cX6_token 142 = .ok (.getfield 101, 3) := by decide +kernel
theorem dX6_token_145 : decode cX6_token 145 = .ok (.goto 18, 3) := by decide +kernel
theorem dX6_token_148 : decode cX6_token 148 = .ok (.bipush 10, 2) := by decide +kernel
theorem dX6_token_150 : decode cX6_token 150 = .ok (.aload_n 0, 1) := by decide +kernel
theorem dX6_token_151 : decode cX6_token 151 = .ok (.getfield 101, 3) := by decide +kernel
theorem dX6_token_154 : decode cX6_token 154 = .ok (.imul, 1) := by decide +kernel
theorem dX6_token_155 : decode cX6_token 155 = .ok (.aload_n 0, 1) := by decide +kernel
theorem dX6_token_156 : decode cX6_token 156 = .ok (.invokevirtual 84, 3) := by decide +kernel
theorem dX6_token_159 : decode cX6_token 159 = .ok (.iadd, 1) := by decide +kernel
theorem dX6_token_160 : decode cX6_token 160 = .ok (.bipush 48, 2) := by decide +kernel
theorem dX6_token_162 : decode cX6_token 162 = .ok (.isub, 1) := by decide +kernel
theorem dX6_token_163 : decode cX6_token 163 = .ok (.putfield 101, 3) := by decide +kernel
theorem dX6_token_166 : decode cX6_token 166 = .ok (.aload_n 0, 1) := by decide +kernel
theorem dX6_token_167 : decode cX6_token 167 = .ok (.dup, 1) := by decide +kernel
theorem dX6_token_168 : decode cX6_token 168 = .ok (.getfield 78, 3) := by decide +kernel
theorem dX6_token_171 : decode cX6_token 171 = .ok (.iconst 1, 1) := by decide +kernel
theorem dX6_token_172 : decode cX6_token 172 = .ok (.iadd, 1) := by decide +kernel
theorem dX6_token_173 : decode cX6_token 173 = .ok (.putfield 78, 3) := by decide +kernel
theorem dX6_token_176 : decode cX6_token 176 = .ok (.goto (-56), 3) := by decide +kernel
theorem dX6_token_179 : decode cX6_token 179 = .ok (.aload_n 0, 1) := by decide +kernel
theorem dX6_token_180 : decode cX6_token 180 = .ok (.iload_n 1, 1) := by decide +kernel
theorem dX6_token_181 : decode cX6_token 181 = .ok (.bipush 59, 2) := by decide +kernel
theorem dX6_token_183 : decode cX6_token 183 = .ok (.if_icmp .ne 7, 3) := by decide +kernel
theorem dX6_token_186 : decode cX6_token 186 = .ok (.iconst 2, 1) := by decide +kernel
theorem dX6_token_187 : decode cX6_token 187 = .ok (.goto 4, 3) := by decide +kernel
theorem dX6_token_190 : decode cX6_token 190 = .ok (.iconst 4, 1) := by decide +kernel
theorem dX6_token_191 : decode cX6_token 191 = .ok (.putfield 91, 3) := by decide +kernel
theorem dX6_token_194 : decode cX6_token 194 = .ok (.aload_n 0, 1) := by decide +kernel
theorem dX6_token_195 : decode cX6_token 195 = .ok (.dup, 1) := by decide +kernel
theorem dX6_token_196 : decode cX6_token 196 = .ok (.getfield 78, 3) := by decide +kernel
theorem dX6_token_199 : decode cX6_token 199 = .ok (.iconst 1, 1) := by decide +kernel
theorem dX6_token_200 : decode cX6_token 200 = .ok (.iadd, 1) := by decide +kernel
theorem dX6_token_201 : decode cX6_token 201 = .ok (.putfield 78, 3) := by decide +kernel
theorem dX6_token_204 : decode cX6_token 204 = .ok (.return_, 1) := by decide +kernel
set_option maxRecDepth 20000 in
theorem ggX6_wordHere_J0_length_8abf5 : GoodIn wsX6_wordHere wsJ0_length_8abf5 := goodIn_r _ [8, 9, 10, 11, 12, 7, 13, 14, 15] rfl (by decide +kernel)
set_option maxRecDepth 20000 in
theorem gX6_wordHere_J0_length_8abf5 : GoodIn wsX6_wordHere (wsV RX6 109 RJ0 yJ0_length_8abf5 wsJ0_length_8abf5) := goodIn_app (goodIn_r _ [4, 5, 6, 7] rfl (by decide +kernel)) ggX6_wordHere_J0_length_8abf5
set_option maxRecDepth 20000 in
theorem ggX6_wordHere_J0_charAt_5068e : GoodIn wsX6_wordHere wsJ0_charAt_5068e := goodIn_r _ [19, 9, 20, 21, 22, 7, 23, 14, 15, 24, 25, 26, 27, 28, 29, 30, 31, 32, 33, 34, 35, 36, 37, 38, 39, 40, 41, 42, 43, 44, 45, 46, 47, 48, 49, 50, 51, 52] rfl (by decide +kernel)
set_option maxRecDepth 20000 in
theorem gX6_wordHere_J0_charAt_5068e : GoodIn wsX6_wordHere (wsV RX6 114 RJ0 yJ0_charAt_5068e wsJ0_charAt_5068e) := goodIn_app (goodIn_r _ [16, 17, 18, 7] rfl (by decide +kernel)) ggX6_wordHere_J0_charAt_5068e
theorem dX6_wordHere_0 : decode cX6_wordHere 0 = .ok (.iconst 0, 1) := by decide +kernel
theorem dX6_wordHere_1 : decode cX6_wordHere 1 = .ok (.istore_n 1, 1) := by decide +kernel
theorem dX6_wordHere_2 : decode cX6_wordHere 2 = .ok (.iconst 0, 1) := by decide +kernel
theorem dX6_wordHere_3 : decode cX6_wordHere 3 = .ok (.istore_n 2, 1) := by decide +kernel
theorem dX6_wordHere_4 : decode cX6_wordHere 4 = .ok (.iload_n 2, 1) := by decide +kernel
theorem dX6_wordHere_5 : decode cX6_wordHere 5 = .ok (.ldc 107, 2) := by decide +kernel
theorem dX6_wordHere_7 : decode cX6_wordHere 7 = .ok (.invokevirtual 109, 3) := by decide +kernel
theorem dX6_wordHere_10 : decode cX6_wordHere 10 = .ok (.if_icmp .ge 113, 3) := by decide +kernel
theorem dX6_wordHere_13 : decode cX6_wordHere 13 = .ok (.iconst 0, 1) := by decide +kernel
theorem dX6_wordHere_14 : decode cX6_wordHere 14 = .ok (.istore_n 3, 1) := by decide +kernel
theorem dX6_wordHere_15 : decode cX6_wordHere 15 = .ok (.ldc 107, 2) := by decide +kernel
theorem dX6_wordHere_17 : decode cX6_wordHere 17 = .ok (.iload_n 2, 1) := by decide +kernel
theorem dX6_wordHere_18 : decode cX6_wordHere 18 = .ok (.iload_n 3, 1) := by decide +kernel
theorem dX6_wordHere_19 : decode cX6_wordHere 19 = .ok (.iadd, 1) := by decide +kernel
theorem dX6_wordHere_20 : decode cX6_wordHere 20 = .ok (.invokevirtual 114, 3) := by decide +kernel
theorem dX6_wordHere_23 : decode cX6_wordHere 23 = .ok (.bipush 32, 2) := by decide +kernel
theorem dX6_wordHere_25 : decode cX6_wordHere 25 = .ok (.if_icmp .eq 44, 3) := by decide +kernel
theorem dX6_wordHere_28 : decode cX6_wordHere 28 = .ok (.aload_n 0, 1) := by decide +kernel
theorem dX6_wordHere_29 : decode cX6_wordHere 29 = .ok (.getfield 88, 3) := by decide +kernel
theorem dX6_wordHere_32 : decode cX6_wordHere 32 = .ok (.iload_n 3, 1) := by decide +kernel
theorem dX6_wordHere_33 : decode cX6_wordHere 33 = .ok (.iadd, 1) := by decide +kernel
theorem dX6_wordHere_34 : decode cX6_wordHere 34 = .ok (.aload_n 0, 1) := by decide +kernel
theorem dX6_wordHere_35 : decode cX6_wordHere 35 = .ok (.getfield 78, 3) := by decide +kernel
theorem dX6_wordHere_38 : decode cX6_wordHere 38 = .ok (.if_icmp .ge 31, 3) := by decide +kernel
theorem dX6_wordHere_41 : decode cX6_wordHere 41 = .ok (.aload_n 0, 1) := by decide +kernel
theorem dX6_wordHere_42 : decode cX6_wordHere 42 = .ok (.getfield 7, 3) := by decide +kernel
theorem dX6_wordHere_45 : decode cX6_wordHere 45 = .ok (.aload_n 0, 1) := by decide +kernel
theorem dX6_wordHere_46 : decode cX6_wordHere 46 = .ok (.getfield 88, 3) := by decide +kernel
theorem dX6_wordHere_49 : decode cX6_wordHere 49 = .ok (.iload_n 3, 1) := by decide +kernel
theorem dX6_wordHere_50 : decode cX6_wordHere 50 = .ok (.iadd, 1) := by decide +kernel
theorem dX6_wordHere_51 : decode cX6_wordHere 51 = .ok (.iaload, 1) := by decide +kernel
theorem dX6_wordHere_52 : decode cX6_wordHere 52 = .ok (.ldc 107, 2) := by decide +kernel
theorem dX6_wordHere_54 : decode cX6_wordHere 54 = .ok (.iload_n 2, 1) := by decide +kernel
theorem dX6_wordHere_55 : decode cX6_wordHere 55 = .ok (.iload_n 3, 1) := by decide +kernel
theorem dX6_wordHere_56 : decode cX6_wordHere 56 = .ok (.iadd, 1) := by decide +kernel
theorem dX6_wordHere_57 : decode cX6_wordHere 57 = .ok (.invokevirtual 114, 3) := by decide +kernel
theorem dX6_wordHere_60 : decode cX6_wordHere 60 = .ok (.if_icmp .ne 9, 3) := by decide +kernel
theorem dX6_wordHere_63 : decode cX6_wordHere 63 = .ok (.iinc 3 1, 3) := by decide +kernel
theorem dX6_wordHere_66 : decode cX6_wordHere 66 = .ok (.goto (-51), 3) := by decide +kernel
theorem dX6_wordHere_69 : decode cX6_wordHere 69 = .ok (.ldc 107, 2) := by decide +kernel
theorem dX6_wordHere_71 : decode cX6_wordHere 71 = .ok (.iload_n 2, 1) := by decide +kernel
theorem dX6_wordHere_72 : decode cX6_wordHere 72 = .ok (.iload_n 3, 1) := by decide +kernel
theorem dX6_wordHere_73 : decode cX6_wordHere 73 = .ok (.iadd, 1) := by decide +kernel
theorem dX6_wordHere_74 : decode cX6_wordHere 74 = .ok (.invokevirtual 114, 3) := by decide +kernel
theorem dX6_wordHere_77 : decode cX6_wordHere 77 = .ok (.bipush 32, 2) := by decide +kernel
theorem dX6_wordHere_79 : decode cX6_wordHere 79 = .ok (.if_icmp .ne 18, 3) := by decide +kernel
theorem dX6_wordHere_82 : decode cX6_wordHere 82 = .ok (.aload_n 0, 1) := by decide +kernel
theorem dX6_wordHere_83 : decode cX6_wordHere 83 = .ok (.getfield 88, 3) := by decide +kernel
theorem dX6_wordHere_86 : decode cX6_wordHere 86 = .ok (.iload_n 3, 1) := by decide +kernel
theorem dX6_wordHere_87 : decode cX6_wordHere 87 = .ok (.iadd, 1) := by decide +kernel
theorem dX6_wordHere_88 : decode cX6_wordHere 88 = .ok (.aload_n 0, 1) := by decide +kernel
theorem dX6_wordHere_89 : decode cX6_wordHere 89 = .ok (.getfield 78, 3) := by decide +kernel
theorem dX6_wordHere_92 : decode cX6_wordHere 92 = .ok (.if_icmp .ne 5, 3) := by decide +kernel
theorem dX6_wordHere_95 : decode cX6_wordHere 95 = .ok (.iload_n 1, 1) := by decide +kernel
theorem dX6_wordHere_96 : decode cX6_wordHere 96 = .ok (.ireturn, 1) := by decide +kernel
theorem dX6_wordHere_97 : decode cX6_wordHere 97 = .ok (.ldc 107, 2) := by decide +kernel
theorem dX6_wordHere_99 : decode cX6_wordHere 99 = .ok (.iload_n 2, 1) := by decide +kernel
theorem dX6_wordHere_100 : decode cX6_wordHere 100 = .ok (.invokevirtual 114, 3) := by decide +kernel
theorem dX6_wordHere_103 : decode cX6_wordHere 103 = .ok (.bipush 32, 2) := by decide +kernel
theorem dX6_wordHere_105 : decode cX6_wordHere 105 = .ok (.if_icmp .eq 9, 3) := by decide +kernel
theorem dX6_wordHere_108 : decode cX6_wordHere 108 = .ok (.iinc 2 1, 3) := by decide +kernel
theorem dX6_wordHere_111 : decode cX6_wordHere 111 = .ok (.goto (-14), 3) := by decide +kernel
theorem dX6_wordHere_114 : decode cX6_wordHere 114 = .ok (.iinc 2 1, 3) := by decide +kernel
theorem dX6_wordHere_117 : decode cX6_wordHere 117 = .ok (.iinc 1 1, 3) := by decide +kernel
theorem dX6_wordHere_120 : decode cX6_wordHere 120 = .ok (.goto (-116), 3) := by decide +kernel
theorem dX6_wordHere_123 : decode cX6_wordHere 123 = .ok (.iconst (-1), 1) := by decide +kernel
theorem dX6_wordHere_124 : decode cX6_wordHere 124 = .ok (.ireturn, 1) := by decide +kernel
theorem dX6_wrong_0 : decode cX6_wrong 0 = .ok (.aload_n 0, 1) := by decide +kernel
theorem dX6_wrong_1 : decode cX6_wrong 1 = .ok (.getfield 118, 3) := by decide +kernel
theorem dX6_wrong_4 : decode cX6_wrong 4 = .ok (.ifCond .eq 4, 3) := by decide +kernel
theorem dX6_wrong_7 : decode cX6_wrong 7 = .ok (.return_, 1) := by decide +kernel
theorem dX6_wrong_8 : decode cX6_wrong 8 = .ok (.aload_n 0, 1) := by decide +kernel
theorem dX6_wrong_9 : decode cX6_wrong 9 = .ok (.iload_n 1, 1) := by decide +kernel
theorem dX6_wrong_10 : decode cX6_wrong 10 = .ok (.putfield 118, 3) := by decide +kernel
theorem dX6_wrong_13 : decode cX6_wrong 13 = .ok (.aload_n 0, 1) := by decide +kernel
theorem dX6_wrong_14 : decode cX6_wrong 14 = .ok (.aload_n 0, 1) := by decide +kernel
theorem dX6_wrong_15 : decode cX6_wrong 15 = .ok (.getfield 88, 3) := by decide +kernel
theorem dX6_wrong_18 : decode cX6_wrong 18 = .ok (.putfield 121, 3) := by decide +kernel
theorem dX6_wrong_21 : decode cX6_wrong 21 = .ok (.return_, 1) := by decide +kernel
set_option maxRecDepth 20000 in
theorem ggX6_goOn_X6_token : GoodIn wsX6_goOn wsX6_token := goodIn_r _ [6, 7, 8, 9, 10, 11, 12, 13, 5, 14, 15, 16, 17, 18, 19, 20, 21, 22, 23, 24, 25, 26, 27, 28, 29, 30, 31, 32, 33, 34, 35, 36, 37, 38, 39, 40, 41, 42, 43, 44, 45, 46, 47, 48, 49, 50, 51, 52, 53, 54, 55, 56, 57, 58, 59, 60, 61, 62, 63, 64, 65, 66, 67, 68, 69, 70, 71, 72, 73, 74, 75, 76, 77, 78, 79, 80, 81, 82, 83, 84, 85, 86, 87, 88, 89, 90, 91, 92, 93, 94, 95, 96, 97, 98, 99, 100, 101, 102, 103, 104, 105, 106, 107, 108, 109, 110, 111, 112, 113, 114, 115, 116, 117] rfl (by decide +kernel)
set_option maxRecDepth 20000 in
theorem gX6_goOn_X6_token : GoodIn wsX6_goOn (wsV RX6 124 RX6 yX6_token wsX6_token) := goodIn_app (goodIn_r _ [2, 3, 4, 5] rfl (by decide +kernel)) ggX6_goOn_X6_token
theorem dX6_goOn_0 : decode cX6_goOn 0 = .ok (.aload_n 0, 1) := by decide +kernel
theorem dX6_goOn_1 : decode cX6_goOn 1 = .ok (.getfield 118, 3) := by decide +kernel
theorem dX6_goOn_4 : decode cX6_goOn 4 = .ok (.ifCond .ne 7, 3) := by decide +kernel
theorem dX6_goOn_7 : decode cX6_goOn 7 = .ok (.aload_n 0, 1) := by decide +kernel
theorem dX6_goOn_8 : decode cX6_goOn 8 = .ok (.invokevirtual 124, 3) := by decide +kernel
theorem dX6_goOn_11 : decode cX6_goOn 11 = .ok (.return_, 1) := by decide +kernel
set_option maxRecDepth 20000 in
theorem ggX6_within_X6_wrong : GoodIn wsX6_within wsX6_wrong := goodIn_r _ [8, 1, 9, 10, 85, 86, 87, 88, 89, 90, 91, 92, 93, 94, 95, 96, 97, 98, 99, 100, 101, 102, 103, 104, 105, 106, 107, 108, 109, 110, 111, 112, 113, 114, 115, 116, 117, 118, 119, 120, 121, 122, 123, 124, 125, 126] rfl (by decide +kernel)
set_option maxRecDepth 20000 in
theorem gX6_within_X6_wrong : GoodIn wsX6_within (wsV RX6 127 RX6 yX6_wrong wsX6_wrong) := goodIn_app (goodIn_r _ [4, 5, 6, 7] rfl (by decide +kernel)) ggX6_within_X6_wrong
set_option maxRecDepth 20000 in
theorem ggX6_within_X6_goOn : GoodIn wsX6_within wsX6_goOn := goodIn_r _ [14, 1, 15, 16, 17, 7, 18, 19, 9, 2, 3, 20, 21, 22, 23, 24, 25, 26, 27, 28, 29, 30, 31, 32, 33, 34, 35, 36, 37, 38, 39, 40, 41, 42, 43, 44, 45, 46, 47, 48, 49, 50, 51, 52, 53, 54, 55, 56, 57, 58, 59, 60, 61, 62, 63, 64, 65, 66, 67, 68, 69, 70, 71, 72, 73, 74, 75, 76, 77, 78, 79, 80, 81, 82, 83, 84, 85, 86, 87, 88, 89, 90, 91, 92, 93, 94, 95, 96, 97, 98, 99, 100, 101, 102, 103, 104, 105, 106, 107, 108, 109, 110, 111, 112, 113, 114, 115, 116, 117, 118, 119, 120, 121, 122, 123, 124, 125, 126] rfl (by decide +kernel)
set_option maxRecDepth 20000 in
theorem gX6_within_X6_goOn : GoodIn wsX6_within (wsV RX6 131 RX6 yX6_goOn wsX6_goOn) := goodIn_app (goodIn_r _ [11, 12, 13, 7] rfl (by decide +kernel)) ggX6_within_X6_goOn
theorem dX6_within_0 : decode cX6_within 0 = .ok (.aload_n 0, 1) := by decide +kernel
theorem dX6_within_1 : decode cX6_within 1 = .ok (.getfield 118, 3) := by decide +kernel
theorem dX6_within_4 : decode cX6_within 4 = .ok (.ifCond .ne 16, 3) := by decide +kernel
theorem dX6_within_7 : decode cX6_within 7 = .ok (.aload_n 0, 1) := by decide +kernel
theorem dX6_within_8 : decode cX6_within 8 = .ok (.getfield 91, 3) := by decide +kernel
theorem dX6_within_11 : decode cX6_within 11 = .ok (.iconst 1, 1) := by decide +kernel
theorem dX6_within_12 : decode cX6_within 12 = .ok (.if_icmp .eq 8, 3) := by decide +kernel
theorem dX6_within_15 : decode cX6_within 15 = .ok (.aload_n 0, 1) := by decide +kernel
theorem dX6_within_16 : decode cX6_within 16 = .ok (.iconst 1, 1) := by decide +kernel
theorem dX6_within_17 : decode cX6_within 17 = .ok (.invokevirtual 127, 3) := by decide +kernel
theorem dX6_within_20 : decode cX6_within 20 = .ok (.aload_n 0, 1) := by decide +kernel
theorem dX6_within_21 : decode cX6_within 21 = .ok (.getfield 118, 3) := by decide +kernel
theorem dX6_within_24 : decode cX6_within 24 = .ok (.ifCond .ne 24, 3) := by decide +kernel
theorem dX6_within_27 : decode cX6_within 27 = .ok (.aload_n 0, 1) := by decide +kernel
theorem dX6_within_28 : decode cX6_within 28 = .ok (.getfield 101, 3) := by decide +kernel
theorem dX6_within_31 : decode cX6_within 31 = .ok (.iload_n 1, 1) := by decide +kernel
theorem dX6_within_32 : decode cX6_within 32 = .ok (.if_icmp .lt 11, 3) := by decide +kernel
theorem dX6_within_35 : decode cX6_within 35 = .ok (.aload_n 0, 1) := by decide +kernel
theorem dX6_within_36 : decode cX6_within 36 = .ok (.getfield 101, 3) := by decide +kernel
theorem dX6_within_39 : decode cX6_within 39 = .ok (.iload_n 2, 1) := by decide +kernel
theorem dX6_within_40 : decode cX6_within 40 = .ok (.if_icmp .le 8, 3) := by decide +kernel
theorem dX6_within_43 : decode cX6_within 43 = .ok (.aload_n 0, 1) := by decide +kernel
theorem dX6_within_44 : decode cX6_within 44 = .ok (.iconst 2, 1) := by decide +kernel
theorem dX6_within_45 : decode cX6_within 45 = .ok (.invokevirtual 127, 3) := by decide +kernel
theorem dX6_within_48 : decode cX6_within 48 = .ok (.aload_n 0, 1) := by decide +kernel
theorem dX6_within_49 : decode cX6_within 49 = .ok (.getfield 118, 3) := by decide +kernel
theorem dX6_within_52 : decode cX6_within 52 = .ok (.ifCond .ne 10, 3) := by decide +kernel
theorem dX6_within_55 : decode cX6_within 55 = .ok (.aload_n 0, 1) := by decide +kernel
theorem dX6_within_56 : decode cX6_within 56 = .ok (.getfield 101, 3) := by decide +kernel
theorem dX6_within_59 : decode cX6_within 59 = .ok (.goto 4, 3) := by decide +kernel
theorem dX6_within_62 : decode cX6_within 62 = .ok (.iload_n 1, 1) := by decide +kernel
theorem dX6_within_63 : decode cX6_within 63 = .ok (.istore_n 3, 1) := by decide +kernel
theorem dX6_within_64 : decode cX6_within 64 = .ok (.aload_n 0, 1) := by decide +kernel
theorem dX6_within_65 : decode cX6_within 65 = .ok (.invokevirtual 131, 3) := by decide +kernel
theorem dX6_within_68 : decode cX6_within 68 = .ok (.iload_n 3, 1) := by decide +kernel
theorem dX6_within_69 : decode cX6_within 69 = .ok (.ireturn, 1) := by decide +kernel
set_option maxRecDepth 20000 in
theorem ggX6_readRow_X6_goOn : GoodIn wsX6_readRow wsX6_goOn := goodIn_r _ [10, 1, 11, 12, 13, 9, 14, 15, 16, 2, 17, 18, 19, 20, 21, 22, 23, 24, 25, 26, 27, 28, 29, 30, 31, 32, 33, 34, 35, 36, 37, 38, 39, 40, 41, 42, 43, 44, 45, 46, 47, 48, 49, 50, 51, 52, 53, 54, 55, 56, 57, 58, 59, 60, 61, 62, 63, 64, 65, 66, 67, 68, 69, 70, 71, 72, 73, 74, 75, 76, 77, 78, 79, 80, 81, 82, 92, 93, 94, 95, 96, 97, 98, 99, 100, 101, 102, 103, 104, 105, 106, 107, 108, 109, 110, 111, 112, 113, 114, 115, 116, 117, 118, 119, 120, 121, 122, 123, 124, 125, 126, 127, 128, 129, 130, 131, 132, 133] rfl (by decide +kernel)
set_option maxRecDepth 20000 in
theorem gX6_readRow_X6_goOn : GoodIn wsX6_readRow (wsV RX6 131 RX6 yX6_goOn wsX6_goOn) := goodIn_app (goodIn_r _ [6, 7, 8, 9] rfl (by decide +kernel)) ggX6_readRow_X6_goOn
set_option maxRecDepth 20000 in
theorem ggX6_readRow_X6_wrong : GoodIn wsX6_readRow wsX6_wrong := goodIn_r _ [86, 1, 16, 87, 92, 93, 94, 95, 96, 97, 98, 99, 100, 101, 102, 103, 104, 105, 106, 107, 108, 109, 110, 111, 112, 113, 114, 115, 116, 117, 118, 119, 120, 121, 122, 123, 124, 125, 126, 127, 128, 129, 130, 131, 132, 133] rfl (by decide +kernel)
set_option maxRecDepth 20000 in
theorem gX6_readRow_X6_wrong : GoodIn wsX6_readRow (wsV RX6 127 RX6 yX6_wrong wsX6_wrong) := goodIn_app (goodIn_r _ [83, 84, 85, 9] rfl (by decide +kernel)) ggX6_readRow_X6_wrong
set_option maxRecDepth 20000 in
theorem ggX6_readRow_X6_within : GoodIn wsX6_readRow wsX6_within := goodIn_r _ [91, 1, 2, 17, 83, 84, 85, 9, 86, 16, 87, 6, 7, 8, 10, 11, 12, 13, 14, 15, 18, 19, 20, 21, 22, 23, 24, 25, 26, 27, 28, 29, 30, 31, 32, 33, 34, 35, 36, 37, 38, 39, 40, 41, 42, 43, 44, 45, 46, 47, 48, 49, 50, 51, 52, 53, 54, 55, 56, 57, 58, 59, 60, 61, 62, 63, 64, 65, 66, 67, 68, 69, 70, 71, 72, 73, 74, 75, 76, 77, 78, 79, 80, 81, 82, 92, 93, 94, 95, 96, 97, 98, 99, 100, 101, 102, 103, 104, 105, 106, 107, 108, 109, 110, 111, 112, 113, 114, 115, 116, 117, 118, 119, 120, 121, 122, 123, 124, 125, 126, 127, 128, 129, 130, 131, 132, 133] rfl (by decide +kernel)
set_option maxRecDepth 20000 in
theorem gX6_readRow_X6_within : GoodIn wsX6_readRow (wsV RX6 137 RX6 yX6_within wsX6_within) := goodIn_app (goodIn_r _ [88, 89, 90, 9] rfl (by decide +kernel)) ggX6_readRow_X6_within
theorem dX6_readRow_0 : decode cX6_readRow 0 = .ok (.aload_n 0, 1) := by decide +kernel
theorem dX6_readRow_1 : decode cX6_readRow 1 = .ok (.invokevirtual 131, 3) := by decide +kernel
theorem dX6_readRow_4 : decode cX6_readRow 4 = .ok (.aload_n 0, 1) := by decide +kernel
theorem dX6_readRow_5 : decode cX6_readRow 5 = .ok (.getfield 118, 3) := by decide +kernel
theorem dX6_readRow_8 : decode cX6_readRow 8 = .ok (.ifCond .ne 16, 3) := by decide +kernel
theorem dX6_readRow_11 : decode cX6_readRow 11 = .ok (.aload_n 0, 1) := by decide +kernel
theorem dX6_readRow_12 : decode cX6_readRow 12 = .ok (.getfield 91, 3) := by decide +kernel
theorem dX6_readRow_15 : decode cX6_readRow 15 = .ok (.iconst 1, 1) := by decide +kernel
theorem dX6_readRow_16 : decode cX6_readRow 16 = .ok (.if_icmp .eq 8, 3) := by decide +kernel
theorem dX6_readRow_19 : decode cX6_readRow 19 = .ok (.aload_n 0, 1) := by decide +kernel
theorem dX6_readRow_20 : decode cX6_readRow 20 = .ok (.iconst 1, 1) := by decide +kernel
theorem dX6_readRow_21 : decode cX6_readRow 21 = .ok (.invokevirtual 127, 3) := by decide +kernel
theorem dX6_readRow_24 : decode cX6_readRow 24 = .ok (.aload_n 0, 1) := by decide +kernel
theorem dX6_readRow_25 : decode cX6_readRow 25 = .ok (.getfield 118, 3) := by decide +kernel
theorem dX6_readRow_28 : decode cX6_readRow 28 = .ok (.ifCond .ne 75, 3) := by decide +kernel
theorem dX6_readRow_31 : decode cX6_readRow 31 = .ok (.aload_n 0, 1) := by decide +kernel
theorem dX6_readRow_32 : decode cX6_readRow 32 = .ok (.getfield 91, 3) := by decide +kernel
theorem dX6_readRow_35 : decode cX6_readRow 35 = .ok (.iconst 1, 1) := by decide +kernel
theorem dX6_readRow_36 : decode cX6_readRow 36 = .ok (.if_icmp .ne 67, 3) := by decide +kernel
theorem dX6_readRow_39 : decode cX6_readRow 39 = .ok (.aload_n 0, 1) := by decide +kernel
theorem dX6_readRow_40 : decode cX6_readRow 40 = .ok (.getfield 134, 3) := by decide +kernel
theorem dX6_readRow_43 : decode cX6_readRow 43 = .ok (.bipush 120, 2) := by decide +kernel
theorem dX6_readRow_45 : decode cX6_readRow 45 = .ok (.if_icmp .ne 8, 3) := by decide +kernel
theorem dX6_readRow_48 : decode cX6_readRow 48 = .ok (.aload_n 0, 1) := by decide +kernel
theorem dX6_readRow_49 : decode cX6_readRow 49 = .ok (.iconst 2, 1) := by decide +kernel
theorem dX6_readRow_50 : decode cX6_readRow 50 = .ok (.invokevirtual 127, 3) := by decide +kernel
theorem dX6_readRow_53 : decode cX6_readRow 53 = .ok (.aload_n 0, 1) := by decide +kernel
theorem dX6_readRow_54 : decode cX6_readRow 54 = .ok (.iconst 0, 1) := by decide +kernel
theorem dX6_readRow_55 : decode cX6_readRow 55 = .ok (.sipush 999, 3) := by decide +kernel
theorem dX6_readRow_58 : decode cX6_readRow 58 = .ok (.invokevirtual 137, 3) := by decide +kernel
theorem dX6_readRow_61 : decode cX6_readRow 61 = .ok (.istore_n 1, 1) := by decide +kernel
theorem dX6_readRow_62 : decode cX6_readRow 62 = .ok (.aload_n 0, 1) := by decide +kernel
theorem dX6_readRow_63 : decode cX6_readRow 63 = .ok (.getfield 118, 3) := by decide +kernel
theorem dX6_readRow_66 : decode cX6_readRow 66 = .ok (.ifCond .eq 4, 3) := by decide +kernel
theorem dX6_readRow_69 : decode cX6_readRow 69 = .ok (.return_, 1) := by decide +kernel
theorem dX6_readRow_70 : decode cX6_readRow 70 = .ok (.aload_n 0, 1) := by decide +kernel
theorem dX6_readRow_71 : decode cX6_readRow 71 = .ok (.getfield 32, 3) := by decide +kernel
theorem dX6_readRow_74 : decode cX6_readRow 74 = .ok (.aload_n 0, 1) := by decide +kernel
theorem dX6_readRow_75 : decode cX6_readRow 75 = .ok (.getfield 134, 3) := by decide +kernel
theorem dX6_readRow_78 : decode cX6_readRow 78 = .ok (.iload_n 1, 1) := by decide +kernel
theorem dX6_readRow_79 : decode cX6_readRow 79 = .ok (.iastore, 1) := by decide +kernel
theorem dX6_readRow_80 : decode cX6_readRow 80 = .ok (.aload_n 0, 1) := by decide +kernel
theorem dX6_readRow_81 : decode cX6_readRow 81 = .ok (.getfield 35, 3) := by decide +kernel
theorem dX6_readRow_84 : decode cX6_readRow 84 = .ok (.aload_n 0, 1) := by decide +kernel
theorem dX6_readRow_85 : decode cX6_readRow 85 = .ok (.getfield 134, 3) := by decide +kernel
theorem dX6_readRow_88 : decode cX6_readRow 88 = .ok (.iconst 1, 1) := by decide +kernel
theorem dX6_readRow_89 : decode cX6_readRow 89 = .ok (.iastore, 1) := by decide +kernel
theorem dX6_readRow_90 : decode cX6_readRow 90 = .ok (.aload_n 0, 1) := by decide +kernel
theorem dX6_readRow_91 : decode cX6_readRow 91 = .ok (.dup, 1) := by decide +kernel
theorem dX6_readRow_92 : decode cX6_readRow 92 = .ok (.getfield 134, 3) := by decide +kernel
theorem dX6_readRow_95 : decode cX6_readRow 95 = .ok (.iconst 1, 1) := by decide +kernel
theorem dX6_readRow_96 : decode cX6_readRow 96 = .ok (.iadd, 1) := by decide +kernel
theorem dX6_readRow_97 : decode cX6_readRow 97 = .ok (.putfield 134, 3) := by decide +kernel
theorem dX6_readRow_100 : decode cX6_readRow 100 = .ok (.goto (-76), 3) := by decide +kernel
theorem dX6_readRow_103 : decode cX6_readRow 103 = .ok (.return_, 1) := by decide +kernel
set_option maxRecDepth 20000 in
theorem ggX6_readWeight_X6_goOn : GoodIn wsX6_readWeight wsX6_goOn := goodIn_r _ [10, 1, 11, 12, 13, 9, 14, 15, 16, 2, 3, 17, 18, 19, 20, 21, 22, 23, 24, 25, 26, 27, 28, 29, 30, 31, 32, 33, 34, 35, 36, 37, 38, 39, 40, 41, 42, 43, 44, 45, 46, 47, 48, 49, 50, 51, 52, 53, 54, 55, 56, 57, 58, 59, 60, 61, 62, 63, 64, 65, 66, 67, 68, 69, 70, 71, 72, 73, 74, 75, 76, 77, 78, 79, 80, 81, 91, 92, 93, 94, 95, 96, 97, 98, 99, 100, 101, 102, 103, 104, 105, 106, 107, 108, 109, 110, 111, 112, 113, 114, 115, 116, 117, 118, 119, 120, 121, 122, 123, 124, 125, 126, 127, 128, 129, 130, 131, 132] rfl (by decide +kernel)
set_option maxRecDepth 20000 in
theorem gX6_readWeight_X6_goOn : GoodIn wsX6_readWeight (wsV RX6 131 RX6 yX6_goOn wsX6_goOn) := goodIn_app (goodIn_r _ [6, 7, 8, 9] rfl (by decide +kernel)) ggX6_readWeight_X6_goOn
set_option maxRecDepth 20000 in
theorem ggX6_readWeight_X6_wrong : GoodIn wsX6_readWeight wsX6_wrong := goodIn_r _ [85, 1, 16, 86, 91, 92, 93, 94, 95, 96, 97, 98, 99, 100, 101, 102, 103, 104, 105, 106, 107, 108, 109, 110, 111, 112, 113, 114, 115, 116, 117, 118, 119, 120, 121, 122, 123, 124, 125, 126, 127, 128, 129, 130, 131, 132] rfl (by decide +kernel)
set_option maxRecDepth 20000 in
theorem gX6_readWeight_X6_wrong : GoodIn wsX6_readWeight (wsV RX6 127 RX6 yX6_wrong wsX6_wrong) := goodIn_app (goodIn_r _ [82, 83, 84, 9] rfl (by decide +kernel)) ggX6_readWeight_X6_wrong
set_option maxRecDepth 20000 in
theorem ggX6_readWeight_X6_within : GoodIn wsX6_readWeight wsX6_within := goodIn_r _ [90, 1, 2, 3, 82, 83, 84, 9, 85, 16, 86, 6, 7, 8, 10, 11, 12, 13, 14, 15, 17, 18, 19, 20, 21, 22, 23, 24, 25, 26, 27, 28, 29, 30, 31, 32, 33, 34, 35, 36, 37, 38, 39, 40, 41, 42, 43, 44, 45, 46, 47, 48, 49, 50, 51, 52, 53, 54, 55, 56, 57, 58, 59, 60, 61, 62, 63, 64, 65, 66, 67, 68, 69, 70, 71, 72, 73, 74, 75, 76, 77, 78, 79, 80, 81, 91, 92, 93, 94, 95, 96, 97, 98, 99, 100, 101, 102, 103, 104, 105, 106, 107, 108, 109, 110, 111, 112, 113, 114, 115, 116, 117, 118, 119, 120, 121, 122, 123, 124, 125, 126, 127, 128, 129, 130, 131, 132] rfl (by decide +kernel)
set_option maxRecDepth 20000 in
theorem gX6_readWeight_X6_within : GoodIn wsX6_readWeight (wsV RX6 137 RX6 yX6_within wsX6_within) := goodIn_app (goodIn_r _ [87, 88, 89, 9] rfl (by decide +kernel)) ggX6_readWeight_X6_within
theorem dX6_readWeight_0 : decode cX6_readWeight 0 = .ok (.aload_n 0, 1) := by decide +kernel
theorem dX6_readWeight_1 : decode cX6_readWeight 1 = .ok (.invokevirtual 131, 3) := by decide +kernel
theorem dX6_readWeight_4 : decode cX6_readWeight 4 = .ok (.aload_n 0, 1) := by decide +kernel
theorem dX6_readWeight_5 : decode cX6_readWeight 5 = .ok (.getfield 118, 3) := by decide +kernel
theorem dX6_readWeight_8 : decode cX6_readWeight 8 = .ok (.ifCond .ne 27, 3) := by decide +kernel
theorem dX6_readWeight_11 : decode cX6_readWeight 11 = .ok (.aload_n 0, 1) := by decide +kernel
theorem dX6_readWeight_12 : decode cX6_readWeight 12 = .ok (.getfield 91, 3) := by decide +kernel
theorem dX6_readWeight_15 : decode cX6_readWeight 15 = .ok (.iconst 1, 1) := by decide +kernel
theorem dX6_readWeight_16 : decode cX6_readWeight 16 = .ok (.if_icmp .ne 14, 3) := by decide +kernel
theorem dX6_readWeight_19 : decode cX6_readWeight 19 = .ok (.aload_n 0, 1) := by decide +kernel
theorem dX6_readWeight_20 : decode cX6_readWeight 20 = .ok (.getfield 101, 3) := by decide +kernel
theorem dX6_readWeight_23 : decode cX6_readWeight 23 = .ok (.aload_n 0, 1) := by decide +kernel
theorem dX6_readWeight_24 : decode cX6_readWeight 24 = .ok (.getfield 134, 3) := by decide +kernel
theorem dX6_readWeight_27 : decode cX6_readWeight 27 = .ok (.if_icmp .lt 8, 3) := by decide +kernel
theorem dX6_readWeight_30 : decode cX6_readWeight 30 = .ok (.aload_n 0, 1) := by decide +kernel
theorem dX6_readWeight_31 : decode cX6_readWeight 31 = .ok (.iconst 1, 1) := by decide +kernel
theorem dX6_readWeight_32 : decode cX6_readWeight 32 = .ok (.invokevirtual 127, 3) := by decide +kernel
theorem dX6_readWeight_35 : decode cX6_readWeight 35 = .ok (.aload_n 0, 1) := by decide +kernel
theorem dX6_readWeight_36 : decode cX6_readWeight 36 = .ok (.getfield 101, 3) := by decide +kernel
theorem dX6_readWeight_39 : decode cX6_readWeight 39 = .ok (.istore_n 1, 1) := by decide +kernel
theorem dX6_readWeight_40 : decode cX6_readWeight 40 = .ok (.aload_n 0, 1) := by decide +kernel
theorem dX6_readWeight_41 : decode cX6_readWeight 41 = .ok (.invokevirtual 131, 3) := by decide +kernel
theorem dX6_readWeight_44 : decode cX6_readWeight 44 = .ok (.aload_n 0, 1) := by decide +kernel
theorem dX6_readWeight_45 : decode cX6_readWeight 45 = .ok (.iconst 1, 1) := by decide +kernel
theorem dX6_readWeight_46 : decode cX6_readWeight 46 = .ok (.bipush 9, 2) := by decide +kernel
theorem dX6_readWeight_48 : decode cX6_readWeight 48 = .ok (.invokevirtual 137, 3) := by decide +kernel
theorem dX6_readWeight_51 : decode cX6_readWeight 51 = .ok (.istore_n 2, 1) := by decide +kernel
theorem dX6_readWeight_52 : decode cX6_readWeight 52 = .ok (.aload_n 0, 1) := by decide +kernel
theorem dX6_readWeight_53 : decode cX6_readWeight 53 = .ok (.getfield 118, 3) := by decide +kernel
theorem dX6_readWeight_56 : decode cX6_readWeight 56 = .ok (.ifCond .ne 10, 3) := by decide +kernel
theorem dX6_readWeight_59 : decode cX6_readWeight 59 = .ok (.aload_n 0, 1) := by decide +kernel
theorem dX6_readWeight_60 : decode cX6_readWeight 60 = .ok (.getfield 35, 3) := by decide +kernel
theorem dX6_readWeight_63 : decode cX6_readWeight 63 = .ok (.iload_n 1, 1) := by decide +kernel
theorem dX6_readWeight_64 : decode cX6_readWeight 64 = .ok (.iload_n 2, 1) := by decide +kernel
theorem dX6_readWeight_65 : decode cX6_readWeight 65 = .ok (.iastore, 1) := by decide +kernel
theorem dX6_readWeight_66 : decode cX6_readWeight 66 = .ok (.return_, 1) := by decide +kernel
set_option maxRecDepth 20000 in
theorem ggX6_readBlock_X6_wrong : GoodIn wsX6_readBlock wsX6_wrong := goodIn_r _ [7, 8, 9, 10, 91, 92, 93, 94, 95, 96, 97, 98, 99, 100, 101, 102, 103, 104, 105, 106, 107, 108, 109, 110, 111, 112, 113, 114, 115, 116, 117, 118, 119, 120, 121, 122, 123, 124, 125, 126, 127, 128, 129, 130, 131, 132] rfl (by decide +kernel)
set_option maxRecDepth 20000 in
theorem gX6_readBlock_X6_wrong : GoodIn wsX6_readBlock (wsV RX6 127 RX6 yX6_wrong wsX6_wrong) := goodIn_app (goodIn_r _ [3, 4, 5, 6] rfl (by decide +kernel)) ggX6_readBlock_X6_wrong
set_option maxRecDepth 20000 in
theorem ggX6_readBlock_X6_goOn : GoodIn wsX6_readBlock wsX6_goOn := goodIn_r _ [14, 8, 15, 16, 17, 6, 18, 19, 9, 20, 21, 22, 23, 24, 25, 26, 27, 28, 29, 30, 31, 32, 33, 34, 35, 36, 37, 38, 39, 40, 41, 42, 43, 44, 45, 46, 47, 48, 49, 50, 51, 52, 53, 54, 55, 56, 57, 58, 59, 60, 61, 62, 63, 64, 65, 66, 67, 68, 69, 70, 71, 72, 73, 74, 75, 76, 77, 78, 79, 80, 81, 82, 83, 84, 85, 86, 91, 92, 93, 94, 95, 96, 97, 98, 99, 100, 101, 102, 103, 104, 105, 106, 107, 108, 109, 110, 111, 112, 113, 114, 115, 116, 117, 118, 119, 120, 121, 122, 123, 124, 125, 126, 127, 128, 129, 130, 131, 132] rfl (by decide +kernel)
set_option maxRecDepth 20000 in
theorem gX6_readBlock_X6_goOn : GoodIn wsX6_readBlock (wsV RX6 131 RX6 yX6_goOn wsX6_goOn) := goodIn_app (goodIn_r _ [11, 12, 13, 6] rfl (by decide +kernel)) ggX6_readBlock_X6_goOn
set_option maxRecDepth 20000 in
theorem ggX6_readBlock_X6_within : GoodIn wsX6_readBlock wsX6_within := goodIn_r _ [90, 8, 20, 21, 3, 4, 5, 6, 7, 9, 10, 11, 12, 13, 14, 15, 16, 17, 18, 19, 22, 23, 24, 25, 26, 27, 28, 29, 30, 31, 32, 33, 34, 35, 36, 37, 38, 39, 40, 41, 42, 43, 44, 45, 46, 47, 48, 49, 50, 51, 52, 53, 54, 55, 56, 57, 58, 59, 60, 61, 62, 63, 64, 65, 66, 67, 68, 69, 70, 71, 72, 73, 74, 75, 76, 77, 78, 79, 80, 81, 82, 83, 84, 85, 86, 91, 92, 93, 94, 95, 96, 97, 98, 99, 100, 101, 102, 103, 104, 105, 106, 107, 108, 109, 110, 111, 112, 113, 114, 115, 116, 117, 118, 119, 120, 121, 122, 123, 124, 125, 126, 127, 128, 129, 130, 131, 132] rfl (by decide +kernel)
set_option maxRecDepth 20000 in
theorem gX6_readBlock_X6_within : GoodIn wsX6_readBlock (wsV RX6 137 RX6 yX6_within wsX6_within) := goodIn_app (goodIn_r _ [87, 88, 89, 6] rfl (by decide +kernel)) ggX6_readBlock_X6_within
theorem dX6_readBlock_0 : decode cX6_readBlock 0 = .ok (.aload_n 0, 1) := by decide +kernel
theorem dX6_readBlock_1 : decode cX6_readBlock 1 = .ok (.getfield 141, 3) := by decide +kernel
theorem dX6_readBlock_4 : decode cX6_readBlock 4 = .ok (.ifCond .eq 8, 3) := by decide +kernel
theorem dX6_readBlock_7 : decode cX6_readBlock 7 = .ok (.aload_n 0, 1) := by decide +kernel
theorem dX6_readBlock_8 : decode cX6_readBlock 8 = .ok (.iconst 3, 1) := by decide +kernel
theorem dX6_readBlock_9 : decode cX6_readBlock 9 = .ok (.invokevirtual 127, 3) := by decide +kernel
theorem dX6_readBlock_12 : decode cX6_readBlock 12 = .ok (.aload_n 0, 1) := by decide +kernel
theorem dX6_readBlock_13 : decode cX6_readBlock 13 = .ok (.iconst 1, 1) := by decide +kernel
theorem dX6_readBlock_14 : decode cX6_readBlock 14 = .ok (.putfield 141, 3) := by decide +kernel
theorem dX6_readBlock_17 : decode cX6_readBlock 17 = .ok (.aload_n 0, 1) := by decide +kernel
theorem dX6_readBlock_18 : decode cX6_readBlock 18 = .ok (.invokevirtual 131, 3) := by decide +kernel
theorem dX6_readBlock_21 : decode cX6_readBlock 21 = .ok (.aload_n 0, 1) := by decide +kernel
theorem dX6_readBlock_22 : decode cX6_readBlock 22 = .ok (.aload_n 0, 1) := by decide +kernel
theorem dX6_readBlock_23 : decode cX6_readBlock 23 = .ok (.iconst 2, 1) := by decide +kernel
theorem dX6_readBlock_24 : decode cX6_readBlock 24 = .ok (.bipush 20, 2) := by decide +kernel
theorem dX6_readBlock_26 : decode cX6_readBlock 26 = .ok (.invokevirtual 137, 3) := by decide +kernel
theorem dX6_readBlock_29 : decode cX6_readBlock 29 = .ok (.putfield 145, 3) := by decide +kernel
theorem dX6_readBlock_32 : decode cX6_readBlock 32 = .ok (.return_, 1) := by decide +kernel
set_option maxRecDepth 20000 in
theorem ggX6_readTies_X6_wrong : GoodIn wsX6_readTies wsX6_wrong := goodIn_r _ [10, 2, 11, 12, 87, 88, 89, 90, 91, 92, 93, 94, 95, 96, 97, 98, 99, 100, 101, 102, 103, 104, 105, 106, 107, 108, 109, 110, 111, 112, 113, 114, 115, 116, 117, 118, 119, 120, 121, 122, 123, 124, 125, 126, 127, 128] rfl (by decide +kernel)
set_option maxRecDepth 20000 in
theorem gX6_readTies_X6_wrong : GoodIn wsX6_readTies (wsV RX6 127 RX6 yX6_wrong wsX6_wrong) := goodIn_app (goodIn_r _ [6, 7, 8, 9] rfl (by decide +kernel)) ggX6_readTies_X6_wrong
set_option maxRecDepth 20000 in
theorem ggX6_readTies_X6_goOn : GoodIn wsX6_readTies wsX6_goOn := goodIn_r _ [16, 2, 17, 18, 19, 9, 20, 21, 11, 3, 4, 22, 23, 24, 25, 26, 27, 28, 29, 30, 31, 32, 33, 34, 35, 36, 37, 38, 39, 40, 41, 42, 43, 44, 45, 46, 47, 48, 49, 50, 51, 52, 53, 54, 55, 56, 57, 58, 59, 60, 61, 62, 63, 64, 65, 66, 67, 68, 69, 70, 71, 72, 73, 74, 75, 76, 77, 78, 79, 80, 81, 82, 83, 84, 85, 86, 87, 88, 89, 90, 91, 92, 93, 94, 95, 96, 97, 98, 99, 100, 101, 102, 103, 104, 105, 106, 107, 108, 109, 110, 111, 112, 113, 114, 115, 116, 117, 118, 119, 120, 121, 122, 123, 124, 125, 126, 127, 128] rfl (by decide +kernel)
set_option maxRecDepth 20000 in
theorem gX6_readTies_X6_goOn : GoodIn wsX6_readTies (wsV RX6 131 RX6 yX6_goOn wsX6_goOn) := goodIn_app (goodIn_r _ [13, 14, 15, 9] rfl (by decide +kernel)) ggX6_readTies_X6_goOn
theorem dX6_readTies_0 : decode cX6_readTies 0 = .ok (.aload_n 0, 1) := by decide +kernel
theorem dX6_readTies_1 : decode cX6_readTies 1 = .ok (.getfield 148, 3) := by decide +kernel
theorem dX6_readTies_4 : decode cX6_readTies 4 = .ok (.ifCond .eq 8, 3) := by decide +kernel
theorem dX6_readTies_7 : decode cX6_readTies 7 = .ok (.aload_n 0, 1) := by decide +kernel
theorem dX6_readTies_8 : decode cX6_readTies 8 = .ok (.iconst 3, 1) := by decide +kernel
theorem dX6_readTies_9 : decode cX6_readTies 9 = .ok (.invokevirtual 127, 3) := by decide +kernel
theorem dX6_readTies_12 : decode cX6_readTies 12 = .ok (.aload_n 0, 1) := by decide +kernel
theorem dX6_readTies_13 : decode cX6_readTies 13 = .ok (.iconst 1, 1) := by decide +kernel
theorem dX6_readTies_14 : decode cX6_readTies 14 = .ok (.putfield 148, 3) := by decide +kernel
theorem dX6_readTies_17 : decode cX6_readTies 17 = .ok (.aload_n 0, 1) := by decide +kernel
theorem dX6_readTies_18 : decode cX6_readTies 18 = .ok (.invokevirtual 131, 3) := by decide +kernel
theorem dX6_readTies_21 : decode cX6_readTies 21 = .ok (.aload_n 0, 1) := by decide +kernel
theorem dX6_readTies_22 : decode cX6_readTies 22 = .ok (.getfield 118, 3) := by decide +kernel
theorem dX6_readTies_25 : decode cX6_readTies 25 = .ok (.ifCond .ne 30, 3) := by decide +kernel
theorem dX6_readTies_28 : decode cX6_readTies 28 = .ok (.aload_n 0, 1) := by decide +kernel
theorem dX6_readTies_29 : decode cX6_readTies 29 = .ok (.getfield 91, 3) := by decide +kernel
theorem dX6_readTies_32 : decode cX6_readTies 32 = .ok (.ifCond .ne 18, 3) := by decide +kernel
theorem dX6_readTies_35 : decode cX6_readTies 35 = .ok (.aload_n 0, 1) := by decide +kernel
theorem dX6_readTies_36 : decode cX6_readTies 36 = .ok (.getfield 101, 3) := by decide +kernel
theorem dX6_readTies_39 : decode cX6_readTies 39 = .ok (.ifCond .lt 11, 3) := by decide +kernel
theorem dX6_readTies_42 : decode cX6_readTies 42 = .ok (.aload_n 0, 1) := by decide +kernel
theorem dX6_readTies_43 : decode cX6_readTies 43 = .ok (.getfield 101, 3) := by decide +kernel
theorem dX6_readTies_46 : decode cX6_readTies 46 = .ok (.iconst 3, 1) := by decide +kernel
theorem dX6_readTies_47 : decode cX6_readTies 47 = .ok (.if_icmp .le 8, 3) := by decide +kernel
theorem dX6_readTies_50 : decode cX6_readTies 50 = .ok (.aload_n 0, 1) := by decide +kernel
theorem dX6_readTies_51 : decode cX6_readTies 51 = .ok (.iconst 1, 1) := by decide +kernel
theorem dX6_readTies_52 : decode cX6_readTies 52 = .ok (.invokevirtual 127, 3) := by decide +kernel
theorem dX6_readTies_55 : decode cX6_readTies 55 = .ok (.aload_n 0, 1) := by decide +kernel
theorem dX6_readTies_56 : decode cX6_readTies 56 = .ok (.aload_n 0, 1) := by decide +kernel
theorem dX6_readTies_57 : decode cX6_readTies 57 = .ok (.getfield 118, 3) := by decide +kernel
theorem dX6_readTies_60 : decode cX6_readTies 60 = .ok (.ifCond .ne 10, 3) := by decide +kernel
theorem dX6_readTies_63 : decode cX6_readTies 63 = .ok (.aload_n 0, 1) := by decide +kernel
theorem dX6_readTies_64 : decode cX6_readTies 64 = .ok (.getfield 101, 3) := by decide +kernel
theorem dX6_readTies_67 : decode cX6_readTies 67 = .ok (.goto 4, 3) := by decide +kernel
theorem dX6_readTies_70 : decode cX6_readTies 70 = .ok (.iconst 0, 1) := by decide +kernel
theorem dX6_readTies_71 : decode cX6_readTies 71 = .ok (.putfield 151, 3) := by decide +kernel
theorem dX6_readTies_74 : decode cX6_readTies 74 = .ok (.aload_n 0, 1) := by decide +kernel
theorem dX6_readTies_75 : decode cX6_readTies 75 = .ok (.invokevirtual 131, 3) := by decide +kernel
theorem dX6_readTies_78 : decode cX6_readTies 78 = .ok (.return_, 1) := by decide +kernel
set_option maxRecDepth 20000 in
theorem ggX6_readLine_X6_readRow : GoodIn wsX6_readLine wsX6_readRow := goodIn_r _ [9, 3, 1, 10, 11, 12, 13, 14, 15, 8, 16, 17, 18, 19, 20, 21, 22, 2, 23, 24, 25, 26, 27, 28, 29, 30, 31, 32, 33, 34, 35, 36, 37, 38, 39, 40, 41, 42, 43, 44, 45, 46, 47, 48, 49, 50, 51, 52, 53, 54, 55, 56, 57, 58, 59, 60, 61, 62, 63, 64, 65, 66, 67, 68, 69, 70, 71, 72, 73, 74, 75, 76, 77, 78, 79, 80, 81, 82, 83, 84, 85, 86, 87, 88, 89, 90, 91, 92, 93, 94, 95, 96, 113, 114, 115, 116, 117, 118, 119, 120, 121, 122, 123, 124, 125, 126, 127, 128, 129, 130, 131, 132, 133, 134, 135, 136, 137, 138, 139, 140, 141, 142, 143, 144, 145, 146, 147, 148, 149, 150, 151, 152, 153, 154] rfl (by decide +kernel)
set_option maxRecDepth 20000 in
theorem gX6_readLine_X6_readRow : GoodIn wsX6_readLine (wsV RX6 154 RX6 yX6_readRow wsX6_readRow) := goodIn_app (goodIn_r _ [5, 6, 7, 8] rfl (by decide +kernel)) ggX6_readLine_X6_readRow
set_option maxRecDepth 20000 in
theorem ggX6_readLine_X6_readWeight : GoodIn wsX6_readLine wsX6_readWeight := goodIn_r _ [100, 3, 1, 2, 10, 12, 13, 14, 15, 8, 16, 17, 18, 19, 20, 21, 22, 23, 24, 25, 26, 27, 28, 29, 30, 31, 32, 33, 34, 35, 36, 37, 38, 39, 40, 41, 42, 43, 44, 45, 46, 47, 48, 49, 50, 51, 52, 53, 54, 55, 56, 57, 58, 59, 60, 61, 62, 63, 64, 65, 66, 67, 68, 69, 70, 71, 72, 73, 74, 75, 76, 77, 78, 79, 80, 81, 82, 83, 84, 85, 86, 87, 88, 89, 90, 91, 92, 93, 94, 95, 96, 113, 114, 115, 116, 117, 118, 119, 120, 121, 122, 123, 124, 125, 126, 127, 128, 129, 130, 131, 132, 133, 134, 135, 136, 137, 138, 139, 140, 141, 142, 143, 144, 145, 146, 147, 148, 149, 150, 151, 152, 153, 154] rfl (by decide +kernel)
set_option maxRecDepth 20000 in
theorem gX6_readLine_X6_readWeight : GoodIn wsX6_readLine (wsV RX6 157 RX6 yX6_readWeight wsX6_readWeight) := goodIn_app (goodIn_r _ [97, 98, 99, 8] rfl (by decide +kernel)) ggX6_readLine_X6_readWeight
set_option maxRecDepth 20000 in
theorem ggX6_readLine_X6_readBlock : GoodIn wsX6_readLine wsX6_readBlock := goodIn_r _ [104, 105, 106, 88, 89, 90, 8, 91, 3, 22, 92, 13, 14, 15, 16, 17, 18, 19, 20, 21, 1, 2, 23, 24, 25, 26, 27, 28, 29, 30, 31, 32, 33, 34, 35, 36, 37, 38, 39, 40, 41, 42, 43, 44, 45, 46, 47, 48, 49, 50, 51, 52, 53, 54, 55, 56, 57, 58, 59, 60, 61, 62, 63, 64, 65, 66, 67, 68, 69, 70, 71, 72, 73, 74, 75, 76, 77, 78, 79, 80, 81, 82, 83, 84, 85, 86, 87, 93, 94, 95, 96, 113, 114, 115, 116, 117, 118, 119, 120, 121, 122, 123, 124, 125, 126, 127, 128, 129, 130, 131, 132, 133, 134, 135, 136, 137, 138, 139, 140, 141, 142, 143, 144, 145, 146, 147, 148, 149, 150, 151, 152, 153, 154] rfl (by decide +kernel)
set_option maxRecDepth 20000 in
theorem gX6_readLine_X6_readBlock : GoodIn wsX6_readLine (wsV RX6 160 RX6 yX6_readBlock wsX6_readBlock) := goodIn_app (goodIn_r _ [101, 102, 103, 8] rfl (by decide +kernel)) ggX6_readLine_X6_readBlock
set_option maxRecDepth 20000 in
theorem ggX6_readLine_X6_readTies : GoodIn wsX6_readLine wsX6_readTies := goodIn_r _ [110, 111, 3, 1, 2, 112, 88, 89, 90, 8, 91, 22, 92, 13, 14, 15, 16, 17, 18, 19, 20, 21, 23, 24, 25, 26, 27, 28, 29, 30, 31, 32, 33, 34, 35, 36, 37, 38, 39, 40, 41, 42, 43, 44, 45, 46, 47, 48, 49, 50, 51, 52, 53, 54, 55, 56, 57, 58, 59, 60, 61, 62, 63, 64, 65, 66, 67, 68, 69, 70, 71, 72, 73, 74, 75, 76, 77, 78, 79, 80, 81, 82, 83, 84, 85, 86, 87, 113, 114, 115, 116, 117, 118, 119, 120, 121, 122, 123, 124, 125, 126, 127, 128, 129, 130, 131, 132, 133, 134, 135, 136, 137, 138, 139, 140, 141, 142, 143, 144, 145, 146, 147, 148, 149, 150, 151, 152, 153, 154] rfl (by decide +kernel)
set_option maxRecDepth 20000 in
theorem gX6_readLine_X6_readTies : GoodIn wsX6_readLine (wsV RX6 163 RX6 yX6_readTies wsX6_readTies) := goodIn_app (goodIn_r _ [107, 108, 109, 8] rfl (by decide +kernel)) ggX6_readLine_X6_readTies
set_option maxRecDepth 20000 in
theorem ggX6_readLine_X6_wrong : GoodIn wsX6_readLine wsX6_wrong := goodIn_r _ [91, 3, 22, 92, 113, 114, 115, 116, 117, 118, 119, 120, 121, 122, 123, 124, 125, 126, 127, 128, 129, 130, 131, 132, 133, 134, 135, 136, 137, 138, 139, 140, 141, 142, 143, 144, 145, 146, 147, 148, 149, 150, 151, 152, 153, 154] rfl (by decide +kernel)
set_option maxRecDepth 20000 in
theorem gX6_readLine_X6_wrong : GoodIn wsX6_readLine (wsV RX6 127 RX6 yX6_wrong wsX6_wrong) := goodIn_app (goodIn_r _ [88, 89, 90, 8] rfl (by decide +kernel)) ggX6_readLine_X6_wrong
set_option maxRecDepth 20000 in
theorem ggX6_readLine_X6_goOn : GoodIn wsX6_readLine wsX6_goOn := goodIn_r _ [16, 3, 17, 18, 19, 8, 20, 21, 22, 1, 2, 23, 24, 25, 26, 27, 28, 29, 30, 31, 32, 33, 34, 35, 36, 37, 38, 39, 40, 41, 42, 43, 44, 45, 46, 47, 48, 49, 50, 51, 52, 53, 54, 55, 56, 57, 58, 59, 60, 61, 62, 63, 64, 65, 66, 67, 68, 69, 70, 71, 72, 73, 74, 75, 76, 77, 78, 79, 80, 81, 82, 83, 84, 85, 86, 87, 113, 114, 115, 116, 117, 118, 119, 120, 121, 122, 123, 124, 125, 126, 127, 128, 129, 130, 131, 132, 133, 134, 135, 136, 137, 138, 139, 140, 141, 142, 143, 144, 145, 146, 147, 148, 149, 150, 151, 152, 153, 154] rfl (by decide +kernel)
set_option maxRecDepth 20000 in
theorem gX6_readLine_X6_goOn : GoodIn wsX6_readLine (wsV RX6 131 RX6 yX6_goOn wsX6_goOn) := goodIn_app (goodIn_r _ [13, 14, 15, 8] rfl (by decide +kernel)) ggX6_readLine_X6_goOn
theorem dX6_readLine_0 : decode cX6_readLine 0 = .ok (.aload_n 0, 1) := by decide +kernel
theorem dX6_readLine_1 : decode cX6_readLine 1 = .ok (.getfield 91, 3) := by decide +kernel
theorem dX6_readLine_4 : decode cX6_readLine 4 = .ok (.ifCond .ne 10, 3) := by decide +kernel
theorem dX6_readLine_7 : decode cX6_readLine 7 = .ok (.aload_n 0, 1) := by decide +kernel
theorem dX6_readLine_8 : decode cX6_readLine 8 = .ok (.getfield 101, 3) := by decide +kernel
theorem dX6_readLine_11 : decode cX6_readLine 11 = .ok (.goto 4, 3) := by decide +kernel
theorem dX6_readLine_14 : decode cX6_readLine 14 = .ok (.iconst (-1), 1) := by decide +kernel
theorem dX6_readLine_15 : decode cX6_readLine 15 = .ok (.istore_n 1, 1) := by decide +kernel
theorem dX6_readLine_16 : decode cX6_readLine 16 = .ok (.iload_n 1, 1) := by decide +kernel
theorem dX6_readLine_17 : decode cX6_readLine 17 = .ok (.iconst 4, 1) := by decide +kernel
theorem dX6_readLine_18 : decode cX6_readLine 18 = .ok (.if_icmp .ne 10, 3) := by decide +kernel
theorem dX6_readLine_21 : decode cX6_readLine 21 = .ok (.aload_n 0, 1) := by decide +kernel
theorem dX6_readLine_22 : decode cX6_readLine 22 = .ok (.invokevirtual 154, 3) := by decide +kernel
theorem dX6_readLine_25 : decode cX6_readLine 25 = .ok (.goto 46, 3) := by decide +kernel
theorem dX6_readLine_28 : decode cX6_readLine 28 = .ok (.iload_n 1, 1) := by decide +kernel
theorem dX6_readLine_29 : decode cX6_readLine 29 = .ok (.iconst 5, 1) := by decide +kernel
theorem dX6_readLine_30 : decode cX6_readLine 30 = .ok (.if_icmp .ne 10, 3) := by decide +kernel
theorem dX6_readLine_33 : decode cX6_readLine 33 = .ok (.aload_n 0, 1) := by decide +kernel
theorem dX6_readLine_34 : decode cX6_readLine 34 = .ok (.invokevirtual 157, 3) := by decide +kernel
theorem dX6_readLine_37 : decode cX6_readLine 37 = .ok (.goto 34, 3) := by decide +kernel
theorem dX6_readLine_40 : decode cX6_readLine 40 = .ok (.iload_n 1, 1) := by decide +kernel
theorem dX6_readLine_41 : decode cX6_readLine 41 = .ok (.bipush 6, 2) := by decide +kernel
theorem dX6_readLine_43 : decode cX6_readLine 43 = .ok (.if_icmp .ne 10, 3) := by decide +kernel
theorem dX6_readLine_46 : decode cX6_readLine 46 = .ok (.aload_n 0, 1) := by decide +kernel
theorem dX6_readLine_47 : decode cX6_readLine 47 = .ok (.invokevirtual 160, 3) := by decide +kernel
theorem dX6_readLine_50 : decode cX6_readLine 50 = .ok (.goto 21, 3) := by decide +kernel
theorem dX6_readLine_53 : decode cX6_readLine 53 = .ok (.iload_n 1, 1) := by decide +kernel
theorem dX6_readLine_54 : decode cX6_readLine 54 = .ok (.bipush 7, 2) := by decide +kernel
theorem dX6_readLine_56 : decode cX6_readLine 56 = .ok (.if_icmp .ne 10, 3) := by decide +kernel
theorem dX6_readLine_59 : decode cX6_readLine 59 = .ok (.aload_n 0, 1) := by decide +kernel
theorem dX6_readLine_60 : decode cX6_readLine 60 = .ok (.invokevirtual 163, 3) := by decide +kernel
theorem dX6_readLine_63 : decode cX6_readLine 63 = .ok (.goto 8, 3) := by decide +kernel
theorem dX6_readLine_66 : decode cX6_readLine 66 = .ok (.aload_n 0, 1) := by decide +kernel
theorem dX6_readLine_67 : decode cX6_readLine 67 = .ok (.iconst 1, 1) := by decide +kernel
theorem dX6_readLine_68 : decode cX6_readLine 68 = .ok (.invokevirtual 127, 3) := by decide +kernel
theorem dX6_readLine_71 : decode cX6_readLine 71 = .ok (.aload_n 0, 1) := by decide +kernel
theorem dX6_readLine_72 : decode cX6_readLine 72 = .ok (.getfield 118, 3) := by decide +kernel
theorem dX6_readLine_75 : decode cX6_readLine 75 = .ok (.ifCond .ne 16, 3) := by decide +kernel
theorem dX6_readLine_78 : decode cX6_readLine 78 = .ok (.aload_n 0, 1) := by decide +kernel
theorem dX6_readLine_79 : decode cX6_readLine 79 = .ok (.getfield 91, 3) := by decide +kernel
theorem dX6_readLine_82 : decode cX6_readLine 82 = .ok (.iconst 2, 1) := by decide +kernel
theorem dX6_readLine_83 : decode cX6_readLine 83 = .ok (.if_icmp .eq 8, 3) := by decide +kernel
theorem dX6_readLine_86 : decode cX6_readLine 86 = .ok (.aload_n 0, 1) := by decide +kernel
theorem dX6_readLine_87 : decode cX6_readLine 87 = .ok (.iconst 1, 1) := by decide +kernel
theorem dX6_readLine_88 : decode cX6_readLine 88 = .ok (.invokevirtual 127, 3) := by decide +kernel
theorem dX6_readLine_91 : decode cX6_readLine 91 = .ok (.aload_n 0, 1) := by decide +kernel
theorem dX6_readLine_92 : decode cX6_readLine 92 = .ok (.invokevirtual 131, 3) := by decide +kernel
theorem dX6_readLine_95 : decode cX6_readLine 95 = .ok (.aload_n 0, 1) := by decide +kernel
theorem dX6_readLine_96 : decode cX6_readLine 96 = .ok (.dup, 1) := by decide +kernel
theorem dX6_readLine_97 : decode cX6_readLine 97 = .ok (.getfield 166, 3) := by decide +kernel
theorem dX6_readLine_100 : decode cX6_readLine 100 = .ok (.iconst 1, 1) := by decide +kernel
theorem dX6_readLine_101 : decode cX6_readLine 101 = .ok (.iadd, 1) := by decide +kernel
theorem dX6_readLine_102 : decode cX6_readLine 102 = .ok (.putfield 166, 3) := by decide +kernel
theorem dX6_readLine_105 : decode cX6_readLine 105 = .ok (.return_, 1) := by decide +kernel
set_option maxRecDepth 20000 in
theorem ggX6_text_X6_token : GoodIn wsX6_text wsX6_token := goodIn_r _ [30, 10, 31, 12, 32, 33, 34, 35, 29, 36, 9, 37, 38, 39, 40, 41, 42, 43, 44, 45, 46, 47, 48, 49, 50, 51, 52, 53, 54, 55, 56, 57, 58, 59, 60, 61, 62, 63, 64, 65, 66, 67, 68, 69, 70, 71, 72, 73, 74, 75, 76, 77, 78, 79, 80, 81, 82, 83, 84, 85, 86, 87, 88, 89, 90, 91, 92, 93, 94, 95, 96, 129, 130, 131, 132, 133, 134, 135, 136, 137, 138, 139, 140, 141, 142, 143, 144, 145, 146, 147, 148, 149, 150, 151, 152, 153, 154, 155, 156, 157, 158, 159, 160, 161, 162, 163, 164, 165, 166, 167, 168, 169, 170] rfl (by decide +kernel)
set_option maxRecDepth 20000 in
theorem gX6_text_X6_token : GoodIn wsX6_text (wsV RX6 124 RX6 yX6_token wsX6_token) := goodIn_app (goodIn_r _ [26, 27, 28, 29] rfl (by decide +kernel)) ggX6_text_X6_token
set_option maxRecDepth 20000 in
theorem ggX6_text_X6_readLine : GoodIn wsX6_text wsX6_readLine := goodIn_r _ [100, 12, 32, 11, 6, 101, 102, 103, 29, 104, 3, 18, 20, 105, 106, 107, 108, 26, 27, 28, 30, 10, 31, 33, 34, 35, 36, 9, 37, 38, 39, 40, 41, 42, 43, 44, 45, 46, 47, 48, 49, 50, 51, 52, 53, 54, 55, 56, 57, 58, 59, 60, 61, 62, 63, 64, 65, 66, 67, 68, 69, 70, 71, 72, 73, 74, 75, 76, 77, 78, 79, 80, 81, 82, 83, 84, 85, 86, 87, 88, 89, 90, 91, 92, 93, 94, 95, 96, 109, 110, 111, 112, 14, 113, 114, 115, 116, 117, 118, 119, 120, 121, 122, 123, 124, 7, 4, 125, 126, 127, 128, 8, 5, 129, 130, 131, 132, 133, 134, 135, 136, 137, 138, 139, 140, 141, 142, 143, 144, 145, 146, 147, 148, 149, 150, 151, 152, 153, 154, 155, 156, 157, 158, 159, 160, 161, 162, 163, 164, 165, 166, 167, 168, 169, 170] rfl (by decide +kernel)
set_option maxRecDepth 20000 in
theorem gX6_text_X6_readLine : GoodIn wsX6_text (wsV RX6 169 RX6 yX6_readLine wsX6_readLine) := goodIn_app (goodIn_r _ [97, 98, 99, 29] rfl (by decide +kernel)) ggX6_text_X6_readLine
theorem dX6_text_0 : decode cX6_text 0 = .ok (.aload_n 0, 1) := by decide +kernel
theorem dX6_text_1 : decode cX6_text 1 = .ok (.iconst 0, 1) := by decide +kernel
theorem dX6_text_2 : decode cX6_text 2 = .ok (.putfield 72, 3) := by decide +kernel
theorem dX6_text_5 : decode cX6_text 5 = .ok (.iload_n 1, 1) := by decide +kernel
theorem dX6_text_6 : decode cX6_text 6 = .ok (.ifCond .lt 11, 3) := by decide +kernel
theorem dX6_text_9 : decode cX6_text 9 = .ok (.iload_n 1, 1) := by decide +kernel
theorem dX6_text_10 : decode cX6_text 10 = .ok (.aload_n 0, 1) := by decide +kernel
theorem dX6_text_11 : decode cX6_text 11 = .ok (.getfield 75, 3) := by decide +kernel
theorem dX6_text_14 : decode cX6_text 14 = .ok (.if_icmp .le 6, 3) := by decide +kernel
theorem dX6_text_17 : decode cX6_text 17 = .ok (.bipush (-2), 2) := by decide +kernel
theorem dX6_text_19 : decode cX6_text 19 = .ok (.ireturn, 1) := by decide +kernel
theorem dX6_text_20 : decode cX6_text 20 = .ok (.aload_n 0, 1) := by decide +kernel
theorem dX6_text_21 : decode cX6_text 21 = .ok (.iconst 0, 1) := by decide +kernel
theorem dX6_text_22 : decode cX6_text 22 = .ok (.putfield 134, 3) := by decide +kernel
theorem dX6_text_25 : decode cX6_text 25 = .ok (.aload_n 0, 1) := by decide +kernel
theorem dX6_text_26 : decode cX6_text 26 = .ok (.bipush 8, 2) := by decide +kernel
theorem dX6_text_28 : decode cX6_text 28 = .ok (.putfield 145, 3) := by decide +kernel
theorem dX6_text_31 : decode cX6_text 31 = .ok (.aload_n 0, 1) := by decide +kernel
theorem dX6_text_32 : decode cX6_text 32 = .ok (.iconst 0, 1) := by decide +kernel
theorem dX6_text_33 : decode cX6_text 33 = .ok (.putfield 151, 3) := by decide +kernel
theorem dX6_text_36 : decode cX6_text 36 = .ok (.aload_n 0, 1) := by decide +kernel
theorem dX6_text_37 : decode cX6_text 37 = .ok (.iconst 0, 1) := by decide +kernel
theorem dX6_text_38 : decode cX6_text 38 = .ok (.putfield 166, 3) := by decide +kernel
theorem dX6_text_41 : decode cX6_text 41 = .ok (.aload_n 0, 1) := by decide +kernel
theorem dX6_text_42 : decode cX6_text 42 = .ok (.iconst 0, 1) := by decide +kernel
theorem dX6_text_43 : decode cX6_text 43 = .ok (.putfield 141, 3) := by decide +kernel
theorem dX6_text_46 : decode cX6_text 46 = .ok (.aload_n 0, 1) := by decide +kernel
theorem dX6_text_47 : decode cX6_text 47 = .ok (.iconst 0, 1) := by decide +kernel
theorem dX6_text_48 : decode cX6_text 48 = .ok (.putfield 148, 3) := by decide +kernel
theorem dX6_text_51 : decode cX6_text 51 = .ok (.aload_n 0, 1) := by decide +kernel
theorem dX6_text_52 : decode cX6_text 52 = .ok (.iload_n 1, 1) := by decide +kernel
theorem dX6_text_53 : decode cX6_text 53 = .ok (.putfield 81, 3) := by decide +kernel
theorem dX6_text_56 : decode cX6_text 56 = .ok (.aload_n 0, 1) := by decide +kernel
theorem dX6_text_57 : decode cX6_text 57 = .ok (.iconst 0, 1) := by decide +kernel
theorem dX6_text_58 : decode cX6_text 58 = .ok (.putfield 78, 3) := by decide +kernel
theorem dX6_text_61 : decode cX6_text 61 = .ok (.aload_n 0, 1) := by decide +kernel
theorem dX6_text_62 : decode cX6_text 62 = .ok (.iconst 0, 1) := by decide +kernel
theorem dX6_text_63 : decode cX6_text 63 = .ok (.putfield 118, 3) := by decide +kernel
theorem dX6_text_66 : decode cX6_text 66 = .ok (.aload_n 0, 1) := by decide +kernel
theorem dX6_text_67 : decode cX6_text 67 = .ok (.invokevirtual 124, 3) := by decide +kernel
theorem dX6_text_70 : decode cX6_text 70 = .ok (.aload_n 0, 1) := by decide +kernel
theorem dX6_text_71 : decode cX6_text 71 = .ok (.getfield 118, 3) := by decide +kernel
theorem dX6_text_74 : decode cX6_text 74 = .ok (.ifCond .ne 18, 3) := by decide +kernel
theorem dX6_text_77 : decode cX6_text 77 = .ok (.aload_n 0, 1) := by decide +kernel
theorem dX6_text_78 : decode cX6_text 78 = .ok (.getfield 91, 3) := by decide +kernel
theorem dX6_text_81 : decode cX6_text 81 = .ok (.iconst 3, 1) := by decide +kernel
theorem dX6_text_82 : decode cX6_text 82 = .ok (.if_icmp .eq 10, 3) := by decide +kernel
theorem dX6_text_85 : decode cX6_text 85 = .ok (.aload_n 0, 1) := by decide +kernel
theorem dX6_text_86 : decode cX6_text 86 = .ok (.invokevirtual 169, 3) := by decide +kernel
theorem dX6_text_89 : decode cX6_text 89 = .ok (.goto (-19), 3) := by decide +kernel
theorem dX6_text_92 : decode cX6_text 92 = .ok (.aload_n 0, 1) := by decide +kernel
theorem dX6_text_93 : decode cX6_text 93 = .ok (.iconst 0, 1) := by decide +kernel
theorem dX6_text_94 : decode cX6_text 94 = .ok (.putfield 75, 3) := by decide +kernel
theorem dX6_text_97 : decode cX6_text 97 = .ok (.aload_n 0, 1) := by decide +kernel
theorem dX6_text_98 : decode cX6_text 98 = .ok (.aload_n 0, 1) := by decide +kernel
theorem dX6_text_99 : decode cX6_text 99 = .ok (.getfield 118, 3) := by decide +kernel
theorem dX6_text_102 : decode cX6_text 102 = .ok (.putfield 172, 3) := by decide +kernel
theorem dX6_text_105 : decode cX6_text 105 = .ok (.aload_n 0, 1) := by decide +kernel
theorem dX6_text_106 : decode cX6_text 106 = .ok (.aload_n 0, 1) := by decide +kernel
theorem dX6_text_107 : decode cX6_text 107 = .ok (.getfield 118, 3) := by decide +kernel
theorem dX6_text_110 : decode cX6_text 110 = .ok (.ifCond .ne 7, 3) := by decide +kernel
theorem dX6_text_113 : decode cX6_text 113 = .ok (.iconst (-1), 1) := by decide +kernel
theorem dX6_text_114 : decode cX6_text 114 = .ok (.goto 7, 3) := by decide +kernel
theorem dX6_text_117 : decode cX6_text 117 = .ok (.aload_n 0, 1) := by decide +kernel
theorem dX6_text_118 : decode cX6_text 118 = .ok (.getfield 121, 3) := by decide +kernel
theorem dX6_text_121 : decode cX6_text 121 = .ok (.putfield 38, 3) := by decide +kernel
theorem dX6_text_124 : decode cX6_text 124 = .ok (.aload_n 0, 1) := by decide +kernel
theorem dX6_text_125 : decode cX6_text 125 = .ok (.getfield 118, 3) := by decide +kernel
theorem dX6_text_128 : decode cX6_text 128 = .ok (.ifCond .eq 5, 3) := by decide +kernel
theorem dX6_text_131 : decode cX6_text 131 = .ok (.iconst (-1), 1) := by decide +kernel
theorem dX6_text_132 : decode cX6_text 132 = .ok (.ireturn, 1) := by decide +kernel
theorem dX6_text_133 : decode cX6_text 133 = .ok (.aload_n 0, 1) := by decide +kernel
theorem dX6_text_134 : decode cX6_text 134 = .ok (.aload_n 0, 1) := by decide +kernel
theorem dX6_text_135 : decode cX6_text 135 = .ok (.getfield 134, 3) := by decide +kernel
theorem dX6_text_138 : decode cX6_text 138 = .ok (.putfield 175, 3) := by decide +kernel
theorem dX6_text_141 : decode cX6_text 141 = .ok (.iconst 0, 1) := by decide +kernel
theorem dX6_text_142 : decode cX6_text 142 = .ok (.istore_n 2, 1) := by decide +kernel
theorem dX6_text_143 : decode cX6_text 143 = .ok (.iload_n 2, 1) := by decide +kernel
theorem dX6_text_144 : decode cX6_text 144 = .ok (.aload_n 0, 1) := by decide +kernel
theorem dX6_text_145 : decode cX6_text 145 = .ok (.getfield 175, 3) := by decide +kernel
theorem dX6_text_148 : decode cX6_text 148 = .ok (.if_icmp .ge 33, 3) := by decide +kernel
theorem dX6_text_151 : decode cX6_text 151 = .ok (.aload_n 0, 1) := by decide +kernel
theorem dX6_text_152 : decode cX6_text 152 = .ok (.getfield 13, 3) := by decide +kernel
theorem dX6_text_155 : decode cX6_text 155 = .ok (.iload_n 2, 1) := by decide +kernel
theorem dX6_text_156 : decode cX6_text 156 = .ok (.aload_n 0, 1) := by decide +kernel
theorem dX6_text_157 : decode cX6_text 157 = .ok (.getfield 32, 3) := by decide +kernel
theorem dX6_text_160 : decode cX6_text 160 = .ok (.iload_n 2, 1) := by decide +kernel
theorem dX6_text_161 : decode cX6_text 161 = .ok (.iaload, 1) := by decide +kernel
theorem dX6_text_162 : decode cX6_text 162 = .ok (.iastore, 1) := by decide +kernel
theorem dX6_text_163 : decode cX6_text 163 = .ok (.aload_n 0, 1) := by decide +kernel
theorem dX6_text_164 : decode cX6_text 164 = .ok (.getfield 16, 3) := by decide +kernel
theorem dX6_text_167 : decode cX6_text 167 = .ok (.iload_n 2, 1) := by decide +kernel
theorem dX6_text_168 : decode cX6_text 168 = .ok (.aload_n 0, 1) := by decide +kernel
theorem dX6_text_169 : decode cX6_text 169 = .ok (.getfield 35, 3) := by decide +kernel
theorem dX6_text_172 : decode cX6_text 172 = .ok (.iload_n 2, 1) := by decide +kernel
theorem dX6_text_173 : decode cX6_text 173 = .ok (.iaload, 1) := by decide +kernel
theorem dX6_text_174 : decode cX6_text 174 = .ok (.iastore, 1) := by decide +kernel
theorem dX6_text_175 : decode cX6_text 175 = .ok (.iinc 2 1, 3) := by decide +kernel
theorem dX6_text_178 : decode cX6_text 178 = .ok (.goto (-35), 3) := by decide +kernel
theorem dX6_text_181 : decode cX6_text 181 = .ok (.aload_n 0, 1) := by decide +kernel
theorem dX6_text_182 : decode cX6_text 182 = .ok (.aload_n 0, 1) := by decide +kernel
theorem dX6_text_183 : decode cX6_text 183 = .ok (.getfield 145, 3) := by decide +kernel
theorem dX6_text_186 : decode cX6_text 186 = .ok (.putfield 69, 3) := by decide +kernel
theorem dX6_text_189 : decode cX6_text 189 = .ok (.aload_n 0, 1) := by decide +kernel
theorem dX6_text_190 : decode cX6_text 190 = .ok (.aload_n 0, 1) := by decide +kernel
theorem dX6_text_191 : decode cX6_text 191 = .ok (.getfield 151, 3) := by decide +kernel
theorem dX6_text_194 : decode cX6_text 194 = .ok (.putfield 178, 3) := by decide +kernel
theorem dX6_text_197 : decode cX6_text 197 = .ok (.aload_n 0, 1) := by decide +kernel
theorem dX6_text_198 : decode cX6_text 198 = .ok (.aload_n 0, 1) := by decide +kernel
theorem dX6_text_199 : decode cX6_text 199 = .ok (.getfield 166, 3) := by decide +kernel
theorem dX6_text_202 : decode cX6_text 202 = .ok (.putfield 181, 3) := by decide +kernel
theorem dX6_text_205 : decode cX6_text 205 = .ok (.aload_n 0, 1) := by decide +kernel
theorem dX6_text_206 : decode cX6_text 206 = .ok (.iconst 0, 1) := by decide +kernel
theorem dX6_text_207 : decode cX6_text 207 = .ok (.putfield 184, 3) := by decide +kernel
theorem dX6_text_210 : decode cX6_text 210 = .ok (.aload_n 0, 1) := by decide +kernel
theorem dX6_text_211 : decode cX6_text 211 = .ok (.bipush (-2), 2) := by decide +kernel
theorem dX6_text_213 : decode cX6_text 213 = .ok (.putfield 28, 3) := by decide +kernel
theorem dX6_text_216 : decode cX6_text 216 = .ok (.aload_n 0, 1) := by decide +kernel
theorem dX6_text_217 : decode cX6_text 217 = .ok (.getfield 181, 3) := by decide +kernel
theorem dX6_text_220 : decode cX6_text 220 = .ok (.ireturn, 1) := by decide +kernel
theorem dX6_fault_0 : decode cX6_fault 0 = .ok (.aload_n 0, 1) := by decide +kernel
theorem dX6_fault_1 : decode cX6_fault 1 = .ok (.iconst 0, 1) := by decide +kernel
theorem dX6_fault_2 : decode cX6_fault 2 = .ok (.putfield 72, 3) := by decide +kernel
theorem dX6_fault_5 : decode cX6_fault 5 = .ok (.iload_n 1, 1) := by decide +kernel
theorem dX6_fault_6 : decode cX6_fault 6 = .ok (.ifCond .ne 10, 3) := by decide +kernel
theorem dX6_fault_9 : decode cX6_fault 9 = .ok (.aload_n 0, 1) := by decide +kernel
theorem dX6_fault_10 : decode cX6_fault 10 = .ok (.getfield 172, 3) := by decide +kernel
theorem dX6_fault_13 : decode cX6_fault 13 = .ok (.goto 16, 3) := by decide +kernel
theorem dX6_fault_16 : decode cX6_fault 16 = .ok (.iload_n 1, 1) := by decide +kernel
theorem dX6_fault_17 : decode cX6_fault 17 = .ok (.iconst 1, 1) := by decide +kernel
theorem dX6_fault_18 : decode cX6_fault 18 = .ok (.if_icmp .ne 10, 3) := by decide +kernel
theorem dX6_fault_21 : decode cX6_fault 21 = .ok (.aload_n 0, 1) := by decide +kernel
theorem dX6_fault_22 : decode cX6_fault 22 = .ok (.getfield 38, 3) := by decide +kernel
theorem dX6_fault_25 : decode cX6_fault 25 = .ok (.goto 4, 3) := by decide +kernel
theorem dX6_fault_28 : decode cX6_fault 28 = .ok (.iconst (-1), 1) := by decide +kernel
theorem dX6_fault_29 : decode cX6_fault 29 = .ok (.ireturn, 1) := by decide +kernel
theorem dX6_isPlace_0 : decode cX6_isPlace 0 = .ok (.iload_n 1, 1) := by decide +kernel
theorem dX6_isPlace_1 : decode cX6_isPlace 1 = .ok (.ifCond .lt 15, 3) := by decide +kernel
theorem dX6_isPlace_4 : decode cX6_isPlace 4 = .ok (.iload_n 1, 1) := by decide +kernel
theorem dX6_isPlace_5 : decode cX6_isPlace 5 = .ok (.aload_n 0, 1) := by decide +kernel
theorem dX6_isPlace_6 : decode cX6_isPlace 6 = .ok (.getfield 175, 3) := by decide +kernel
theorem dX6_isPlace_9 : decode cX6_isPlace 9 = .ok (.if_icmp .ge 7, 3) := by decide +kernel
theorem dX6_isPlace_12 : decode cX6_isPlace 12 = .ok (.iconst 1, 1) := by decide +kernel
theorem dX6_isPlace_13 : decode cX6_isPlace 13 = .ok (.goto 4, 3) := by decide +kernel
theorem dX6_isPlace_16 : decode cX6_isPlace 16 = .ok (.iconst 0, 1) := by decide +kernel
theorem dX6_isPlace_17 : decode cX6_isPlace 17 = .ok (.ireturn, 1) := by decide +kernel
theorem dX6_isSpan_0 : decode cX6_isSpan 0 = .ok (.iload_n 1, 1) := by decide +kernel
theorem dX6_isSpan_1 : decode cX6_isSpan 1 = .ok (.ifCond .lt 20, 3) := by decide +kernel
theorem dX6_isSpan_4 : decode cX6_isSpan 4 = .ok (.iload_n 1, 1) := by decide +kernel
theorem dX6_isSpan_5 : decode cX6_isSpan 5 = .ok (.iload_n 2, 1) := by decide +kernel
theorem dX6_isSpan_6 : decode cX6_isSpan 6 = .ok (.if_icmp .gt 15, 3) := by decide +kernel
theorem dX6_isSpan_9 : decode cX6_isSpan 9 = .ok (.iload_n 2, 1) := by decide +kernel
theorem dX6_isSpan_10 : decode cX6_isSpan 10 = .ok (.aload_n 0, 1) := by decide +kernel
theorem dX6_isSpan_11 : decode cX6_isSpan 11 = .ok (.getfield 175, 3) := by decide +kernel
theorem dX6_isSpan_14 : decode cX6_isSpan 14 = .ok (.if_icmp .ge 7, 3) := by decide +kernel
theorem dX6_isSpan_17 : decode cX6_isSpan 17 = .ok (.iconst 1, 1) := by decide +kernel
theorem dX6_isSpan_18 : decode cX6_isSpan 18 = .ok (.goto 4, 3) := by decide +kernel
theorem dX6_isSpan_21 : decode cX6_isSpan 21 = .ok (.iconst 0, 1) := by decide +kernel
theorem dX6_isSpan_22 : decode cX6_isSpan 22 = .ok (.ireturn, 1) := by decide +kernel
theorem dX6_isValue_0 : decode cX6_isValue 0 = .ok (.iload_n 0, 1) := by decide +kernel
theorem dX6_isValue_1 : decode cX6_isValue 1 = .ok (.ifCond .lt 14, 3) := by decide +kernel
theorem dX6_isValue_4 : decode cX6_isValue 4 = .ok (.iload_n 0, 1) := by decide +kernel
theorem dX6_isValue_5 : decode cX6_isValue 5 = .ok (.sipush 1000, 3) := by decide +kernel
theorem dX6_isValue_8 : decode cX6_isValue 8 = .ok (.if_icmp .ge 7, 3) := by decide +kernel
theorem dX6_isValue_11 : decode cX6_isValue 11 = .ok (.iconst 1, 1) := by decide +kernel
theorem dX6_isValue_12 : decode cX6_isValue 12 = .ok (.goto 4, 3) := by decide +kernel
theorem dX6_isValue_15 : decode cX6_isValue 15 = .ok (.iconst 0, 1) := by decide +kernel
theorem dX6_isValue_16 : decode cX6_isValue 16 = .ok (.ireturn, 1) := by decide +kernel
theorem dX6_blocks_0 : decode cX6_blocks 0 = .ok (.aload_n 0, 1) := by decide +kernel
theorem dX6_blocks_1 : decode cX6_blocks 1 = .ok (.getfield 175, 3) := by decide +kernel
theorem dX6_blocks_4 : decode cX6_blocks 4 = .ok (.aload_n 0, 1) := by decide +kernel
theorem dX6_blocks_5 : decode cX6_blocks 5 = .ok (.getfield 69, 3) := by decide +kernel
theorem dX6_blocks_8 : decode cX6_blocks 8 = .ok (.iadd, 1) := by decide +kernel
theorem dX6_blocks_9 : decode cX6_blocks 9 = .ok (.iconst 1, 1) := by decide +kernel
theorem dX6_blocks_10 : decode cX6_blocks 10 = .ok (.isub, 1) := by decide +kernel
theorem dX6_blocks_11 : decode cX6_blocks 11 = .ok (.aload_n 0, 1) := by decide +kernel
theorem dX6_blocks_12 : decode cX6_blocks 12 = .ok (.getfield 69, 3) := by decide +kernel
theorem dX6_blocks_15 : decode cX6_blocks 15 = .ok (.idiv, 1) := by decide +kernel
theorem dX6_blocks_16 : decode cX6_blocks 16 = .ok (.ireturn, 1) := by decide +kernel
set_option maxRecDepth 20000 in
theorem ggX6_nextTo_X6_isPlace : GoodIn wsX6_nextTo wsX6_isPlace := goodIn_r _ [6, 7, 8, 9, 10, 11, 12, 13, 14, 15, 16, 17, 18, 19, 20, 21, 22, 23, 24, 25, 26, 27, 28, 29, 30, 31, 32, 33, 34, 35, 36, 37, 38, 39, 40, 41, 42, 43, 44, 45, 46, 47, 48, 49] rfl (by decide +kernel)
set_option maxRecDepth 20000 in
theorem gX6_nextTo_X6_isPlace : GoodIn wsX6_nextTo (wsV RX6 187 RX6 yX6_isPlace wsX6_isPlace) := goodIn_app (goodIn_r _ [2, 3, 4, 5] rfl (by decide +kernel)) ggX6_nextTo_X6_isPlace
theorem dX6_nextTo_0 : decode cX6_nextTo 0 = .ok (.iload_n 1, 1) := by decide +kernel
theorem dX6_nextTo_1 : decode cX6_nextTo 1 = .ok (.iload_n 2, 1) := by decide +kernel
theorem dX6_nextTo_2 : decode cX6_nextTo 2 = .ok (.iadd, 1) := by decide +kernel
theorem dX6_nextTo_3 : decode cX6_nextTo 3 = .ok (.istore_n 3, 1) := by decide +kernel
theorem dX6_nextTo_4 : decode cX6_nextTo 4 = .ok (.aload_n 0, 1) := by decide +kernel
theorem dX6_nextTo_5 : decode cX6_nextTo 5 = .ok (.iload_n 3, 1) := by decide +kernel
theorem dX6_nextTo_6 : decode cX6_nextTo 6 = .ok (.invokevirtual 187, 3) := by decide +kernel
theorem dX6_nextTo_9 : decode cX6_nextTo 9 = .ok (.ifCond .eq 25, 3) := by decide +kernel
theorem dX6_nextTo_12 : decode cX6_nextTo 12 = .ok (.aload_n 0, 1) := by decide +kernel
theorem dX6_nextTo_13 : decode cX6_nextTo 13 = .ok (.getfield 13, 3) := by decide +kernel
theorem dX6_nextTo_16 : decode cX6_nextTo 16 = .ok (.iload_n 3, 1) := by decide +kernel
theorem dX6_nextTo_17 : decode cX6_nextTo 17 = .ok (.iaload, 1) := by decide +kernel
theorem dX6_nextTo_18 : decode cX6_nextTo 18 = .ok (.aload_n 0, 1) := by decide +kernel
theorem dX6_nextTo_19 : decode cX6_nextTo 19 = .ok (.getfield 13, 3) := by decide +kernel
theorem dX6_nextTo_22 : decode cX6_nextTo 22 = .ok (.iload_n 1, 1) := by decide +kernel
theorem dX6_nextTo_23 : decode cX6_nextTo 23 = .ok (.iaload, 1) := by decide +kernel
theorem dX6_nextTo_24 : decode cX6_nextTo 24 = .ok (.if_icmp .eq 10, 3) := by decide +kernel
theorem dX6_nextTo_27 : decode cX6_nextTo 27 = .ok (.iload_n 3, 1) := by decide +kernel
theorem dX6_nextTo_28 : decode cX6_nextTo 28 = .ok (.iload_n 2, 1) := by decide +kernel
theorem dX6_nextTo_29 : decode cX6_nextTo 29 = .ok (.iadd, 1) := by decide +kernel
theorem dX6_nextTo_30 : decode cX6_nextTo 30 = .ok (.istore_n 3, 1) := by decide +kernel
theorem dX6_nextTo_31 : decode cX6_nextTo 31 = .ok (.goto (-27), 3) := by decide +kernel
theorem dX6_nextTo_34 : decode cX6_nextTo 34 = .ok (.aload_n 0, 1) := by decide +kernel
theorem dX6_nextTo_35 : decode cX6_nextTo 35 = .ok (.iload_n 3, 1) := by decide +kernel
theorem dX6_nextTo_36 : decode cX6_nextTo 36 = .ok (.invokevirtual 187, 3) := by decide +kernel
theorem dX6_nextTo_39 : decode cX6_nextTo 39 = .ok (.ifCond .eq 7, 3) := by decide +kernel
theorem dX6_nextTo_42 : decode cX6_nextTo 42 = .ok (.iload_n 3, 1) := by decide +kernel
theorem dX6_nextTo_43 : decode cX6_nextTo 43 = .ok (.goto 5, 3) := by decide +kernel
theorem dX6_nextTo_46 : decode cX6_nextTo 46 = .ok (.bipush (-2), 2) := by decide +kernel
theorem dX6_nextTo_48 : decode cX6_nextTo 48 = .ok (.ireturn, 1) := by decide +kernel
set_option maxRecDepth 20000 in
theorem ggX6_place_X6_isPlace : GoodIn wsX6_place wsX6_isPlace := goodIn_r _ [9, 10, 19, 20, 21, 22, 23, 24, 25, 26, 27, 28, 29, 30, 31, 32, 33, 34, 35, 36, 37, 38, 39, 40, 41, 42, 43, 44, 45, 46, 47, 48, 49, 50, 51, 52, 53, 54, 55, 56, 57, 58, 59, 60] rfl (by decide +kernel)
set_option maxRecDepth 20000 in
theorem gX6_place_X6_isPlace : GoodIn wsX6_place (wsV RX6 187 RX6 yX6_isPlace wsX6_isPlace) := goodIn_app (goodIn_r _ [5, 6, 7, 8] rfl (by decide +kernel)) ggX6_place_X6_isPlace
set_option maxRecDepth 20000 in
theorem ggX6_place_X6_timesIn : GoodIn wsX6_place wsX6_timesIn := goodIn_r _ [14, 2, 19, 20, 21, 22, 23, 24, 25, 26, 27, 28, 29, 30, 31, 32, 33, 34, 35, 36, 37, 38, 39, 40, 41, 42, 43, 44, 45, 46, 47, 48, 49, 50, 51, 52, 53, 54, 55, 56, 57, 58, 59, 60] rfl (by decide +kernel)
set_option maxRecDepth 20000 in
theorem gX6_place_X6_timesIn : GoodIn wsX6_place (wsV RX6 190 RX6 yX6_timesIn wsX6_timesIn) := goodIn_app (goodIn_r _ [11, 12, 13, 8] rfl (by decide +kernel)) ggX6_place_X6_timesIn
set_option maxRecDepth 20000 in
theorem ggX6_place_X6_nextTo : GoodIn wsX6_place wsX6_nextTo := goodIn_r _ [18, 2, 5, 6, 7, 8, 9, 10, 19, 20, 21, 22, 23, 24, 25, 26, 27, 28, 29, 30, 31, 32, 33, 34, 35, 36, 37, 38, 39, 40, 41, 42, 43, 44, 45, 46, 47, 48, 49, 50, 51, 52, 53, 54, 55, 56, 57, 58, 59, 60] rfl (by decide +kernel)
set_option maxRecDepth 20000 in
theorem gX6_place_X6_nextTo : GoodIn wsX6_place (wsV RX6 194 RX6 yX6_nextTo wsX6_nextTo) := goodIn_app (goodIn_r _ [15, 16, 17, 8] rfl (by decide +kernel)) ggX6_place_X6_nextTo
theorem dX6_place_0 : decode cX6_place 0 = .ok (.aload_n 0, 1) := by decide +kernel
theorem dX6_place_1 : decode cX6_place 1 = .ok (.iconst 0, 1) := by decide +kernel
theorem dX6_place_2 : decode cX6_place 2 = .ok (.putfield 72, 3) := by decide +kernel
theorem dX6_place_5 : decode cX6_place 5 = .ok (.aload_n 0, 1) := by decide +kernel
theorem dX6_place_6 : decode cX6_place 6 = .ok (.iload_n 1, 1) := by decide +kernel
theorem dX6_place_7 : decode cX6_place 7 = .ok (.invokevirtual 187, 3) := by decide +kernel
theorem dX6_place_10 : decode cX6_place 10 = .ok (.ifCond .ne 10, 3) := by decide +kernel
theorem dX6_place_13 : decode cX6_place 13 = .ok (.aload_n 0, 1) := by decide +kernel
theorem dX6_place_14 : decode cX6_place 14 = .ok (.iconst 1, 1) := by decide +kernel
theorem dX6_place_15 : decode cX6_place 15 = .ok (.putfield 72, 3) := by decide +kernel
theorem dX6_place_18 : decode cX6_place 18 = .ok (.iconst 0, 1) := by decide +kernel
theorem dX6_place_19 : decode cX6_place 19 = .ok (.ireturn, 1) := by decide +kernel
theorem dX6_place_20 : decode cX6_place 20 = .ok (.iload_n 2, 1) := by decide +kernel
theorem dX6_place_21 : decode cX6_place 21 = .ok (.tableswitch 89 0 5 #[39, 46, 53, 60, 75, 82], 39) := by decide +kernel
theorem dX6_place_60 : decode cX6_place 60 = .ok (.aload_n 0, 1) := by decide +kernel
theorem dX6_place_61 : decode cX6_place 61 = .ok (.getfield 13, 3) := by decide +kernel
theorem dX6_place_64 : decode cX6_place 64 = .ok (.iload_n 1, 1) := by decide +kernel
theorem dX6_place_65 : decode cX6_place 65 = .ok (.iaload, 1) := by decide +kernel
theorem dX6_place_66 : decode cX6_place 66 = .ok (.ireturn, 1) := by decide +kernel
theorem dX6_place_67 : decode cX6_place 67 = .ok (.aload_n 0, 1) := by decide +kernel
theorem dX6_place_68 : decode cX6_place 68 = .ok (.getfield 16, 3) := by decide +kernel
theorem dX6_place_71 : decode cX6_place 71 = .ok (.iload_n 1, 1) := by decide +kernel
theorem dX6_place_72 : decode cX6_place 72 = .ok (.iaload, 1) := by decide +kernel
theorem dX6_place_73 : decode cX6_place 73 = .ok (.ireturn, 1) := by decide +kernel
theorem dX6_place_74 : decode cX6_place 74 = .ok (.iload_n 1, 1) := by decide +kernel
theorem dX6_place_75 : decode cX6_place 75 = .ok (.aload_n 0, 1) := by decide +kernel
theorem dX6_place_76 : decode cX6_place 76 = .ok (.getfield 69, 3) := by decide +kernel
theorem dX6_place_79 : decode cX6_place 79 = .ok (.idiv, 1) := by decide +kernel
theorem dX6_place_80 : decode cX6_place 80 = .ok (.ireturn, 1) := by decide +kernel
theorem dX6_place_81 : decode cX6_place 81 = .ok (.aload_n 0, 1) := by decide +kernel
theorem dX6_place_82 : decode cX6_place 82 = .ok (.iconst 0, 1) := by decide +kernel
theorem dX6_place_83 : decode cX6_place 83 = .ok (.iload_n 1, 1) := by decide +kernel
theorem dX6_place_84 : decode cX6_place 84 = .ok (.iconst 1, 1) := by decide +kernel
theorem dX6_place_85 : decode cX6_place 85 = .ok (.isub, 1) := by decide +kernel
theorem dX6_place_86 : decode cX6_place 86 = .ok (.aload_n 0, 1) := by decide +kernel
theorem dX6_place_87 : decode cX6_place 87 = .ok (.getfield 13, 3) := by decide +kernel
theorem dX6_place_90 : decode cX6_place 90 = .ok (.iload_n 1, 1) := by decide +kernel
theorem dX6_place_91 : decode cX6_place 91 = .ok (.iaload, 1) := by decide +kernel
theorem dX6_place_92 : decode cX6_place 92 = .ok (.invokevirtual 190, 3) := by decide +kernel
theorem dX6_place_95 : decode cX6_place 95 = .ok (.ireturn, 1) := by decide +kernel
theorem dX6_place_96 : decode cX6_place 96 = .ok (.aload_n 0, 1) := by decide +kernel
theorem dX6_place_97 : decode cX6_place 97 = .ok (.iload_n 1, 1) := by decide +kernel
theorem dX6_place_98 : decode cX6_place 98 = .ok (.iconst 1, 1) := by decide +kernel
theorem dX6_place_99 : decode cX6_place 99 = .ok (.invokevirtual 194, 3) := by decide +kernel
theorem dX6_place_102 : decode cX6_place 102 = .ok (.ireturn, 1) := by decide +kernel
theorem dX6_place_103 : decode cX6_place 103 = .ok (.aload_n 0, 1) := by decide +kernel
theorem dX6_place_104 : decode cX6_place 104 = .ok (.iload_n 1, 1) := by decide +kernel
theorem dX6_place_105 : decode cX6_place 105 = .ok (.iconst (-1), 1) := by decide +kernel
theorem dX6_place_106 : decode cX6_place 106 = .ok (.invokevirtual 194, 3) := by decide +kernel
theorem dX6_place_109 : decode cX6_place 109 = .ok (.ireturn, 1) := by decide +kernel
theorem dX6_place_110 : decode cX6_place 110 = .ok (.aload_n 0, 1) := by decide +kernel
theorem dX6_place_111 : decode cX6_place 111 = .ok (.iconst 2, 1) := by decide +kernel
theorem dX6_place_112 : decode cX6_place 112 = .ok (.putfield 72, 3) := by decide +kernel
theorem dX6_place_115 : decode cX6_place 115 = .ok (.iconst 0, 1) := by decide +kernel
theorem dX6_place_116 : decode cX6_place 116 = .ok (.ireturn, 1) := by decide +kernel
theorem dX6_begins_0 : decode cX6_begins 0 = .ok (.aload_n 0, 1) := by decide +kernel
theorem dX6_begins_1 : decode cX6_begins 1 = .ok (.aload_n 0, 1) := by decide +kernel
theorem dX6_begins_2 : decode cX6_begins 2 = .ok (.getfield 175, 3) := by decide +kernel
theorem dX6_begins_5 : decode cX6_begins 5 = .ok (.putfield 197, 3) := by decide +kernel
theorem dX6_begins_8 : decode cX6_begins 8 = .ok (.iconst 0, 1) := by decide +kernel
theorem dX6_begins_9 : decode cX6_begins 9 = .ok (.istore_n 1, 1) := by decide +kernel
theorem dX6_begins_10 : decode cX6_begins 10 = .ok (.iload_n 1, 1) := by decide +kernel
theorem dX6_begins_11 : decode cX6_begins 11 = .ok (.aload_n 0, 1) := by decide +kernel
theorem dX6_begins_12 : decode cX6_begins 12 = .ok (.getfield 175, 3) := by decide +kernel
theorem dX6_begins_15 : decode cX6_begins 15 = .ok (.if_icmp .ge 33, 3) := by decide +kernel
theorem dX6_begins_18 : decode cX6_begins 18 = .ok (.aload_n 0, 1) := by decide +kernel
theorem dX6_begins_19 : decode cX6_begins 19 = .ok (.getfield 41, 3) := by decide +kernel
theorem dX6_begins_22 : decode cX6_begins 22 = .ok (.iload_n 1, 1) := by decide +kernel
theorem dX6_begins_23 : decode cX6_begins 23 = .ok (.aload_n 0, 1) := by decide +kernel
theorem dX6_begins_24 : decode cX6_begins 24 = .ok (.getfield 13, 3) := by decide +kernel
theorem dX6_begins_27 : decode cX6_begins 27 = .ok (.iload_n 1, 1) := by decide +kernel
theorem dX6_begins_28 : decode cX6_begins 28 = .ok (.iaload, 1) := by decide +kernel
theorem dX6_begins_29 : decode cX6_begins 29 = .ok (.iastore, 1) := by decide +kernel
theorem dX6_begins_30 : decode cX6_begins 30 = .ok (.aload_n 0, 1) := by decide +kernel
theorem dX6_begins_31 : decode cX6_begins 31 = .ok (.getfield 44, 3) := by decide +kernel
theorem dX6_begins_34 : decode cX6_begins 34 = .ok (.iload_n 1, 1) := by decide +kernel
theorem dX6_begins_35 : decode cX6_begins 35 = .ok (.aload_n 0, 1) := by decide +kernel
theorem dX6_begins_36 : decode cX6_begins 36 = .ok (.getfield 16, 3) := by decide +kernel
theorem dX6_begins_39 : decode cX6_begins 39 = .ok (.iload_n 1, 1) := by decide +kernel
theorem dX6_begins_40 : decode cX6_begins 40 = .ok (.iaload, 1) := by decide +kernel
theorem dX6_begins_41 : decode cX6_begins 41 = .ok (.iastore, 1) := by decide +kernel
theorem dX6_begins_42 : decode cX6_begins 42 = .ok (.iinc 1 1, 3) := by decide +kernel
theorem dX6_begins_45 : decode cX6_begins 45 = .ok (.goto (-35), 3) := by decide +kernel
theorem dX6_begins_48 : decode cX6_begins 48 = .ok (.return_, 1) := by decide +kernel
theorem dX6_others_0 : decode cX6_others 0 = .ok (.iconst 0, 1) := by decide +kernel
theorem dX6_others_1 : decode cX6_others 1 = .ok (.istore_n 1, 1) := by decide +kernel
theorem dX6_others_2 : decode cX6_others 2 = .ok (.iconst 0, 1) := by decide +kernel
theorem dX6_others_3 : decode cX6_others 3 = .ok (.istore_n 2, 1) := by decide +kernel
theorem dX6_others_4 : decode cX6_others 4 = .ok (.iload_n 2, 1) := by decide +kernel
theorem dX6_others_5 : decode cX6_others 5 = .ok (.aload_n 0, 1) := by decide +kernel
theorem dX6_others_6 : decode cX6_others 6 = .ok (.getfield 175, 3) := by decide +kernel
theorem dX6_others_9 : decode cX6_others 9 = .ok (.if_icmp .ge 32, 3) := by decide +kernel
theorem dX6_others_12 : decode cX6_others 12 = .ok (.iload_n 1, 1) := by decide +kernel
theorem dX6_others_13 : decode cX6_others 13 = .ok (.aload_n 0, 1) := by decide +kernel
theorem dX6_others_14 : decode cX6_others 14 = .ok (.getfield 41, 3) := by decide +kernel
theorem dX6_others_17 : decode cX6_others 17 = .ok (.iload_n 2, 1) := by decide +kernel
theorem dX6_others_18 : decode cX6_others 18 = .ok (.iaload, 1) := by decide +kernel
theorem dX6_others_19 : decode cX6_others 19 = .ok (.aload_n 0, 1) := by decide +kernel
theorem dX6_others_20 : decode cX6_others 20 = .ok (.getfield 13, 3) := by decide +kernel
theorem dX6_others_23 : decode cX6_others 23 = .ok (.iload_n 2, 1) := by decide +kernel
theorem dX6_others_24 : decode cX6_others 24 = .ok (.iaload, 1) := by decide +kernel
theorem dX6_others_25 : decode cX6_others 25 = .ok (.if_icmp .ne 7, 3) := by decide +kernel
theorem dX6_others_28 : decode cX6_others 28 = .ok (.iconst 0, 1) := by decide +kernel
theorem dX6_others_29 : decode cX6_others 29 = .ok (.goto 4, 3) := by decide +kernel
theorem dX6_others_32 : decode cX6_others 32 = .ok (.iconst 1, 1) := by decide +kernel
theorem dX6_others_33 : decode cX6_others 33 = .ok (.iadd, 1) := by decide +kernel
theorem dX6_others_34 : decode cX6_others 34 = .ok (.istore_n 1, 1) := by decide +kernel
theorem dX6_others_35 : decode cX6_others 35 = .ok (.iinc 2 1, 3) := by decide +kernel
theorem dX6_others_38 : decode cX6_others 38 = .ok (.goto (-34), 3) := by decide +kernel
theorem dX6_others_41 : decode cX6_others 41 = .ok (.iload_n 1, 1) := by decide +kernel
theorem dX6_others_42 : decode cX6_others 42 = .ok (.ireturn, 1) := by decide +kernel
theorem dX6_isOther_0 : decode cX6_isOther 0 = .ok (.aload_n 0, 1) := by decide +kernel
theorem dX6_isOther_1 : decode cX6_isOther 1 = .ok (.getfield 197, 3) := by decide +kernel
theorem dX6_isOther_4 : decode cX6_isOther 4 = .ok (.aload_n 0, 1) := by decide +kernel
theorem dX6_isOther_5 : decode cX6_isOther 5 = .ok (.getfield 175, 3) := by decide +kernel
theorem dX6_isOther_8 : decode cX6_isOther 8 = .ok (.if_icmp .eq 5, 3) := by decide +kernel
theorem dX6_isOther_11 : decode cX6_isOther 11 = .ok (.iconst 1, 1) := by decide +kernel
theorem dX6_isOther_12 : decode cX6_isOther 12 = .ok (.ireturn, 1) := by decide +kernel
theorem dX6_isOther_13 : decode cX6_isOther 13 = .ok (.iconst 0, 1) := by decide +kernel
theorem dX6_isOther_14 : decode cX6_isOther 14 = .ok (.istore_n 1, 1) := by decide +kernel
theorem dX6_isOther_15 : decode cX6_isOther 15 = .ok (.iload_n 1, 1) := by decide +kernel
theorem dX6_isOther_16 : decode cX6_isOther 16 = .ok (.aload_n 0, 1) := by decide +kernel
theorem dX6_isOther_17 : decode cX6_isOther 17 = .ok (.getfield 175, 3) := by decide +kernel
theorem dX6_isOther_20 : decode cX6_isOther 20 = .ok (.if_icmp .ge 41, 3) := by decide +kernel
theorem dX6_isOther_23 : decode cX6_isOther 23 = .ok (.aload_n 0, 1) := by decide +kernel
theorem dX6_isOther_24 : decode cX6_isOther 24 = .ok (.getfield 41, 3) := by decide +kernel
theorem dX6_isOther_27 : decode cX6_isOther 27 = .ok (.iload_n 1, 1) := by decide +kernel
theorem dX6_isOther_28 : decode cX6_isOther 28 = .ok (.iaload, 1) := by decide +kernel
theorem dX6_isOther_29 : decode cX6_isOther 29 = .ok (.aload_n 0, 1) := by decide +kernel
theorem dX6_isOther_30 : decode cX6_isOther 30 = .ok (.getfield 13, 3) := by decide +kernel
theorem dX6_isOther_33 : decode cX6_isOther 33 = .ok (.iload_n 1, 1) := by decide +kernel
theorem dX6_isOther_34 : decode cX6_isOther 34 = .ok (.iaload, 1) := by decide +kernel
theorem dX6_isOther_35 : decode cX6_isOther 35 = .ok (.if_icmp .ne 18, 3) := by decide +kernel
theorem dX6_isOther_38 : decode cX6_isOther 38 = .ok (.aload_n 0, 1) := by decide +kernel
theorem dX6_isOther_39 : decode cX6_isOther 39 = .ok (.getfield 44, 3) := by decide +kernel
theorem dX6_isOther_42 : decode cX6_isOther 42 = .ok (.iload_n 1, 1) := by decide +kernel
theorem dX6_isOther_43 : decode cX6_isOther 43 = .ok (.iaload, 1) := by decide +kernel
theorem dX6_isOther_44 : decode cX6_isOther 44 = .ok (.aload_n 0, 1) := by decide +kernel
theorem dX6_isOther_45 : decode cX6_isOther 45 = .ok (.getfield 16, 3) := by decide +kernel
theorem dX6_isOther_48 : decode cX6_isOther 48 = .ok (.iload_n 1, 1) := by decide +kernel
theorem dX6_isOther_49 : decode cX6_isOther 49 = .ok (.iaload, 1) := by decide +kernel
theorem dX6_isOther_50 : decode cX6_isOther 50 = .ok (.if_icmp .eq 5, 3) := by decide +kernel
theorem dX6_isOther_53 : decode cX6_isOther 53 = .ok (.iconst 1, 1) := by decide +kernel
theorem dX6_isOther_54 : decode cX6_isOther 54 = .ok (.ireturn, 1) := by decide +kernel
theorem dX6_isOther_55 : decode cX6_isOther 55 = .ok (.iinc 1 1, 3) := by decide +kernel
theorem dX6_isOther_58 : decode cX6_isOther 58 = .ok (.goto (-43), 3) := by decide +kernel
theorem dX6_isOther_61 : decode cX6_isOther 61 = .ok (.iconst 0, 1) := by decide +kernel
theorem dX6_isOther_62 : decode cX6_isOther 62 = .ok (.ireturn, 1) := by decide +kernel
theorem dX6_placesOf_0 : decode cX6_placesOf 0 = .ok (.iload_n 2, 1) := by decide +kernel
theorem dX6_placesOf_1 : decode cX6_placesOf 1 = .ok (.aload_n 0, 1) := by decide +kernel
theorem dX6_placesOf_2 : decode cX6_placesOf 2 = .ok (.getfield 69, 3) := by decide +kernel
theorem dX6_placesOf_5 : decode cX6_placesOf 5 = .ok (.iload_n 1, 1) := by decide +kernel
theorem dX6_placesOf_6 : decode cX6_placesOf 6 = .ok (.imul, 1) := by decide +kernel
theorem dX6_placesOf_7 : decode cX6_placesOf 7 = .ok (.isub, 1) := by decide +kernel
theorem dX6_placesOf_8 : decode cX6_placesOf 8 = .ok (.istore_n 3, 1) := by decide +kernel
theorem dX6_placesOf_9 : decode cX6_placesOf 9 = .ok (.iload_n 3, 1) := by decide +kernel
theorem dX6_placesOf_10 : decode cX6_placesOf 10 = .ok (.aload_n 0, 1) := by decide +kernel
theorem dX6_placesOf_11 : decode cX6_placesOf 11 = .ok (.getfield 69, 3) := by decide +kernel
theorem dX6_placesOf_14 : decode cX6_placesOf 14 = .ok (.if_icmp .le 10, 3) := by decide +kernel
theorem dX6_placesOf_17 : decode cX6_placesOf 17 = .ok (.aload_n 0, 1) := by decide +kernel
theorem dX6_placesOf_18 : decode cX6_placesOf 18 = .ok (.getfield 69, 3) := by decide +kernel
theorem dX6_placesOf_21 : decode cX6_placesOf 21 = .ok (.goto 12, 3) := by decide +kernel
theorem dX6_placesOf_24 : decode cX6_placesOf 24 = .ok (.iload_n 3, 1) := by decide +kernel
theorem dX6_placesOf_25 : decode cX6_placesOf 25 = .ok (.ifCond .ge 7, 3) := by decide +kernel
theorem dX6_placesOf_28 : decode cX6_placesOf 28 = .ok (.iconst 0, 1) := by decide +kernel
theorem dX6_placesOf_29 : decode cX6_placesOf 29 = .ok (.goto 4, 3) := by decide +kernel
theorem dX6_placesOf_32 : decode cX6_placesOf 32 = .ok (.iload_n 3, 1) := by decide +kernel
theorem dX6_placesOf_33 : decode cX6_placesOf 33 = .ok (.ireturn, 1) := by decide +kernel
set_option maxRecDepth 20000 in
theorem ggX6_isFresh_X6_placesOf : GoodIn wsX6_isFresh wsX6_placesOf := goodIn_r _ [10, 3, 11, 12, 13, 14, 15, 16, 17, 18, 19, 20, 21, 22, 23, 24, 25, 26, 27, 28, 29, 30, 31, 32, 33, 34, 35, 36, 37, 38, 39, 40, 41, 42, 43, 44, 45, 46, 47, 48, 49, 50, 51, 52] rfl (by decide +kernel)
set_option maxRecDepth 20000 in
theorem gX6_isFresh_X6_placesOf : GoodIn wsX6_isFresh (wsV RX6 200 RX6 yX6_placesOf wsX6_placesOf) := goodIn_app (goodIn_r _ [6, 7, 8, 9] rfl (by decide +kernel)) ggX6_isFresh_X6_placesOf
theorem dX6_isFresh_0 : decode cX6_isFresh 0 = .ok (.aload_n 0, 1) := by decide +kernel
theorem dX6_isFresh_1 : decode cX6_isFresh 1 = .ok (.iload_n 1, 1) := by decide +kernel
theorem dX6_isFresh_2 : decode cX6_isFresh 2 = .ok (.aload_n 0, 1) := by decide +kernel
theorem dX6_isFresh_3 : decode cX6_isFresh 3 = .ok (.getfield 197, 3) := by decide +kernel
theorem dX6_isFresh_6 : decode cX6_isFresh 6 = .ok (.invokevirtual 200, 3) := by decide +kernel
theorem dX6_isFresh_9 : decode cX6_isFresh 9 = .ok (.aload_n 0, 1) := by decide +kernel
theorem dX6_isFresh_10 : decode cX6_isFresh 10 = .ok (.iload_n 1, 1) := by decide +kernel
theorem dX6_isFresh_11 : decode cX6_isFresh 11 = .ok (.aload_n 0, 1) := by decide +kernel
theorem dX6_isFresh_12 : decode cX6_isFresh 12 = .ok (.getfield 175, 3) := by decide +kernel
theorem dX6_isFresh_15 : decode cX6_isFresh 15 = .ok (.invokevirtual 200, 3) := by decide +kernel
theorem dX6_isFresh_18 : decode cX6_isFresh 18 = .ok (.if_icmp .ge 5, 3) := by decide +kernel
theorem dX6_isFresh_21 : decode cX6_isFresh 21 = .ok (.iconst 1, 1) := by decide +kernel
theorem dX6_isFresh_22 : decode cX6_isFresh 22 = .ok (.ireturn, 1) := by decide +kernel
theorem dX6_isFresh_23 : decode cX6_isFresh 23 = .ok (.aload_n 0, 1) := by decide +kernel
theorem dX6_isFresh_24 : decode cX6_isFresh 24 = .ok (.getfield 69, 3) := by decide +kernel
theorem dX6_isFresh_27 : decode cX6_isFresh 27 = .ok (.iload_n 1, 1) := by decide +kernel
theorem dX6_isFresh_28 : decode cX6_isFresh 28 = .ok (.imul, 1) := by decide +kernel
theorem dX6_isFresh_29 : decode cX6_isFresh 29 = .ok (.istore_n 2, 1) := by decide +kernel
theorem dX6_isFresh_30 : decode cX6_isFresh 30 = .ok (.iload_n 2, 1) := by decide +kernel
theorem dX6_isFresh_31 : decode cX6_isFresh 31 = .ok (.aload_n 0, 1) := by decide +kernel
theorem dX6_isFresh_32 : decode cX6_isFresh 32 = .ok (.getfield 69, 3) := by decide +kernel
theorem dX6_isFresh_35 : decode cX6_isFresh 35 = .ok (.iload_n 1, 1) := by decide +kernel
theorem dX6_isFresh_36 : decode cX6_isFresh 36 = .ok (.imul, 1) := by decide +kernel
theorem dX6_isFresh_37 : decode cX6_isFresh 37 = .ok (.aload_n 0, 1) := by decide +kernel
theorem dX6_isFresh_38 : decode cX6_isFresh 38 = .ok (.getfield 69, 3) := by decide +kernel
theorem dX6_isFresh_41 : decode cX6_isFresh 41 = .ok (.iadd, 1) := by decide +kernel
theorem dX6_isFresh_42 : decode cX6_isFresh 42 = .ok (.if_icmp .ge 42, 3) := by decide +kernel
theorem dX6_isFresh_45 : decode cX6_isFresh 45 = .ok (.iload_n 2, 1) := by decide +kernel
theorem dX6_isFresh_46 : decode cX6_isFresh 46 = .ok (.aload_n 0, 1) := by decide +kernel
theorem dX6_isFresh_47 : decode cX6_isFresh 47 = .ok (.getfield 197, 3) := by decide +kernel
theorem dX6_isFresh_50 : decode cX6_isFresh 50 = .ok (.if_icmp .ge 34, 3) := by decide +kernel
theorem dX6_isFresh_53 : decode cX6_isFresh 53 = .ok (.iload_n 2, 1) := by decide +kernel
theorem dX6_isFresh_54 : decode cX6_isFresh 54 = .ok (.aload_n 0, 1) := by decide +kernel
theorem dX6_isFresh_55 : decode cX6_isFresh 55 = .ok (.getfield 175, 3) := by decide +kernel
theorem dX6_isFresh_58 : decode cX6_isFresh 58 = .ok (.if_icmp .ge 18, 3) := by decide +kernel
theorem dX6_isFresh_61 : decode cX6_isFresh 61 = .ok (.aload_n 0, 1) := by decide +kernel
theorem dX6_isFresh_62 : decode cX6_isFresh 62 = .ok (.getfield 41, 3) := by decide +kernel
theorem dX6_isFresh_65 : decode cX6_isFresh 65 = .ok (.iload_n 2, 1) := by decide +kernel
theorem dX6_isFresh_66 : decode cX6_isFresh 66 = .ok (.iaload, 1) := by decide +kernel
theorem dX6_isFresh_67 : decode cX6_isFresh 67 = .ok (.aload_n 0, 1) := by decide +kernel
theorem dX6_isFresh_68 : decode cX6_isFresh 68 = .ok (.getfield 13, 3) := by decide +kernel
theorem dX6_isFresh_71 : decode cX6_isFresh 71 = .ok (.iload_n 2, 1) := by decide +kernel
theorem dX6_isFresh_72 : decode cX6_isFresh 72 = .ok (.iaload, 1) := by decide +kernel
theorem dX6_isFresh_73 : decode cX6_isFresh 73 = .ok (.if_icmp .eq 5, 3) := by decide +kernel
theorem dX6_isFresh_76 : decode cX6_isFresh 76 = .ok (.iconst 1, 1) := by decide +kernel
theorem dX6_isFresh_77 : decode cX6_isFresh 77 = .ok (.ireturn, 1) := by decide +kernel
theorem dX6_isFresh_78 : decode cX6_isFresh 78 = .ok (.iinc 2 1, 3) := by decide +kernel
theorem dX6_isFresh_81 : decode cX6_isFresh 81 = .ok (.goto (-51), 3) := by decide +kernel
theorem dX6_isFresh_84 : decode cX6_isFresh 84 = .ok (.iconst 0, 1) := by decide +kernel
theorem dX6_isFresh_85 : decode cX6_isFresh 85 = .ok (.ireturn, 1) := by decide +kernel
set_option maxRecDepth 20000 in
theorem ggX6_freshPairs_X6_isFresh : GoodIn wsX6_freshPairs wsX6_isFresh := goodIn_r _ [7, 1, 8, 2, 9, 10, 11, 12, 13, 6, 14, 15, 16, 17, 18, 19, 20, 21, 22, 23, 24, 25, 26, 27, 28, 29, 30, 31, 32, 33, 34, 35, 36, 37, 38, 39, 40, 41, 42, 43, 44, 45, 46, 47, 48, 49, 50, 51, 52, 53, 54, 55, 56] rfl (by decide +kernel)
set_option maxRecDepth 20000 in
theorem gX6_freshPairs_X6_isFresh : GoodIn wsX6_freshPairs (wsV RX6 203 RX6 yX6_isFresh wsX6_isFresh) := goodIn_app (goodIn_r _ [3, 4, 5, 6] rfl (by decide +kernel)) ggX6_freshPairs_X6_isFresh
theorem dX6_freshPairs_0 : decode cX6_freshPairs 0 = .ok (.aload_n 0, 1) := by decide +kernel
theorem dX6_freshPairs_1 : decode cX6_freshPairs 1 = .ok (.getfield 197, 3) := by decide +kernel
theorem dX6_freshPairs_4 : decode cX6_freshPairs 4 = .ok (.aload_n 0, 1) := by decide +kernel
theorem dX6_freshPairs_5 : decode cX6_freshPairs 5 = .ok (.getfield 69, 3) := by decide +kernel
theorem dX6_freshPairs_8 : decode cX6_freshPairs 8 = .ok (.iadd, 1) := by decide +kernel
theorem dX6_freshPairs_9 : decode cX6_freshPairs 9 = .ok (.iconst 1, 1) := by decide +kernel
theorem dX6_freshPairs_10 : decode cX6_freshPairs 10 = .ok (.isub, 1) := by decide +kernel
theorem dX6_freshPairs_11 : decode cX6_freshPairs 11 = .ok (.aload_n 0, 1) := by decide +kernel
theorem dX6_freshPairs_12 : decode cX6_freshPairs 12 = .ok (.getfield 69, 3) := by decide +kernel
theorem dX6_freshPairs_15 : decode cX6_freshPairs 15 = .ok (.idiv, 1) := by decide +kernel
theorem dX6_freshPairs_16 : decode cX6_freshPairs 16 = .ok (.istore_n 1, 1) := by decide +kernel
theorem dX6_freshPairs_17 : decode cX6_freshPairs 17 = .ok (.iconst 0, 1) := by decide +kernel
theorem dX6_freshPairs_18 : decode cX6_freshPairs 18 = .ok (.istore_n 2, 1) := by decide +kernel
theorem dX6_freshPairs_19 : decode cX6_freshPairs 19 = .ok (.iconst 0, 1) := by decide +kernel
theorem dX6_freshPairs_20 : decode cX6_freshPairs 20 = .ok (.istore_n 3, 1) := by decide +kernel
theorem dX6_freshPairs_21 : decode cX6_freshPairs 21 = .ok (.iload_n 3, 1) := by decide +kernel
theorem dX6_freshPairs_22 : decode cX6_freshPairs 22 = .ok (.iload_n 1, 1) := by decide +kernel
theorem dX6_freshPairs_23 : decode cX6_freshPairs 23 = .ok (.if_icmp .ge 61, 3) := by decide +kernel
theorem dX6_freshPairs_26 : decode cX6_freshPairs 26 = .ok (.iconst 0, 1) := by decide +kernel
theorem dX6_freshPairs_27 : decode cX6_freshPairs 27 = .ok (.istore 4, 2) := by decide +kernel
theorem dX6_freshPairs_29 : decode cX6_freshPairs 29 = .ok (.iload_n 3, 1) := by decide +kernel
theorem dX6_freshPairs_30 : decode cX6_freshPairs 30 = .ok (.istore 5, 2) := by decide +kernel
theorem dX6_freshPairs_32 : decode cX6_freshPairs 32 = .ok (.iload 5, 2) := by decide +kernel
theorem dX6_freshPairs_34 : decode cX6_freshPairs 34 = .ok (.iload_n 1, 1) := by decide +kernel
theorem dX6_freshPairs_35 : decode cX6_freshPairs 35 = .ok (.if_icmp .ge 43, 3) := by decide +kernel
theorem dX6_freshPairs_38 : decode cX6_freshPairs 38 = .ok (.iload 4, 2) := by decide +kernel
theorem dX6_freshPairs_40 : decode cX6_freshPairs 40 = .ok (.ifCond .ne 12, 3) := by decide +kernel
theorem dX6_freshPairs_43 : decode cX6_freshPairs 43 = .ok (.aload_n 0, 1) := by decide +kernel
theorem dX6_freshPairs_44 : decode cX6_freshPairs 44 = .ok (.iload 5, 2) := by decide +kernel
theorem dX6_freshPairs_46 : decode cX6_freshPairs 46 = .ok (.invokevirtual 203, 3) := by decide +kernel
theorem dX6_freshPairs_49 : decode cX6_freshPairs 49 = .ok (.ifCond .eq 7, 3) := by decide +kernel
theorem dX6_freshPairs_52 : decode cX6_freshPairs 52 = .ok (.iconst 1, 1) := by decide +kernel
theorem dX6_freshPairs_53 : decode cX6_freshPairs 53 = .ok (.goto 4, 3) := by decide +kernel
theorem dX6_freshPairs_56 : decode cX6_freshPairs 56 = .ok (.iconst 0, 1) := by decide +kernel
theorem dX6_freshPairs_57 : decode cX6_freshPairs 57 = .ok (.istore 4, 2) := by decide +kernel
theorem dX6_freshPairs_59 : decode cX6_freshPairs 59 = .ok (.iload_n 2, 1) := by decide +kernel
theorem dX6_freshPairs_60 : decode cX6_freshPairs 60 = .ok (.iload 4, 2) := by decide +kernel
theorem dX6_freshPairs_62 : decode cX6_freshPairs 62 = .ok (.ifCond .eq 7, 3) := by decide +kernel
theorem dX6_freshPairs_65 : decode cX6_freshPairs 65 = .ok (.iconst 1, 1) := by decide +kernel
theorem dX6_freshPairs_66 : decode cX6_freshPairs 66 = .ok (.goto 4, 3) := by decide +kernel
theorem dX6_freshPairs_69 : decode cX6_freshPairs 69 = .ok (.iconst 0, 1) := by decide +kernel
theorem dX6_freshPairs_70 : decode cX6_freshPairs 70 = .ok (.iadd, 1) := by decide +kernel
theorem dX6_freshPairs_71 : decode cX6_freshPairs 71 = .ok (.istore_n 2, 1) := by decide +kernel
theorem dX6_freshPairs_72 : decode cX6_freshPairs 72 = .ok (.iinc 5 1, 3) := by decide +kernel
theorem dX6_freshPairs_75 : decode cX6_freshPairs 75 = .ok (.goto (-43), 3) := by decide +kernel
theorem dX6_freshPairs_78 : decode cX6_freshPairs 78 = .ok (.iinc 3 1, 3) := by decide +kernel
theorem dX6_freshPairs_81 : decode cX6_freshPairs 81 = .ok (.goto (-60), 3) := by decide +kernel
theorem dX6_freshPairs_84 : decode cX6_freshPairs 84 = .ok (.iload_n 2, 1) := by decide +kernel
theorem dX6_freshPairs_85 : decode cX6_freshPairs 85 = .ok (.ireturn, 1) := by decide +kernel
set_option maxRecDepth 20000 in
theorem ggX6_becomes_X6_freshPairs : GoodIn wsX6_becomes wsX6_freshPairs := goodIn_r _ [12, 2, 13, 14, 15, 16, 11, 17, 3, 5, 4, 18, 19, 20, 21, 22, 23, 24, 25, 26, 27, 28, 29, 30, 31, 32, 33, 34, 35, 36, 37, 38, 39, 40, 41, 42, 43, 44, 45, 46, 47, 48, 49, 50, 51, 52, 53, 54, 55, 56, 57, 58, 59, 60, 61, 62, 63] rfl (by decide +kernel)
set_option maxRecDepth 20000 in
theorem gX6_becomes_X6_freshPairs : GoodIn wsX6_becomes (wsV RX6 206 RX6 yX6_freshPairs wsX6_freshPairs) := goodIn_app (goodIn_r _ [8, 9, 10, 11] rfl (by decide +kernel)) ggX6_becomes_X6_freshPairs
theorem dX6_becomes_0 : decode cX6_becomes 0 = .ok (.aload_n 0, 1) := by decide +kernel
theorem dX6_becomes_1 : decode cX6_becomes 1 = .ok (.aload_n 0, 1) := by decide +kernel
theorem dX6_becomes_2 : decode cX6_becomes 2 = .ok (.invokevirtual 206, 3) := by decide +kernel
theorem dX6_becomes_5 : decode cX6_becomes 5 = .ok (.putfield 28, 3) := by decide +kernel
theorem dX6_becomes_8 : decode cX6_becomes 8 = .ok (.aload_n 0, 1) := by decide +kernel
theorem dX6_becomes_9 : decode cX6_becomes 9 = .ok (.aload_n 0, 1) := by decide +kernel
theorem dX6_becomes_10 : decode cX6_becomes 10 = .ok (.getfield 197, 3) := by decide +kernel
theorem dX6_becomes_13 : decode cX6_becomes 13 = .ok (.putfield 175, 3) := by decide +kernel
theorem dX6_becomes_16 : decode cX6_becomes 16 = .ok (.iconst 0, 1) := by decide +kernel
theorem dX6_becomes_17 : decode cX6_becomes 17 = .ok (.istore_n 1, 1) := by decide +kernel
theorem dX6_becomes_18 : decode cX6_becomes 18 = .ok (.iload_n 1, 1) := by decide +kernel
theorem dX6_becomes_19 : decode cX6_becomes 19 = .ok (.aload_n 0, 1) := by decide +kernel
theorem dX6_becomes_20 : decode cX6_becomes 20 = .ok (.getfield 175, 3) := by decide +kernel
theorem dX6_becomes_23 : decode cX6_becomes 23 = .ok (.if_icmp .ge 33, 3) := by decide +kernel
theorem dX6_becomes_26 : decode cX6_becomes 26 = .ok (.aload_n 0, 1) := by decide +kernel
theorem dX6_becomes_27 : decode cX6_becomes 27 = .ok (.getfield 13, 3) := by decide +kernel
theorem dX6_becomes_30 : decode cX6_becomes 30 = .ok (.iload_n 1, 1) := by decide +kernel
theorem dX6_becomes_31 : decode cX6_becomes 31 = .ok (.aload_n 0, 1) := by decide +kernel
theorem dX6_becomes_32 : decode cX6_becomes 32 = .ok (.getfield 41, 3) := by decide +kernel
theorem dX6_becomes_35 : decode cX6_becomes 35 = .ok (.iload_n 1, 1) := by decide +kernel
theorem dX6_becomes_36 : decode cX6_becomes 36 = .ok (.iaload, 1) := by decide +kernel
theorem dX6_becomes_37 : decode cX6_becomes 37 = .ok (.iastore, 1) := by decide +kernel
theorem dX6_becomes_38 : decode cX6_becomes 38 = .ok (.aload_n 0, 1) := by decide +kernel
theorem dX6_becomes_39 : decode cX6_becomes 39 = .ok (.getfield 16, 3) := by decide +kernel
theorem dX6_becomes_42 : decode cX6_becomes 42 = .ok (.iload_n 1, 1) := by decide +kernel
theorem dX6_becomes_43 : decode cX6_becomes 43 = .ok (.aload_n 0, 1) := by decide +kernel
theorem dX6_becomes_44 : decode cX6_becomes 44 = .ok (.getfield 44, 3) := by decide +kernel
theorem dX6_becomes_47 : decode cX6_becomes 47 = .ok (.iload_n 1, 1) := by decide +kernel
theorem dX6_becomes_48 : decode cX6_becomes 48 = .ok (.iaload, 1) := by decide +kernel
theorem dX6_becomes_49 : decode cX6_becomes 49 = .ok (.iastore, 1) := by decide +kernel
theorem dX6_becomes_50 : decode cX6_becomes 50 = .ok (.iinc 1 1, 3) := by decide +kernel
theorem dX6_becomes_53 : decode cX6_becomes 53 = .ok (.goto (-35), 3) := by decide +kernel
theorem dX6_becomes_56 : decode cX6_becomes 56 = .ok (.return_, 1) := by decide +kernel
set_option maxRecDepth 20000 in
theorem ggX6_edits_X6_isOther : GoodIn wsX6_edits wsX6_isOther := goodIn_r _ [12, 13, 2, 14, 4, 15, 6, 38, 39, 40, 41, 42, 43, 44, 45, 46, 47, 48, 49, 50, 51, 52, 53, 54, 55, 56, 57, 58, 59, 60, 61, 62, 63, 64, 65, 66, 67, 68, 69, 70, 71, 72, 73, 74, 75, 76, 77, 78, 79] rfl (by decide +kernel)
set_option maxRecDepth 20000 in
theorem gX6_edits_X6_isOther : GoodIn wsX6_edits (wsV RX6 209 RX6 yX6_isOther wsX6_isOther) := goodIn_app (goodIn_r _ [8, 9, 10, 11] rfl (by decide +kernel)) ggX6_edits_X6_isOther
set_option maxRecDepth 20000 in
theorem ggX6_edits_X6_copies : GoodIn wsX6_edits wsX6_copies := goodIn_r _ [19, 3, 5, 7, 38, 39, 40, 41, 42, 43, 44, 45, 46, 47, 48, 49, 50, 51, 52, 53, 54, 55, 56, 57, 58, 59, 60, 61, 62, 63, 64, 65, 66, 67, 68, 69, 70, 71, 72, 73, 74, 75, 76, 77, 78, 79] rfl (by decide +kernel)
set_option maxRecDepth 20000 in
theorem gX6_edits_X6_copies : GoodIn wsX6_edits (wsV RX6 213 RX6 yX6_copies wsX6_copies) := goodIn_app (goodIn_r _ [16, 17, 18, 11] rfl (by decide +kernel)) ggX6_edits_X6_copies
set_option maxRecDepth 20000 in
theorem ggX6_edits_X6_becomes : GoodIn wsX6_edits wsX6_becomes := goodIn_r _ [23, 24, 13, 2, 4, 14, 6, 15, 25, 26, 27, 11, 28, 29, 30, 31, 32, 33, 34, 35, 36, 37, 38, 39, 40, 41, 42, 43, 44, 45, 46, 47, 48, 49, 50, 51, 52, 53, 54, 55, 56, 57, 58, 59, 60, 61, 62, 63, 64, 65, 66, 67, 68, 69, 70, 71, 72, 73, 74, 75, 76, 77, 78, 79] rfl (by decide +kernel)
set_option maxRecDepth 20000 in
theorem gX6_edits_X6_becomes : GoodIn wsX6_edits (wsV RX6 217 RX6 yX6_becomes wsX6_becomes) := goodIn_app (goodIn_r _ [20, 21, 22, 11] rfl (by decide +kernel)) ggX6_edits_X6_becomes
theorem dX6_edits_0 : decode cX6_edits 0 = .ok (.aload_n 0, 1) := by decide +kernel
theorem dX6_edits_1 : decode cX6_edits 1 = .ok (.invokevirtual 209, 3) := by decide +kernel
theorem dX6_edits_4 : decode cX6_edits 4 = .ok (.ifCond .ne 4, 3) := by decide +kernel
theorem dX6_edits_7 : decode cX6_edits 7 = .ok (.return_, 1) := by decide +kernel
theorem dX6_edits_8 : decode cX6_edits 8 = .ok (.aload_n 0, 1) := by decide +kernel
theorem dX6_edits_9 : decode cX6_edits 9 = .ok (.getfield 184, 3) := by decide +kernel
theorem dX6_edits_12 : decode cX6_edits 12 = .ok (.bipush 12, 2) := by decide +kernel
theorem dX6_edits_14 : decode cX6_edits 14 = .ok (.if_icmp .ne 35, 3) := by decide +kernel
theorem dX6_edits_17 : decode cX6_edits 17 = .ok (.iconst 1, 1) := by decide +kernel
theorem dX6_edits_18 : decode cX6_edits 18 = .ok (.istore_n 1, 1) := by decide +kernel
theorem dX6_edits_19 : decode cX6_edits 19 = .ok (.iload_n 1, 1) := by decide +kernel
theorem dX6_edits_20 : decode cX6_edits 20 = .ok (.bipush 12, 2) := by decide +kernel
theorem dX6_edits_22 : decode cX6_edits 22 = .ok (.if_icmp .ge 17, 3) := by decide +kernel
theorem dX6_edits_25 : decode cX6_edits 25 = .ok (.aload_n 0, 1) := by decide +kernel
theorem dX6_edits_26 : decode cX6_edits 26 = .ok (.iload_n 1, 1) := by decide +kernel
theorem dX6_edits_27 : decode cX6_edits 27 = .ok (.iload_n 1, 1) := by decide +kernel
theorem dX6_edits_28 : decode cX6_edits 28 = .ok (.iconst 1, 1) := by decide +kernel
theorem dX6_edits_29 : decode cX6_edits 29 = .ok (.isub, 1) := by decide +kernel
theorem dX6_edits_30 : decode cX6_edits 30 = .ok (.invokevirtual 213, 3) := by decide +kernel
theorem dX6_edits_33 : decode cX6_edits 33 = .ok (.iinc 1 1, 3) := by decide +kernel
theorem dX6_edits_36 : decode cX6_edits 36 = .ok (.goto (-17), 3) := by decide +kernel
theorem dX6_edits_39 : decode cX6_edits 39 = .ok (.aload_n 0, 1) := by decide +kernel
theorem dX6_edits_40 : decode cX6_edits 40 = .ok (.dup, 1) := by decide +kernel
theorem dX6_edits_41 : decode cX6_edits 41 = .ok (.getfield 184, 3) := by decide +kernel
theorem dX6_edits_44 : decode cX6_edits 44 = .ok (.iconst 1, 1) := by decide +kernel
theorem dX6_edits_45 : decode cX6_edits 45 = .ok (.isub, 1) := by decide +kernel
theorem dX6_edits_46 : decode cX6_edits 46 = .ok (.putfield 184, 3) := by decide +kernel
theorem dX6_edits_49 : decode cX6_edits 49 = .ok (.iconst 0, 1) := by decide +kernel
theorem dX6_edits_50 : decode cX6_edits 50 = .ok (.istore_n 1, 1) := by decide +kernel
theorem dX6_edits_51 : decode cX6_edits 51 = .ok (.iload_n 1, 1) := by decide +kernel
theorem dX6_edits_52 : decode cX6_edits 52 = .ok (.aload_n 0, 1) := by decide +kernel
theorem dX6_edits_53 : decode cX6_edits 53 = .ok (.getfield 175, 3) := by decide +kernel
theorem dX6_edits_56 : decode cX6_edits 56 = .ok (.if_icmp .ge 49, 3) := by decide +kernel
theorem dX6_edits_59 : decode cX6_edits 59 = .ok (.aload_n 0, 1) := by decide +kernel
theorem dX6_edits_60 : decode cX6_edits 60 = .ok (.getfield 19, 3) := by decide +kernel
theorem dX6_edits_63 : decode cX6_edits 63 = .ok (.bipush 120, 2) := by decide +kernel
theorem dX6_edits_65 : decode cX6_edits 65 = .ok (.aload_n 0, 1) := by decide +kernel
theorem dX6_edits_66 : decode cX6_edits 66 = .ok (.getfield 184, 3) := by decide +kernel
theorem dX6_edits_69 : decode cX6_edits 69 = .ok (.imul, 1) := by decide +kernel
theorem dX6_edits_70 : decode cX6_edits 70 = .ok (.iload_n 1, 1) := by decide +kernel
theorem dX6_edits_71 : decode cX6_edits 71 = .ok (.iadd, 1) := by decide +kernel
theorem dX6_edits_72 : decode cX6_edits 72 = .ok (.aload_n 0, 1) := by decide +kernel
theorem dX6_edits_73 : decode cX6_edits 73 = .ok (.getfield 13, 3) := by decide +kernel
theorem dX6_edits_76 : decode cX6_edits 76 = .ok (.iload_n 1, 1) := by decide +kernel
theorem dX6_edits_77 : decode cX6_edits 77 = .ok (.iaload, 1) := by decide +kernel
theorem dX6_edits_78 : decode cX6_edits 78 = .ok (.iastore, 1) := by decide +kernel
theorem dX6_edits_79 : decode cX6_edits 79 = .ok (.aload_n 0, 1) := by decide +kernel
theorem dX6_edits_80 : decode cX6_edits 80 = .ok (.getfield 22, 3) := by decide +kernel
theorem dX6_edits_83 : decode cX6_edits 83 = .ok (.bipush 120, 2) := by decide +kernel
theorem dX6_edits_85 : decode cX6_edits 85 = .ok (.aload_n 0, 1) := by decide +kernel
theorem dX6_edits_86 : decode cX6_edits 86 = .ok (.getfield 184, 3) := by decide +kernel
theorem dX6_edits_89 : decode cX6_edits 89 = .ok (.imul, 1) := by decide +kernel
theorem dX6_edits_90 : decode cX6_edits 90 = .ok (.iload_n 1, 1) := by decide +kernel
theorem dX6_edits_91 : decode cX6_edits 91 = .ok (.iadd, 1) := by decide +kernel
theorem dX6_edits_92 : decode cX6_edits 92 = .ok (.aload_n 0, 1) := by decide +kernel
theorem dX6_edits_93 : decode cX6_edits 93 = .ok (.getfield 16, 3) := by decide +kernel
theorem dX6_edits_96 : decode cX6_edits 96 = .ok (.iload_n 1, 1) := by decide +kernel
theorem dX6_edits_97 : decode cX6_edits 97 = .ok (.iaload, 1) := by decide +kernel
theorem dX6_edits_98 : decode cX6_edits 98 = .ok (.iastore, 1) := by decide +kernel
theorem dX6_edits_99 : decode cX6_edits 99 = .ok (.iinc 1 1, 3) := by decide +kernel
theorem dX6_edits_102 : decode cX6_edits 102 = .ok (.goto (-51), 3) := by decide +kernel
theorem dX6_edits_105 : decode cX6_edits 105 = .ok (.aload_n 0, 1) := by decide +kernel
theorem dX6_edits_106 : decode cX6_edits 106 = .ok (.getfield 25, 3) := by decide +kernel
theorem dX6_edits_109 : decode cX6_edits 109 = .ok (.aload_n 0, 1) := by decide +kernel
theorem dX6_edits_110 : decode cX6_edits 110 = .ok (.getfield 184, 3) := by decide +kernel
theorem dX6_edits_113 : decode cX6_edits 113 = .ok (.aload_n 0, 1) := by decide +kernel
theorem dX6_edits_114 : decode cX6_edits 114 = .ok (.getfield 175, 3) := by decide +kernel
theorem dX6_edits_117 : decode cX6_edits 117 = .ok (.iastore, 1) := by decide +kernel
theorem dX6_edits_118 : decode cX6_edits 118 = .ok (.aload_n 0, 1) := by decide +kernel
theorem dX6_edits_119 : decode cX6_edits 119 = .ok (.dup, 1) := by decide +kernel
theorem dX6_edits_120 : decode cX6_edits 120 = .ok (.getfield 184, 3) := by decide +kernel
theorem dX6_edits_123 : decode cX6_edits 123 = .ok (.iconst 1, 1) := by decide +kernel
theorem dX6_edits_124 : decode cX6_edits 124 = .ok (.iadd, 1) := by decide +kernel
theorem dX6_edits_125 : decode cX6_edits 125 = .ok (.putfield 184, 3) := by decide +kernel
theorem dX6_edits_128 : decode cX6_edits 128 = .ok (.aload_n 0, 1) := by decide +kernel
theorem dX6_edits_129 : decode cX6_edits 129 = .ok (.invokevirtual 217, 3) := by decide +kernel
theorem dX6_edits_132 : decode cX6_edits 132 = .ok (.return_, 1) := by decide +kernel
theorem dX6_copies_0 : decode cX6_copies 0 = .ok (.iconst 0, 1) := by decide +kernel
theorem dX6_copies_1 : decode cX6_copies 1 = .ok (.istore_n 3, 1) := by decide +kernel
theorem dX6_copies_2 : decode cX6_copies 2 = .ok (.iload_n 3, 1) := by decide +kernel
theorem dX6_copies_3 : decode cX6_copies 3 = .ok (.bipush 120, 2) := by decide +kernel
theorem dX6_copies_5 : decode cX6_copies 5 = .ok (.if_icmp .ge 53, 3) := by decide +kernel
theorem dX6_copies_8 : decode cX6_copies 8 = .ok (.aload_n 0, 1) := by decide +kernel
theorem dX6_copies_9 : decode cX6_copies 9 = .ok (.getfield 19, 3) := by decide +kernel
theorem dX6_copies_12 : decode cX6_copies 12 = .ok (.bipush 120, 2) := by decide +kernel
theorem dX6_copies_14 : decode cX6_copies 14 = .ok (.iload_n 2, 1) := by decide +kernel
theorem dX6_copies_15 : decode cX6_copies 15 = .ok (.imul, 1) := by decide +kernel
theorem dX6_copies_16 : decode cX6_copies 16 = .ok (.iload_n 3, 1) := by decide +kernel
theorem dX6_copies_17 : decode cX6_copies 17 = .ok (.iadd, 1) := by decide +kernel
theorem dX6_copies_18 : decode cX6_copies 18 = .ok (.aload_n 0, 1) := by decide +kernel
theorem dX6_copies_19 : decode cX6_copies 19 = .ok (.getfield 19, 3) := by decide +kernel
theorem dX6_copies_22 : decode cX6_copies 22 = .ok (.bipush 120, 2) := by decide +kernel
theorem dX6_copies_24 : decode cX6_copies 24 = .ok (.iload_n 1, 1) := by decide +kernel
theorem dX6_copies_25 : decode cX6_copies 25 = .ok (.imul, 1) := by decide +kernel
theorem dX6_copies_26 : decode cX6_copies 26 = .ok (.iload_n 3, 1) := by decide +kernel
theorem dX6_copies_27 : decode cX6_copies 27 = .ok (.iadd, 1) := by decide +kernel
theorem dX6_copies_28 : decode cX6_copies 28 = .ok (.iaload, 1) := by decide +kernel
theorem dX6_copies_29 : decode cX6_copies 29 = .ok (.iastore, 1) := by decide +kernel
theorem dX6_copies_30 : decode cX6_copies 30 = .ok (.aload_n 0, 1) := by decide +kernel
theorem dX6_copies_31 : decode cX6_copies 31 = .ok (.getfield 22, 3) := by decide +kernel
theorem dX6_copies_34 : decode cX6_copies 34 = .ok (.bipush 120, 2) := by decide +kernel
theorem dX6_copies_36 : decode cX6_copies 36 = .ok (.iload_n 2, 1) := by decide +kernel
theorem dX6_copies_37 : decode cX6_copies 37 = .ok (.imul, 1) := by decide +kernel
theorem dX6_copies_38 : decode cX6_copies 38 = .ok (.iload_n 3, 1) := by decide +kernel
theorem dX6_copies_39 : decode cX6_copies 39 = .ok (.iadd, 1) := by decide +kernel
theorem dX6_copies_40 : decode cX6_copies 40 = .ok (.aload_n 0, 1) := by decide +kernel
theorem dX6_copies_41 : decode cX6_copies 41 = .ok (.getfield 22, 3) := by decide +kernel
theorem dX6_copies_44 : decode cX6_copies 44 = .ok (.bipush 120, 2) := by decide +kernel
theorem dX6_copies_46 : decode cX6_copies 46 = .ok (.iload_n 1, 1) := by decide +kernel
theorem dX6_copies_47 : decode cX6_copies 47 = .ok (.imul, 1) := by decide +kernel
theorem dX6_copies_48 : decode cX6_copies 48 = .ok (.iload_n 3, 1) := by decide +kernel
theorem dX6_copies_49 : decode cX6_copies 49 = .ok (.iadd, 1) := by decide +kernel
theorem dX6_copies_50 : decode cX6_copies 50 = .ok (.iaload, 1) := by decide +kernel
theorem dX6_copies_51 : decode cX6_copies 51 = .ok (.iastore, 1) := by decide +kernel
theorem dX6_copies_52 : decode cX6_copies 52 = .ok (.iinc 3 1, 3) := by decide +kernel
theorem dX6_copies_55 : decode cX6_copies 55 = .ok (.goto (-53), 3) := by decide +kernel
theorem dX6_copies_58 : decode cX6_copies 58 = .ok (.aload_n 0, 1) := by decide +kernel
theorem dX6_copies_59 : decode cX6_copies 59 = .ok (.getfield 25, 3) := by decide +kernel
theorem dX6_copies_62 : decode cX6_copies 62 = .ok (.iload_n 2, 1) := by decide +kernel
theorem dX6_copies_63 : decode cX6_copies 63 = .ok (.aload_n 0, 1) := by decide +kernel
theorem dX6_copies_64 : decode cX6_copies 64 = .ok (.getfield 25, 3) := by decide +kernel
theorem dX6_copies_67 : decode cX6_copies 67 = .ok (.iload_n 1, 1) := by decide +kernel
theorem dX6_copies_68 : decode cX6_copies 68 = .ok (.iaload, 1) := by decide +kernel
theorem dX6_copies_69 : decode cX6_copies 69 = .ok (.iastore, 1) := by decide +kernel
theorem dX6_copies_70 : decode cX6_copies 70 = .ok (.return_, 1) := by decide +kernel
set_option maxRecDepth 20000 in
theorem ggX6_undo_X6_becomes : GoodIn wsX6_undo wsX6_becomes := goodIn_r _ [13, 14, 4, 15, 16, 5, 17, 7, 18, 19, 20, 12, 21, 22, 23, 24, 25, 26, 27, 28, 29, 30, 31, 32, 33, 34, 35, 36, 37, 38, 39, 40, 41, 42, 43, 44, 45, 46, 47, 48, 49, 50, 51, 52, 53, 54, 55, 56, 57, 58, 59, 60, 61, 62, 63, 64, 65, 66, 67, 68, 69, 70, 71, 72] rfl (by decide +kernel)
set_option maxRecDepth 20000 in
theorem gX6_undo_X6_becomes : GoodIn wsX6_undo (wsV RX6 217 RX6 yX6_becomes wsX6_becomes) := goodIn_app (goodIn_r _ [9, 10, 11, 12] rfl (by decide +kernel)) ggX6_undo_X6_becomes
theorem dX6_undo_0 : decode cX6_undo 0 = .ok (.aload_n 0, 1) := by decide +kernel
theorem dX6_undo_1 : decode cX6_undo 1 = .ok (.iconst 0, 1) := by decide +kernel
theorem dX6_undo_2 : decode cX6_undo 2 = .ok (.putfield 72, 3) := by decide +kernel
theorem dX6_undo_5 : decode cX6_undo 5 = .ok (.aload_n 0, 1) := by decide +kernel
theorem dX6_undo_6 : decode cX6_undo 6 = .ok (.getfield 184, 3) := by decide +kernel
theorem dX6_undo_9 : decode cX6_undo 9 = .ok (.ifCond .ne 5, 3) := by decide +kernel
theorem dX6_undo_12 : decode cX6_undo 12 = .ok (.iconst (-1), 1) := by decide +kernel
theorem dX6_undo_13 : decode cX6_undo 13 = .ok (.ireturn, 1) := by decide +kernel
theorem dX6_undo_14 : decode cX6_undo 14 = .ok (.aload_n 0, 1) := by decide +kernel
theorem dX6_undo_15 : decode cX6_undo 15 = .ok (.dup, 1) := by decide +kernel
theorem dX6_undo_16 : decode cX6_undo 16 = .ok (.getfield 184, 3) := by decide +kernel
theorem dX6_undo_19 : decode cX6_undo 19 = .ok (.iconst 1, 1) := by decide +kernel
theorem dX6_undo_20 : decode cX6_undo 20 = .ok (.isub, 1) := by decide +kernel
theorem dX6_undo_21 : decode cX6_undo 21 = .ok (.putfield 184, 3) := by decide +kernel
theorem dX6_undo_24 : decode cX6_undo 24 = .ok (.aload_n 0, 1) := by decide +kernel
theorem dX6_undo_25 : decode cX6_undo 25 = .ok (.aload_n 0, 1) := by decide +kernel
theorem dX6_undo_26 : decode cX6_undo 26 = .ok (.getfield 25, 3) := by decide +kernel
theorem dX6_undo_29 : decode cX6_undo 29 = .ok (.aload_n 0, 1) := by decide +kernel
theorem dX6_undo_30 : decode cX6_undo 30 = .ok (.getfield 184, 3) := by decide +kernel
theorem dX6_undo_33 : decode cX6_undo 33 = .ok (.iaload, 1) := by decide +kernel
theorem dX6_undo_34 : decode cX6_undo 34 = .ok (.putfield 197, 3) := by decide +kernel
theorem dX6_undo_37 : decode cX6_undo 37 = .ok (.iconst 0, 1) := by decide +kernel
theorem dX6_undo_38 : decode cX6_undo 38 = .ok (.istore_n 1, 1) := by decide +kernel
theorem dX6_undo_39 : decode cX6_undo 39 = .ok (.iload_n 1, 1) := by decide +kernel
theorem dX6_undo_40 : decode cX6_undo 40 = .ok (.aload_n 0, 1) := by decide +kernel
theorem dX6_undo_41 : decode cX6_undo 41 = .ok (.getfield 197, 3) := by decide +kernel
theorem dX6_undo_44 : decode cX6_undo 44 = .ok (.if_icmp .ge 49, 3) := by decide +kernel
theorem dX6_undo_47 : decode cX6_undo 47 = .ok (.aload_n 0, 1) := by decide +kernel
theorem dX6_undo_48 : decode cX6_undo 48 = .ok (.getfield 41, 3) := by decide +kernel
theorem dX6_undo_51 : decode cX6_undo 51 = .ok (.iload_n 1, 1) := by decide +kernel
theorem dX6_undo_52 : decode cX6_undo 52 = .ok (.aload_n 0, 1) := by decide +kernel
theorem dX6_undo_53 : decode cX6_undo 53 = .ok (.getfield 19, 3) := by decide +kernel
theorem dX6_undo_56 : decode cX6_undo 56 = .ok (.bipush 120, 2) := by decide +kernel
theorem dX6_undo_58 : decode cX6_undo 58 = .ok (.aload_n 0, 1) := by decide +kernel
theorem dX6_undo_59 : decode cX6_undo 59 = .ok (.getfield 184, 3) := by decide +kernel
theorem dX6_undo_62 : decode cX6_undo 62 = .ok (.imul, 1) := by decide +kernel
theorem dX6_undo_63 : decode cX6_undo 63 = .ok (.iload_n 1, 1) := by decide +kernel
theorem dX6_undo_64 : decode cX6_undo 64 = .ok (.iadd, 1) := by decide +kernel
theorem dX6_undo_65 : decode cX6_undo 65 = .ok (.iaload, 1) := by decide +kernel
theorem dX6_undo_66 : decode cX6_undo 66 = .ok (.iastore, 1) := by decide +kernel
theorem dX6_undo_67 : decode cX6_undo 67 = .ok (.aload_n 0, 1) := by decide +kernel
theorem dX6_undo_68 : decode cX6_undo 68 = .ok (.getfield 44, 3) := by decide +kernel
theorem dX6_undo_71 : decode cX6_undo 71 = .ok (.iload_n 1, 1) := by decide +kernel
theorem dX6_undo_72 : decode cX6_undo 72 = .ok (.aload_n 0, 1) := by decide +kernel
theorem dX6_undo_73 : decode cX6_undo 73 = .ok (.getfield 22, 3) := by decide +kernel
theorem dX6_undo_76 : decode cX6_undo 76 = .ok (.bipush 120, 2) := by decide +kernel
theorem dX6_undo_78 : decode cX6_undo 78 = .ok (.aload_n 0, 1) := by decide +kernel
theorem dX6_undo_79 : decode cX6_undo 79 = .ok (.getfield 184, 3) := by decide +kernel
theorem dX6_undo_82 : decode cX6_undo 82 = .ok (.imul, 1) := by decide +kernel
theorem dX6_undo_83 : decode cX6_undo 83 = .ok (.iload_n 1, 1) := by decide +kernel
theorem dX6_undo_84 : decode cX6_undo 84 = .ok (.iadd, 1) := by decide +kernel
theorem dX6_undo_85 : decode cX6_undo 85 = .ok (.iaload, 1) := by decide +kernel
theorem dX6_undo_86 : decode cX6_undo 86 = .ok (.iastore, 1) := by decide +kernel
theorem dX6_undo_87 : decode cX6_undo 87 = .ok (.iinc 1 1, 3) := by decide +kernel
theorem dX6_undo_90 : decode cX6_undo 90 = .ok (.goto (-51), 3) := by decide +kernel
theorem dX6_undo_93 : decode cX6_undo 93 = .ok (.aload_n 0, 1) := by decide +kernel
theorem dX6_undo_94 : decode cX6_undo 94 = .ok (.invokevirtual 217, 3) := by decide +kernel
theorem dX6_undo_97 : decode cX6_undo 97 = .ok (.aload_n 0, 1) := by decide +kernel
theorem dX6_undo_98 : decode cX6_undo 98 = .ok (.getfield 184, 3) := by decide +kernel
theorem dX6_undo_101 : decode cX6_undo 101 = .ok (.ireturn, 1) := by decide +kernel
set_option maxRecDepth 20000 in
theorem ggX6_set_X6_isPlace : GoodIn wsX6_set wsX6_isPlace := goodIn_r _ [8, 9, 54, 55, 56, 57, 58, 59, 60, 61, 62, 63, 64, 65, 66, 67, 68, 69, 70, 71, 72, 73, 74, 75, 76, 77, 78, 79, 80, 81, 82, 83, 84, 85, 86, 87, 88, 89, 90, 91, 92, 93, 94, 95] rfl (by decide +kernel)
set_option maxRecDepth 20000 in
theorem gX6_set_X6_isPlace : GoodIn wsX6_set (wsV RX6 187 RX6 yX6_isPlace wsX6_isPlace) := goodIn_app (goodIn_r _ [4, 5, 6, 7] rfl (by decide +kernel)) ggX6_set_X6_isPlace
set_option maxRecDepth 20000 in
theorem ggX6_set_X6_isValue : GoodIn wsX6_set wsX6_isValue := goodIn_r _ [12] rfl (by decide +kernel)
set_option maxRecDepth 20000 in
theorem gX6_set_X6_isValue : GoodIn wsX6_set (va_wsS RX6 220 yX6_isValue wsX6_isValue) := goodIn_app (goodIn_r _ [10, 11, 7] rfl (by decide +kernel)) ggX6_set_X6_isValue
set_option maxRecDepth 20000 in
theorem ggX6_set_X6_begins : GoodIn wsX6_set wsX6_begins := goodIn_r _ [16, 9, 17, 3, 2, 18, 19, 54, 55, 56, 57, 58, 59, 60, 61, 62, 63, 64, 65, 66, 67, 68, 69, 70, 71, 72, 73, 74, 75, 76, 77, 78, 79, 80, 81, 82, 83, 84, 85, 86, 87, 88, 89, 90, 91, 92, 93, 94, 95] rfl (by decide +kernel)
set_option maxRecDepth 20000 in
theorem gX6_set_X6_begins : GoodIn wsX6_set (wsV RX6 223 RX6 yX6_begins wsX6_begins) := goodIn_app (goodIn_r _ [13, 14, 15, 7] rfl (by decide +kernel)) ggX6_set_X6_begins
set_option maxRecDepth 20000 in
theorem ggX6_set_X6_edits : GoodIn wsX6_set wsX6_edits := goodIn_r _ [23, 24, 9, 25, 2, 26, 19, 27, 28, 29, 30, 7, 31, 17, 3, 18, 32, 33, 34, 35, 36, 37, 38, 39, 40, 41, 42, 43, 44, 45, 46, 47, 48, 49, 50, 51, 52, 53, 54, 55, 56, 57, 58, 59, 60, 61, 62, 63, 64, 65, 66, 67, 68, 69, 70, 71, 72, 73, 74, 75, 76, 77, 78, 79, 80, 81, 82, 83, 84, 85, 86, 87, 88, 89, 90, 91, 92, 93, 94, 95] rfl (by decide +kernel)
set_option maxRecDepth 20000 in
theorem gX6_set_X6_edits : GoodIn wsX6_set (wsV RX6 226 RX6 yX6_edits wsX6_edits) := goodIn_app (goodIn_r _ [20, 21, 22, 7] rfl (by decide +kernel)) ggX6_set_X6_edits
theorem dX6_set_0 : decode cX6_set 0 = .ok (.aload_n 0, 1) := by decide +kernel
theorem dX6_set_1 : decode cX6_set 1 = .ok (.iconst 0, 1) := by decide +kernel
theorem dX6_set_2 : decode cX6_set 2 = .ok (.putfield 72, 3) := by decide +kernel
theorem dX6_set_5 : decode cX6_set 5 = .ok (.aload_n 0, 1) := by decide +kernel
theorem dX6_set_6 : decode cX6_set 6 = .ok (.iload_n 1, 1) := by decide +kernel
theorem dX6_set_7 : decode cX6_set 7 = .ok (.invokevirtual 187, 3) := by decide +kernel
theorem dX6_set_10 : decode cX6_set 10 = .ok (.ifCond .eq 10, 3) := by decide +kernel
theorem dX6_set_13 : decode cX6_set 13 = .ok (.iload_n 2, 1) := by decide +kernel
theorem dX6_set_14 : decode cX6_set 14 = .ok (.invokestatic 220, 3) := by decide +kernel
theorem dX6_set_17 : decode cX6_set 17 = .ok (.ifCond .ne 5, 3) := by decide +kernel
theorem dX6_set_20 : decode cX6_set 20 = .ok (.iconst (-1), 1) := by decide +kernel
theorem dX6_set_21 : decode cX6_set 21 = .ok (.ireturn, 1) := by decide +kernel
theorem dX6_set_22 : decode cX6_set 22 = .ok (.aload_n 0, 1) := by decide +kernel
theorem dX6_set_23 : decode cX6_set 23 = .ok (.getfield 13, 3) := by decide +kernel
theorem dX6_set_26 : decode cX6_set 26 = .ok (.iload_n 1, 1) := by decide +kernel
theorem dX6_set_27 : decode cX6_set 27 = .ok (.iaload, 1) := by decide +kernel
theorem dX6_set_28 : decode cX6_set 28 = .ok (.istore_n 3, 1) := by decide +kernel
theorem dX6_set_29 : decode cX6_set 29 = .ok (.aload_n 0, 1) := by decide +kernel
theorem dX6_set_30 : decode cX6_set 30 = .ok (.invokevirtual 223, 3) := by decide +kernel
theorem dX6_set_33 : decode cX6_set 33 = .ok (.aload_n 0, 1) := by decide +kernel
theorem dX6_set_34 : decode cX6_set 34 = .ok (.getfield 41, 3) := by decide +kernel
theorem dX6_set_37 : decode cX6_set 37 = .ok (.iload_n 1, 1) := by decide +kernel
theorem dX6_set_38 : decode cX6_set 38 = .ok (.iload_n 2, 1) := by decide +kernel
theorem dX6_set_39 : decode cX6_set 39 = .ok (.iastore, 1) := by decide +kernel
theorem dX6_set_40 : decode cX6_set 40 = .ok (.aload_n 0, 1) := by decide +kernel
theorem dX6_set_41 : decode cX6_set 41 = .ok (.invokevirtual 226, 3) := by decide +kernel
theorem dX6_set_44 : decode cX6_set 44 = .ok (.iload_n 3, 1) := by decide +kernel
theorem dX6_set_45 : decode cX6_set 45 = .ok (.ireturn, 1) := by decide +kernel
set_option maxRecDepth 20000 in
theorem ggX6_weigh_X6_isPlace : GoodIn wsX6_weigh wsX6_isPlace := goodIn_r _ [8, 9, 51, 52, 53, 54, 55, 56, 57, 58, 59, 60, 61, 62, 63, 64, 65, 66, 67, 68, 69, 70, 71, 72, 73, 74, 75, 76, 77, 78, 79, 80, 81, 82, 83, 84, 85, 86, 87, 88, 89, 90, 91, 92] rfl (by decide +kernel)
set_option maxRecDepth 20000 in
theorem gX6_weigh_X6_isPlace : GoodIn wsX6_weigh (wsV RX6 187 RX6 yX6_isPlace wsX6_isPlace) := goodIn_app (goodIn_r _ [4, 5, 6, 7] rfl (by decide +kernel)) ggX6_weigh_X6_isPlace
set_option maxRecDepth 20000 in
theorem ggX6_weigh_X6_begins : GoodIn wsX6_weigh wsX6_begins := goodIn_r _ [13, 9, 14, 15, 16, 3, 2, 51, 52, 53, 54, 55, 56, 57, 58, 59, 60, 61, 62, 63, 64, 65, 66, 67, 68, 69, 70, 71, 72, 73, 74, 75, 76, 77, 78, 79, 80, 81, 82, 83, 84, 85, 86, 87, 88, 89, 90, 91, 92] rfl (by decide +kernel)
set_option maxRecDepth 20000 in
theorem gX6_weigh_X6_begins : GoodIn wsX6_weigh (wsV RX6 223 RX6 yX6_begins wsX6_begins) := goodIn_app (goodIn_r _ [10, 11, 12, 7] rfl (by decide +kernel)) ggX6_weigh_X6_begins
set_option maxRecDepth 20000 in
theorem ggX6_weigh_X6_edits : GoodIn wsX6_weigh wsX6_edits := goodIn_r _ [20, 21, 9, 22, 16, 23, 2, 24, 25, 26, 27, 7, 28, 14, 15, 3, 29, 30, 31, 32, 33, 34, 35, 36, 37, 38, 39, 40, 41, 42, 43, 44, 45, 46, 47, 48, 49, 50, 51, 52, 53, 54, 55, 56, 57, 58, 59, 60, 61, 62, 63, 64, 65, 66, 67, 68, 69, 70, 71, 72, 73, 74, 75, 76, 77, 78, 79, 80, 81, 82, 83, 84, 85, 86, 87, 88, 89, 90, 91, 92] rfl (by decide +kernel)
set_option maxRecDepth 20000 in
theorem gX6_weigh_X6_edits : GoodIn wsX6_weigh (wsV RX6 226 RX6 yX6_edits wsX6_edits) := goodIn_app (goodIn_r _ [17, 18, 19, 7] rfl (by decide +kernel)) ggX6_weigh_X6_edits
theorem dX6_weigh_0 : decode cX6_weigh 0 = .ok (.aload_n 0, 1) := by decide +kernel
theorem dX6_weigh_1 : decode cX6_weigh 1 = .ok (.iconst 0, 1) := by decide +kernel
theorem dX6_weigh_2 : decode cX6_weigh 2 = .ok (.putfield 72, 3) := by decide +kernel
theorem dX6_weigh_5 : decode cX6_weigh 5 = .ok (.aload_n 0, 1) := by decide +kernel
theorem dX6_weigh_6 : decode cX6_weigh 6 = .ok (.iload_n 1, 1) := by decide +kernel
theorem dX6_weigh_7 : decode cX6_weigh 7 = .ok (.invokevirtual 187, 3) := by decide +kernel
theorem dX6_weigh_10 : decode cX6_weigh 10 = .ok (.ifCond .eq 14, 3) := by decide +kernel
theorem dX6_weigh_13 : decode cX6_weigh 13 = .ok (.iload_n 2, 1) := by decide +kernel
theorem dX6_weigh_14 : decode cX6_weigh 14 = .ok (.iconst 1, 1) := by decide +kernel
theorem dX6_weigh_15 : decode cX6_weigh 15 = .ok (.if_icmp .lt 9, 3) := by decide +kernel
theorem dX6_weigh_18 : decode cX6_weigh 18 = .ok (.iload_n 2, 1) := by decide +kernel
theorem dX6_weigh_19 : decode cX6_weigh 19 = .ok (.bipush 9, 2) := by decide +kernel
theorem dX6_weigh_21 : decode cX6_weigh 21 = .ok (.if_icmp .le 5, 3) := by decide +kernel
theorem dX6_weigh_24 : decode cX6_weigh 24 = .ok (.iconst (-1), 1) := by decide +kernel
theorem dX6_weigh_25 : decode cX6_weigh 25 = .ok (.ireturn, 1) := by decide +kernel
theorem dX6_weigh_26 : decode cX6_weigh 26 = .ok (.aload_n 0, 1) := by decide +kernel
theorem dX6_weigh_27 : decode cX6_weigh 27 = .ok (.getfield 16, 3) := by decide +kernel
theorem dX6_weigh_30 : decode cX6_weigh 30 = .ok (.iload_n 1, 1) := by decide +kernel
theorem dX6_weigh_31 : decode cX6_weigh 31 = .ok (.iaload, 1) := by decide +kernel
theorem dX6_weigh_32 : decode cX6_weigh 32 = .ok (.istore_n 3, 1) := by decide +kernel
theorem dX6_weigh_33 : decode cX6_weigh 33 = .ok (.aload_n 0, 1) := by decide +kernel
theorem dX6_weigh_34 : decode cX6_weigh 34 = .ok (.invokevirtual 223, 3) := by decide +kernel
theorem dX6_weigh_37 : decode cX6_weigh 37 = .ok (.aload_n 0, 1) := by decide +kernel
theorem dX6_weigh_38 : decode cX6_weigh 38 = .ok (.getfield 44, 3) := by decide +kernel
theorem dX6_weigh_41 : decode cX6_weigh 41 = .ok (.iload_n 1, 1) := by decide +kernel
theorem dX6_weigh_42 : decode cX6_weigh 42 = .ok (.iload_n 2, 1) := by decide +kernel
theorem dX6_weigh_43 : decode cX6_weigh 43 = .ok (.iastore, 1) := by decide +kernel
theorem dX6_weigh_44 : decode cX6_weigh 44 = .ok (.aload_n 0, 1) := by decide +kernel
theorem dX6_weigh_45 : decode cX6_weigh 45 = .ok (.invokevirtual 226, 3) := by decide +kernel
theorem dX6_weigh_48 : decode cX6_weigh 48 = .ok (.iload_n 3, 1) := by decide +kernel
theorem dX6_weigh_49 : decode cX6_weigh 49 = .ok (.ireturn, 1) := by decide +kernel
set_option maxRecDepth 20000 in
theorem ggX6_insert_X6_isValue : GoodIn wsX6_insert wsX6_isValue := goodIn_r _ [9] rfl (by decide +kernel)
set_option maxRecDepth 20000 in
theorem gX6_insert_X6_isValue : GoodIn wsX6_insert (va_wsS RX6 220 yX6_isValue wsX6_isValue) := goodIn_app (goodIn_r _ [6, 7, 8] rfl (by decide +kernel)) ggX6_insert_X6_isValue
set_option maxRecDepth 20000 in
theorem ggX6_insert_X6_begins : GoodIn wsX6_insert wsX6_begins := goodIn_r _ [13, 2, 5, 3, 14, 4, 15, 50, 51, 52, 53, 54, 55, 56, 57, 58, 59, 60, 61, 62, 63, 64, 65, 66, 67, 68, 69, 70, 71, 72, 73, 74, 75, 76, 77, 78, 79, 80, 81, 82, 83, 84, 85, 86, 87, 88, 89, 90, 91] rfl (by decide +kernel)
set_option maxRecDepth 20000 in
theorem gX6_insert_X6_begins : GoodIn wsX6_insert (wsV RX6 223 RX6 yX6_begins wsX6_begins) := goodIn_app (goodIn_r _ [10, 11, 12, 8] rfl (by decide +kernel)) ggX6_insert_X6_begins
set_option maxRecDepth 20000 in
theorem ggX6_insert_X6_edits : GoodIn wsX6_insert wsX6_edits := goodIn_r _ [19, 20, 2, 21, 14, 22, 15, 23, 24, 25, 26, 8, 27, 5, 3, 4, 28, 29, 30, 31, 32, 33, 34, 35, 36, 37, 38, 39, 40, 41, 42, 43, 44, 45, 46, 47, 48, 49, 50, 51, 52, 53, 54, 55, 56, 57, 58, 59, 60, 61, 62, 63, 64, 65, 66, 67, 68, 69, 70, 71, 72, 73, 74, 75, 76, 77, 78, 79, 80, 81, 82, 83, 84, 85, 86, 87, 88, 89, 90, 91] rfl (by decide +kernel)
set_option maxRecDepth 20000 in
theorem gX6_insert_X6_edits : GoodIn wsX6_insert (wsV RX6 226 RX6 yX6_edits wsX6_edits) := goodIn_app (goodIn_r _ [16, 17, 18, 8] rfl (by decide +kernel)) ggX6_insert_X6_edits
theorem dX6_insert_0 : decode cX6_insert 0 = .ok (.aload_n 0, 1) := by decide +kernel
theorem dX6_insert_1 : decode cX6_insert 1 = .ok (.iconst 0, 1) := by decide +kernel
theorem dX6_insert_2 : decode cX6_insert 2 = .ok (.putfield 72, 3) := by decide +kernel
theorem dX6_insert_5 : decode cX6_insert 5 = .ok (.iload_n 1, 1) := by decide +kernel
theorem dX6_insert_6 : decode cX6_insert 6 = .ok (.ifCond .lt 27, 3) := by decide +kernel
theorem dX6_insert_9 : decode cX6_insert 9 = .ok (.iload_n 1, 1) := by decide +kernel
theorem dX6_insert_10 : decode cX6_insert 10 = .ok (.aload_n 0, 1) := by decide +kernel
theorem dX6_insert_11 : decode cX6_insert 11 = .ok (.getfield 175, 3) := by decide +kernel
theorem dX6_insert_14 : decode cX6_insert 14 = .ok (.if_icmp .gt 19, 3) := by decide +kernel
theorem dX6_insert_17 : decode cX6_insert 17 = .ok (.iload_n 2, 1) := by decide +kernel
theorem dX6_insert_18 : decode cX6_insert 18 = .ok (.invokestatic 220, 3) := by decide +kernel
theorem dX6_insert_21 : decode cX6_insert 21 = .ok (.ifCond .eq 12, 3) := by decide +kernel
theorem dX6_insert_24 : decode cX6_insert 24 = .ok (.aload_n 0, 1) := by decide +kernel
theorem dX6_insert_25 : decode cX6_insert 25 = .ok (.getfield 175, 3) := by decide +kernel
theorem dX6_insert_28 : decode cX6_insert 28 = .ok (.bipush 120, 2) := by decide +kernel
theorem dX6_insert_30 : decode cX6_insert 30 = .ok (.if_icmp .ne 5, 3) := by decide +kernel
theorem dX6_insert_33 : decode cX6_insert 33 = .ok (.iconst (-1), 1) := by decide +kernel
theorem dX6_insert_34 : decode cX6_insert 34 = .ok (.ireturn, 1) := by decide +kernel
theorem dX6_insert_35 : decode cX6_insert 35 = .ok (.aload_n 0, 1) := by decide +kernel
theorem dX6_insert_36 : decode cX6_insert 36 = .ok (.invokevirtual 223, 3) := by decide +kernel
theorem dX6_insert_39 : decode cX6_insert 39 = .ok (.aload_n 0, 1) := by decide +kernel
theorem dX6_insert_40 : decode cX6_insert 40 = .ok (.getfield 175, 3) := by decide +kernel
theorem dX6_insert_43 : decode cX6_insert 43 = .ok (.istore_n 3, 1) := by decide +kernel
theorem dX6_insert_44 : decode cX6_insert 44 = .ok (.iload_n 3, 1) := by decide +kernel
theorem dX6_insert_45 : decode cX6_insert 45 = .ok (.iload_n 1, 1) := by decide +kernel
theorem dX6_insert_46 : decode cX6_insert 46 = .ok (.if_icmp .le 37, 3) := by decide +kernel
theorem dX6_insert_49 : decode cX6_insert 49 = .ok (.aload_n 0, 1) := by decide +kernel
theorem dX6_insert_50 : decode cX6_insert 50 = .ok (.getfield 41, 3) := by decide +kernel
theorem dX6_insert_53 : decode cX6_insert 53 = .ok (.iload_n 3, 1) := by decide +kernel
theorem dX6_insert_54 : decode cX6_insert 54 = .ok (.aload_n 0, 1) := by decide +kernel
theorem dX6_insert_55 : decode cX6_insert 55 = .ok (.getfield 41, 3) := by decide +kernel
theorem dX6_insert_58 : decode cX6_insert 58 = .ok (.iload_n 3, 1) := by decide +kernel
theorem dX6_insert_59 : decode cX6_insert 59 = .ok (.iconst 1, 1) := by decide +kernel
theorem dX6_insert_60 : decode cX6_insert 60 = .ok (.isub, 1) := by decide +kernel
theorem dX6_insert_61 : decode cX6_insert 61 = .ok (.iaload, 1) := by decide +kernel
theorem dX6_insert_62 : decode cX6_insert 62 = .ok (.iastore, 1) := by decide +kernel
theorem dX6_insert_63 : decode cX6_insert 63 = .ok (.aload_n 0, 1) := by decide +kernel
theorem dX6_insert_64 : decode cX6_insert 64 = .ok (.getfield 44, 3) := by decide +kernel
theorem dX6_insert_67 : decode cX6_insert 67 = .ok (.iload_n 3, 1) := by decide +kernel
theorem dX6_insert_68 : decode cX6_insert 68 = .ok (.aload_n 0, 1) := by decide +kernel
theorem dX6_insert_69 : decode cX6_insert 69 = .ok (.getfield 44, 3) := by decide +kernel
theorem dX6_insert_72 : decode cX6_insert 72 = .ok (.iload_n 3, 1) := by decide +kernel
theorem dX6_insert_73 : decode cX6_insert 73 = .ok (.iconst 1, 1) := by decide +kernel
theorem dX6_insert_74 : decode cX6_insert 74 = .ok (.isub, 1) := by decide +kernel
theorem dX6_insert_75 : decode cX6_insert 75 = .ok (.iaload, 1) := by decide +kernel
theorem dX6_insert_76 : decode cX6_insert 76 = .ok (.iastore, 1) := by decide +kernel
theorem dX6_insert_77 : decode cX6_insert 77 = .ok (.iinc 3 (-1), 3) := by decide +kernel
theorem dX6_insert_80 : decode cX6_insert 80 = .ok (.goto (-36), 3) := by decide +kernel
theorem dX6_insert_83 : decode cX6_insert 83 = .ok (.aload_n 0, 1) := by decide +kernel
theorem dX6_insert_84 : decode cX6_insert 84 = .ok (.getfield 41, 3) := by decide +kernel
theorem dX6_insert_87 : decode cX6_insert 87 = .ok (.iload_n 1, 1) := by decide +kernel
theorem dX6_insert_88 : decode cX6_insert 88 = .ok (.iload_n 2, 1) := by decide +kernel
theorem dX6_insert_89 : decode cX6_insert 89 = .ok (.iastore, 1) := by decide +kernel
theorem dX6_insert_90 : decode cX6_insert 90 = .ok (.aload_n 0, 1) := by decide +kernel
theorem dX6_insert_91 : decode cX6_insert 91 = .ok (.getfield 44, 3) := by decide +kernel
theorem dX6_insert_94 : decode cX6_insert 94 = .ok (.iload_n 1, 1) := by decide +kernel
theorem dX6_insert_95 : decode cX6_insert 95 = .ok (.iconst 1, 1) := by decide +kernel
theorem dX6_insert_96 : decode cX6_insert 96 = .ok (.iastore, 1) := by decide +kernel
theorem dX6_insert_97 : decode cX6_insert 97 = .ok (.aload_n 0, 1) := by decide +kernel
theorem dX6_insert_98 : decode cX6_insert 98 = .ok (.dup, 1) := by decide +kernel
theorem dX6_insert_99 : decode cX6_insert 99 = .ok (.getfield 197, 3) := by decide +kernel
theorem dX6_insert_102 : decode cX6_insert 102 = .ok (.iconst 1, 1) := by decide +kernel
theorem dX6_insert_103 : decode cX6_insert 103 = .ok (.iadd, 1) := by decide +kernel
theorem dX6_insert_104 : decode cX6_insert 104 = .ok (.putfield 197, 3) := by decide +kernel
theorem dX6_insert_107 : decode cX6_insert 107 = .ok (.aload_n 0, 1) := by decide +kernel
theorem dX6_insert_108 : decode cX6_insert 108 = .ok (.invokevirtual 226, 3) := by decide +kernel
theorem dX6_insert_111 : decode cX6_insert 111 = .ok (.aload_n 0, 1) := by decide +kernel
theorem dX6_insert_112 : decode cX6_insert 112 = .ok (.getfield 175, 3) := by decide +kernel
theorem dX6_insert_115 : decode cX6_insert 115 = .ok (.ireturn, 1) := by decide +kernel
set_option maxRecDepth 20000 in
theorem ggX6_remove_X6_isPlace : GoodIn wsX6_remove wsX6_isPlace := goodIn_r _ [11, 3, 51, 52, 53, 54, 55, 56, 57, 58, 59, 60, 61, 62, 63, 64, 65, 66, 67, 68, 69, 70, 71, 72, 73, 74, 75, 76, 77, 78, 79, 80, 81, 82, 83, 84, 85, 86, 87, 88, 89, 90, 91, 92] rfl (by decide +kernel)
set_option maxRecDepth 20000 in
theorem gX6_remove_X6_isPlace : GoodIn wsX6_remove (wsV RX6 187 RX6 yX6_isPlace wsX6_isPlace) := goodIn_app (goodIn_r _ [7, 8, 9, 10] rfl (by decide +kernel)) ggX6_remove_X6_isPlace
set_option maxRecDepth 20000 in
theorem ggX6_remove_X6_begins : GoodIn wsX6_remove wsX6_begins := goodIn_r _ [15, 3, 6, 4, 2, 5, 16, 51, 52, 53, 54, 55, 56, 57, 58, 59, 60, 61, 62, 63, 64, 65, 66, 67, 68, 69, 70, 71, 72, 73, 74, 75, 76, 77, 78, 79, 80, 81, 82, 83, 84, 85, 86, 87, 88, 89, 90, 91, 92] rfl (by decide +kernel)
set_option maxRecDepth 20000 in
theorem gX6_remove_X6_begins : GoodIn wsX6_remove (wsV RX6 223 RX6 yX6_begins wsX6_begins) := goodIn_app (goodIn_r _ [12, 13, 14, 10] rfl (by decide +kernel)) ggX6_remove_X6_begins
set_option maxRecDepth 20000 in
theorem ggX6_remove_X6_edits : GoodIn wsX6_remove wsX6_edits := goodIn_r _ [20, 21, 3, 22, 2, 23, 16, 24, 25, 26, 27, 10, 28, 6, 4, 5, 29, 30, 31, 32, 33, 34, 35, 36, 37, 38, 39, 40, 41, 42, 43, 44, 45, 46, 47, 48, 49, 50, 51, 52, 53, 54, 55, 56, 57, 58, 59, 60, 61, 62, 63, 64, 65, 66, 67, 68, 69, 70, 71, 72, 73, 74, 75, 76, 77, 78, 79, 80, 81, 82, 83, 84, 85, 86, 87, 88, 89, 90, 91, 92] rfl (by decide +kernel)
set_option maxRecDepth 20000 in
theorem gX6_remove_X6_edits : GoodIn wsX6_remove (wsV RX6 226 RX6 yX6_edits wsX6_edits) := goodIn_app (goodIn_r _ [17, 18, 19, 10] rfl (by decide +kernel)) ggX6_remove_X6_edits
theorem dX6_remove_0 : decode cX6_remove 0 = .ok (.aload_n 0, 1) := by decide +kernel
theorem dX6_remove_1 : decode cX6_remove 1 = .ok (.iconst 0, 1) := by decide +kernel
theorem dX6_remove_2 : decode cX6_remove 2 = .ok (.putfield 72, 3) := by decide +kernel
theorem dX6_remove_5 : decode cX6_remove 5 = .ok (.aload_n 0, 1) := by decide +kernel
theorem dX6_remove_6 : decode cX6_remove 6 = .ok (.iload_n 1, 1) := by decide +kernel
theorem dX6_remove_7 : decode cX6_remove 7 = .ok (.invokevirtual 187, 3) := by decide +kernel
theorem dX6_remove_10 : decode cX6_remove 10 = .ok (.ifCond .ne 5, 3) := by decide +kernel
theorem dX6_remove_13 : decode cX6_remove 13 = .ok (.iconst (-1), 1) := by decide +kernel
theorem dX6_remove_14 : decode cX6_remove 14 = .ok (.ireturn, 1) := by decide +kernel
theorem dX6_remove_15 : decode cX6_remove 15 = .ok (.aload_n 0, 1) := by decide +kernel
theorem dX6_remove_16 : decode cX6_remove 16 = .ok (.getfield 13, 3) := by decide +kernel
theorem dX6_remove_19 : decode cX6_remove 19 = .ok (.iload_n 1, 1) := by decide +kernel
theorem dX6_remove_20 : decode cX6_remove 20 = .ok (.iaload, 1) := by decide +kernel
theorem dX6_remove_21 : decode cX6_remove 21 = .ok (.istore_n 2, 1) := by decide +kernel
theorem dX6_remove_22 : decode cX6_remove 22 = .ok (.aload_n 0, 1) := by decide +kernel
theorem dX6_remove_23 : decode cX6_remove 23 = .ok (.invokevirtual 223, 3) := by decide +kernel
theorem dX6_remove_26 : decode cX6_remove 26 = .ok (.iload_n 1, 1) := by decide +kernel
theorem dX6_remove_27 : decode cX6_remove 27 = .ok (.istore_n 3, 1) := by decide +kernel
theorem dX6_remove_28 : decode cX6_remove 28 = .ok (.iload_n 3, 1) := by decide +kernel
theorem dX6_remove_29 : decode cX6_remove 29 = .ok (.iconst 1, 1) := by decide +kernel
theorem dX6_remove_30 : decode cX6_remove 30 = .ok (.iadd, 1) := by decide +kernel
theorem dX6_remove_31 : decode cX6_remove 31 = .ok (.aload_n 0, 1) := by decide +kernel
theorem dX6_remove_32 : decode cX6_remove 32 = .ok (.getfield 175, 3) := by decide +kernel
theorem dX6_remove_35 : decode cX6_remove 35 = .ok (.if_icmp .ge 37, 3) := by decide +kernel
theorem dX6_remove_38 : decode cX6_remove 38 = .ok (.aload_n 0, 1) := by decide +kernel
theorem dX6_remove_39 : decode cX6_remove 39 = .ok (.getfield 41, 3) := by decide +kernel
theorem dX6_remove_42 : decode cX6_remove 42 = .ok (.iload_n 3, 1) := by decide +kernel
theorem dX6_remove_43 : decode cX6_remove 43 = .ok (.aload_n 0, 1) := by decide +kernel
theorem dX6_remove_44 : decode cX6_remove 44 = .ok (.getfield 41, 3) := by decide +kernel
theorem dX6_remove_47 : decode cX6_remove 47 = .ok (.iload_n 3, 1) := by decide +kernel
theorem dX6_remove_48 : decode cX6_remove 48 = .ok (.iconst 1, 1) := by decide +kernel
theorem dX6_remove_49 : decode cX6_remove 49 = .ok (.iadd, 1) := by decide +kernel
theorem dX6_remove_50 : decode cX6_remove 50 = .ok (.iaload, 1) := by decide +kernel
theorem dX6_remove_51 : decode cX6_remove 51 = .ok (.iastore, 1) := by decide +kernel
theorem dX6_remove_52 : decode cX6_remove 52 = .ok (.aload_n 0, 1) := by decide +kernel
theorem dX6_remove_53 : decode cX6_remove 53 = .ok (.getfield 44, 3) := by decide +kernel
theorem dX6_remove_56 : decode cX6_remove 56 = .ok (.iload_n 3, 1) := by decide +kernel
theorem dX6_remove_57 : decode cX6_remove 57 = .ok (.aload_n 0, 1) := by decide +kernel
theorem dX6_remove_58 : decode cX6_remove 58 = .ok (.getfield 44, 3) := by decide +kernel
theorem dX6_remove_61 : decode cX6_remove 61 = .ok (.iload_n 3, 1) := by decide +kernel
theorem dX6_remove_62 : decode cX6_remove 62 = .ok (.iconst 1, 1) := by decide +kernel
theorem dX6_remove_63 : decode cX6_remove 63 = .ok (.iadd, 1) := by decide +kernel
theorem dX6_remove_64 : decode cX6_remove 64 = .ok (.iaload, 1) := by decide +kernel
theorem dX6_remove_65 : decode cX6_remove 65 = .ok (.iastore, 1) := by decide +kernel
theorem dX6_remove_66 : decode cX6_remove 66 = .ok (.iinc 3 1, 3) := by decide +kernel
theorem dX6_remove_69 : decode cX6_remove 69 = .ok (.goto (-41), 3) := by decide +kernel
theorem dX6_remove_72 : decode cX6_remove 72 = .ok (.aload_n 0, 1) := by decide +kernel
theorem dX6_remove_73 : decode cX6_remove 73 = .ok (.dup, 1) := by decide +kernel
theorem dX6_remove_74 : decode cX6_remove 74 = .ok (.getfield 197, 3) := by decide +kernel
theorem dX6_remove_77 : decode cX6_remove 77 = .ok (.iconst 1, 1) := by decide +kernel
theorem dX6_remove_78 : decode cX6_remove 78 = .ok (.isub, 1) := by decide +kernel
theorem dX6_remove_79 : decode cX6_remove 79 = .ok (.putfield 197, 3) := by decide +kernel
theorem dX6_remove_82 : decode cX6_remove 82 = .ok (.aload_n 0, 1) := by decide +kernel
theorem dX6_remove_83 : decode cX6_remove 83 = .ok (.invokevirtual 226, 3) := by decide +kernel
theorem dX6_remove_86 : decode cX6_remove 86 = .ok (.iload_n 2, 1) := by decide +kernel
theorem dX6_remove_87 : decode cX6_remove 87 = .ok (.ireturn, 1) := by decide +kernel
set_option maxRecDepth 20000 in
theorem ggX6_done_X6_others : GoodIn wsX6_done wsX6_others := goodIn_r _ [5, 6, 7, 8, 46, 47, 48, 49, 50, 51, 52, 53, 54, 55, 56, 57, 58, 59, 60, 61, 62, 63, 64, 65, 66, 67, 68, 69, 70, 71, 72, 73, 74, 75, 76, 77, 78, 79, 80, 81, 82, 83, 84, 85, 86, 87] rfl (by decide +kernel)
set_option maxRecDepth 20000 in
theorem gX6_done_X6_others : GoodIn wsX6_done (wsV RX6 229 RX6 yX6_others wsX6_others) := goodIn_app (goodIn_r _ [1, 2, 3, 4] rfl (by decide +kernel)) ggX6_done_X6_others
set_option maxRecDepth 20000 in
theorem ggX6_done_X6_edits : GoodIn wsX6_done wsX6_edits := goodIn_r _ [12, 13, 6, 14, 8, 15, 16, 17, 18, 19, 20, 4, 21, 22, 7, 23, 24, 25, 26, 27, 28, 29, 30, 31, 32, 33, 34, 35, 36, 37, 38, 39, 40, 41, 42, 43, 44, 45, 46, 47, 48, 49, 50, 51, 52, 53, 54, 55, 56, 57, 58, 59, 60, 61, 62, 63, 64, 65, 66, 67, 68, 69, 70, 71, 72, 73, 74, 75, 76, 77, 78, 79, 80, 81, 82, 83, 84, 85, 86, 87] rfl (by decide +kernel)
set_option maxRecDepth 20000 in
theorem gX6_done_X6_edits : GoodIn wsX6_done (wsV RX6 226 RX6 yX6_edits wsX6_edits) := goodIn_app (goodIn_r _ [9, 10, 11, 4] rfl (by decide +kernel)) ggX6_done_X6_edits
theorem dX6_done_0 : decode cX6_done 0 = .ok (.aload_n 0, 1) := by decide +kernel
theorem dX6_done_1 : decode cX6_done 1 = .ok (.invokevirtual 229, 3) := by decide +kernel
theorem dX6_done_4 : decode cX6_done 4 = .ok (.istore_n 1, 1) := by decide +kernel
theorem dX6_done_5 : decode cX6_done 5 = .ok (.aload_n 0, 1) := by decide +kernel
theorem dX6_done_6 : decode cX6_done 6 = .ok (.invokevirtual 226, 3) := by decide +kernel
theorem dX6_done_9 : decode cX6_done 9 = .ok (.iload_n 1, 1) := by decide +kernel
theorem dX6_done_10 : decode cX6_done 10 = .ok (.ireturn, 1) := by decide +kernel
set_option maxRecDepth 20000 in
theorem ggX6_fill_X6_isSpan : GoodIn wsX6_fill wsX6_isSpan := goodIn_r _ [7, 8, 62, 63, 64, 65, 66, 67, 68, 69, 70, 71, 72, 73, 74, 75, 76, 77, 78, 79, 80, 81, 82, 83, 84, 85, 86, 87, 88, 89, 90, 91, 92, 93, 94, 95, 96, 97, 98, 99, 100, 101, 102, 103] rfl (by decide +kernel)
set_option maxRecDepth 20000 in
theorem gX6_fill_X6_isSpan : GoodIn wsX6_fill (wsV RX6 232 RX6 yX6_isSpan wsX6_isSpan) := goodIn_app (goodIn_r _ [3, 4, 5, 6] rfl (by decide +kernel)) ggX6_fill_X6_isSpan
set_option maxRecDepth 20000 in
theorem ggX6_fill_X6_isValue : GoodIn wsX6_fill wsX6_isValue := goodIn_r _ [11] rfl (by decide +kernel)
set_option maxRecDepth 20000 in
theorem gX6_fill_X6_isValue : GoodIn wsX6_fill (va_wsS RX6 220 yX6_isValue wsX6_isValue) := goodIn_app (goodIn_r _ [9, 10, 6] rfl (by decide +kernel)) ggX6_fill_X6_isValue
set_option maxRecDepth 20000 in
theorem ggX6_fill_X6_begins : GoodIn wsX6_fill wsX6_begins := goodIn_r _ [15, 8, 16, 2, 17, 18, 19, 62, 63, 64, 65, 66, 67, 68, 69, 70, 71, 72, 73, 74, 75, 76, 77, 78, 79, 80, 81, 82, 83, 84, 85, 86, 87, 88, 89, 90, 91, 92, 93, 94, 95, 96, 97, 98, 99, 100, 101, 102, 103] rfl (by decide +kernel)
set_option maxRecDepth 20000 in
theorem gX6_fill_X6_begins : GoodIn wsX6_fill (wsV RX6 223 RX6 yX6_begins wsX6_begins) := goodIn_app (goodIn_r _ [12, 13, 14, 6] rfl (by decide +kernel)) ggX6_fill_X6_begins
set_option maxRecDepth 20000 in
theorem ggX6_fill_X6_done : GoodIn wsX6_fill wsX6_done := goodIn_r _ [23, 24, 25, 26, 6, 27, 8, 2, 17, 28, 29, 30, 31, 32, 33, 34, 19, 35, 36, 37, 38, 39, 16, 18, 40, 41, 42, 43, 44, 45, 46, 47, 48, 49, 50, 51, 52, 53, 54, 55, 56, 57, 58, 59, 60, 61, 62, 63, 64, 65, 66, 67, 68, 69, 70, 71, 72, 73, 74, 75, 76, 77, 78, 79, 80, 81, 82, 83, 84, 85, 86, 87, 88, 89, 90, 91, 92, 93, 94, 95, 96, 97, 98, 99, 100, 101, 102, 103] rfl (by decide +kernel)
set_option maxRecDepth 20000 in
theorem gX6_fill_X6_done : GoodIn wsX6_fill (wsV RX6 236 RX6 yX6_done wsX6_done) := goodIn_app (goodIn_r _ [20, 21, 22, 6] rfl (by decide +kernel)) ggX6_fill_X6_done
theorem dX6_fill_0 : decode cX6_fill 0 = .ok (.aload_n 0, 1) := by decide +kernel
theorem dX6_fill_1 : decode cX6_fill 1 = .ok (.iconst 0, 1) := by decide +kernel
theorem dX6_fill_2 : decode cX6_fill 2 = .ok (.putfield 72, 3) := by decide +kernel
theorem dX6_fill_5 : decode cX6_fill 5 = .ok (.aload_n 0, 1) := by decide +kernel
theorem dX6_fill_6 : decode cX6_fill 6 = .ok (.iload_n 1, 1) := by decide +kernel
theorem dX6_fill_7 : decode cX6_fill 7 = .ok (.iload_n 2, 1) := by decide +kernel
theorem dX6_fill_8 : decode cX6_fill 8 = .ok (.invokevirtual 232, 3) := by decide +kernel
theorem dX6_fill_11 : decode cX6_fill 11 = .ok (.ifCond .eq 10, 3) := by decide +kernel
theorem dX6_fill_14 : decode cX6_fill 14 = .ok (.iload_n 3, 1) := by decide +kernel
theorem dX6_fill_15 : decode cX6_fill 15 = .ok (.invokestatic 220, 3) := by decide +kernel
theorem dX6_fill_18 : decode cX6_fill 18 = .ok (.ifCond .ne 5, 3) := by decide +kernel
theorem dX6_fill_21 : decode cX6_fill 21 = .ok (.iconst (-1), 1) := by decide +kernel
theorem dX6_fill_22 : decode cX6_fill 22 = .ok (.ireturn, 1) := by decide +kernel
theorem dX6_fill_23 : decode cX6_fill 23 = .ok (.aload_n 0, 1) := by decide +kernel
theorem dX6_fill_24 : decode cX6_fill 24 = .ok (.invokevirtual 223, 3) := by decide +kernel
theorem dX6_fill_27 : decode cX6_fill 27 = .ok (.iload_n 1, 1) := by decide +kernel
theorem dX6_fill_28 : decode cX6_fill 28 = .ok (.istore 4, 2) := by decide +kernel
theorem dX6_fill_30 : decode cX6_fill 30 = .ok (.iload 4, 2) := by decide +kernel
theorem dX6_fill_32 : decode cX6_fill 32 = .ok (.iload_n 2, 1) := by decide +kernel
theorem dX6_fill_33 : decode cX6_fill 33 = .ok (.if_icmp .gt 17, 3) := by decide +kernel
theorem dX6_fill_36 : decode cX6_fill 36 = .ok (.aload_n 0, 1) := by decide +kernel
theorem dX6_fill_37 : decode cX6_fill 37 = .ok (.getfield 41, 3) := by decide +kernel
theorem dX6_fill_40 : decode cX6_fill 40 = .ok (.iload 4, 2) := by decide +kernel
theorem dX6_fill_42 : decode cX6_fill 42 = .ok (.iload_n 3, 1) := by decide +kernel
theorem dX6_fill_43 : decode cX6_fill 43 = .ok (.iastore, 1) := by decide +kernel
theorem dX6_fill_44 : decode cX6_fill 44 = .ok (.iinc 4 1, 3) := by decide +kernel
theorem dX6_fill_47 : decode cX6_fill 47 = .ok (.goto (-17), 3) := by decide +kernel
theorem dX6_fill_50 : decode cX6_fill 50 = .ok (.aload_n 0, 1) := by decide +kernel
theorem dX6_fill_51 : decode cX6_fill 51 = .ok (.invokevirtual 236, 3) := by decide +kernel
theorem dX6_fill_54 : decode cX6_fill 54 = .ok (.ireturn, 1) := by decide +kernel
theorem dX6_lies_0 : decode cX6_lies 0 = .ok (.aload_n 0, 1) := by decide +kernel
theorem dX6_lies_1 : decode cX6_lies 1 = .ok (.getfield 41, 3) := by decide +kernel
theorem dX6_lies_4 : decode cX6_lies 4 = .ok (.iload_n 2, 1) := by decide +kernel
theorem dX6_lies_5 : decode cX6_lies 5 = .ok (.aload_n 0, 1) := by decide +kernel
theorem dX6_lies_6 : decode cX6_lies 6 = .ok (.getfield 13, 3) := by decide +kernel
theorem dX6_lies_9 : decode cX6_lies 9 = .ok (.iload_n 1, 1) := by decide +kernel
theorem dX6_lies_10 : decode cX6_lies 10 = .ok (.iaload, 1) := by decide +kernel
theorem dX6_lies_11 : decode cX6_lies 11 = .ok (.iastore, 1) := by decide +kernel
theorem dX6_lies_12 : decode cX6_lies 12 = .ok (.aload_n 0, 1) := by decide +kernel
theorem dX6_lies_13 : decode cX6_lies 13 = .ok (.getfield 44, 3) := by decide +kernel
theorem dX6_lies_16 : decode cX6_lies 16 = .ok (.iload_n 2, 1) := by decide +kernel
theorem dX6_lies_17 : decode cX6_lies 17 = .ok (.aload_n 0, 1) := by decide +kernel
theorem dX6_lies_18 : decode cX6_lies 18 = .ok (.getfield 16, 3) := by decide +kernel
theorem dX6_lies_21 : decode cX6_lies 21 = .ok (.iload_n 1, 1) := by decide +kernel
theorem dX6_lies_22 : decode cX6_lies 22 = .ok (.iaload, 1) := by decide +kernel
theorem dX6_lies_23 : decode cX6_lies 23 = .ok (.iastore, 1) := by decide +kernel
theorem dX6_lies_24 : decode cX6_lies 24 = .ok (.return_, 1) := by decide +kernel
set_option maxRecDepth 20000 in
theorem ggX6_swap_X6_isPlace : GoodIn wsX6_swap wsX6_isPlace := goodIn_r _ [6, 7, 55, 56, 57, 58, 59, 60, 61, 62, 63, 64, 65, 66, 67, 68, 69, 70, 71, 72, 73, 74, 75, 76, 77, 78, 79, 80, 81, 82, 83, 84, 85, 86, 87, 88, 89, 90, 91, 92, 93, 94, 95, 96] rfl (by decide +kernel)
set_option maxRecDepth 20000 in
theorem gX6_swap_X6_isPlace : GoodIn wsX6_swap (wsV RX6 187 RX6 yX6_isPlace wsX6_isPlace) := goodIn_app (goodIn_r _ [2, 3, 4, 5] rfl (by decide +kernel)) ggX6_swap_X6_isPlace
set_option maxRecDepth 20000 in
theorem ggX6_swap_X6_begins : GoodIn wsX6_swap wsX6_begins := goodIn_r _ [11, 7, 12, 13, 14, 15, 16, 55, 56, 57, 58, 59, 60, 61, 62, 63, 64, 65, 66, 67, 68, 69, 70, 71, 72, 73, 74, 75, 76, 77, 78, 79, 80, 81, 82, 83, 84, 85, 86, 87, 88, 89, 90, 91, 92, 93, 94, 95, 96] rfl (by decide +kernel)
set_option maxRecDepth 20000 in
theorem gX6_swap_X6_begins : GoodIn wsX6_swap (wsV RX6 223 RX6 yX6_begins wsX6_begins) := goodIn_app (goodIn_r _ [8, 9, 10, 5] rfl (by decide +kernel)) ggX6_swap_X6_begins
set_option maxRecDepth 20000 in
theorem ggX6_swap_X6_lies : GoodIn wsX6_swap wsX6_lies := goodIn_r _ [20, 13, 14, 15, 16, 55, 56, 57, 58, 59, 60, 61, 62, 63, 64, 65, 66, 67, 68, 69, 70, 71, 72, 73, 74, 75, 76, 77, 78, 79, 80, 81, 82, 83, 84, 85, 86, 87, 88, 89, 90, 91, 92, 93, 94, 95, 96] rfl (by decide +kernel)
set_option maxRecDepth 20000 in
theorem gX6_swap_X6_lies : GoodIn wsX6_swap (wsV RX6 239 RX6 yX6_lies wsX6_lies) := goodIn_app (goodIn_r _ [17, 18, 19, 5] rfl (by decide +kernel)) ggX6_swap_X6_lies
set_option maxRecDepth 20000 in
theorem ggX6_swap_X6_edits : GoodIn wsX6_swap wsX6_edits := goodIn_r _ [24, 25, 7, 26, 14, 27, 16, 28, 29, 30, 31, 5, 32, 12, 13, 15, 33, 34, 35, 36, 37, 38, 39, 40, 41, 42, 43, 44, 45, 46, 47, 48, 49, 50, 51, 52, 53, 54, 55, 56, 57, 58, 59, 60, 61, 62, 63, 64, 65, 66, 67, 68, 69, 70, 71, 72, 73, 74, 75, 76, 77, 78, 79, 80, 81, 82, 83, 84, 85, 86, 87, 88, 89, 90, 91, 92, 93, 94, 95, 96] rfl (by decide +kernel)
set_option maxRecDepth 20000 in
theorem gX6_swap_X6_edits : GoodIn wsX6_swap (wsV RX6 226 RX6 yX6_edits wsX6_edits) := goodIn_app (goodIn_r _ [21, 22, 23, 5] rfl (by decide +kernel)) ggX6_swap_X6_edits
theorem dX6_swap_0 : decode cX6_swap 0 = .ok (.aload_n 0, 1) := by decide +kernel
theorem dX6_swap_1 : decode cX6_swap 1 = .ok (.iconst 0, 1) := by decide +kernel
theorem dX6_swap_2 : decode cX6_swap 2 = .ok (.putfield 72, 3) := by decide +kernel
theorem dX6_swap_5 : decode cX6_swap 5 = .ok (.aload_n 0, 1) := by decide +kernel
theorem dX6_swap_6 : decode cX6_swap 6 = .ok (.iload_n 1, 1) := by decide +kernel
theorem dX6_swap_7 : decode cX6_swap 7 = .ok (.invokevirtual 187, 3) := by decide +kernel
theorem dX6_swap_10 : decode cX6_swap 10 = .ok (.ifCond .eq 16, 3) := by decide +kernel
theorem dX6_swap_13 : decode cX6_swap 13 = .ok (.aload_n 0, 1) := by decide +kernel
theorem dX6_swap_14 : decode cX6_swap 14 = .ok (.iload_n 2, 1) := by decide +kernel
theorem dX6_swap_15 : decode cX6_swap 15 = .ok (.invokevirtual 187, 3) := by decide +kernel
theorem dX6_swap_18 : decode cX6_swap 18 = .ok (.ifCond .eq 8, 3) := by decide +kernel
theorem dX6_swap_21 : decode cX6_swap 21 = .ok (.iload_n 1, 1) := by decide +kernel
theorem dX6_swap_22 : decode cX6_swap 22 = .ok (.iload_n 2, 1) := by decide +kernel
theorem dX6_swap_23 : decode cX6_swap 23 = .ok (.if_icmp .ne 5, 3) := by decide +kernel
theorem dX6_swap_26 : decode cX6_swap 26 = .ok (.iconst 0, 1) := by decide +kernel
theorem dX6_swap_27 : decode cX6_swap 27 = .ok (.ireturn, 1) := by decide +kernel
theorem dX6_swap_28 : decode cX6_swap 28 = .ok (.aload_n 0, 1) := by decide +kernel
theorem dX6_swap_29 : decode cX6_swap 29 = .ok (.invokevirtual 223, 3) := by decide +kernel
theorem dX6_swap_32 : decode cX6_swap 32 = .ok (.aload_n 0, 1) := by decide +kernel
theorem dX6_swap_33 : decode cX6_swap 33 = .ok (.iload_n 1, 1) := by decide +kernel
theorem dX6_swap_34 : decode cX6_swap 34 = .ok (.iload_n 2, 1) := by decide +kernel
theorem dX6_swap_35 : decode cX6_swap 35 = .ok (.invokevirtual 239, 3) := by decide +kernel
theorem dX6_swap_38 : decode cX6_swap 38 = .ok (.aload_n 0, 1) := by decide +kernel
theorem dX6_swap_39 : decode cX6_swap 39 = .ok (.iload_n 2, 1) := by decide +kernel
theorem dX6_swap_40 : decode cX6_swap 40 = .ok (.iload_n 1, 1) := by decide +kernel
theorem dX6_swap_41 : decode cX6_swap 41 = .ok (.invokevirtual 239, 3) := by decide +kernel
theorem dX6_swap_44 : decode cX6_swap 44 = .ok (.aload_n 0, 1) := by decide +kernel
theorem dX6_swap_45 : decode cX6_swap 45 = .ok (.invokevirtual 226, 3) := by decide +kernel
theorem dX6_swap_48 : decode cX6_swap 48 = .ok (.iconst 1, 1) := by decide +kernel
theorem dX6_swap_49 : decode cX6_swap 49 = .ok (.ireturn, 1) := by decide +kernel
set_option maxRecDepth 20000 in
theorem ggX6_flip_X6_isSpan : GoodIn wsX6_flip wsX6_isSpan := goodIn_r _ [6, 7, 63, 64, 65, 66, 67, 68, 69, 70, 71, 72, 73, 74, 75, 76, 77, 78, 79, 80, 81, 82, 83, 84, 85, 86, 87, 88, 89, 90, 91, 92, 93, 94, 95, 96, 97, 98, 99, 100, 101, 102, 103, 104] rfl (by decide +kernel)
set_option maxRecDepth 20000 in
theorem gX6_flip_X6_isSpan : GoodIn wsX6_flip (wsV RX6 232 RX6 yX6_isSpan wsX6_isSpan) := goodIn_app (goodIn_r _ [2, 3, 4, 5] rfl (by decide +kernel)) ggX6_flip_X6_isSpan
set_option maxRecDepth 20000 in
theorem ggX6_flip_X6_begins : GoodIn wsX6_flip wsX6_begins := goodIn_r _ [11, 7, 12, 13, 14, 15, 16, 63, 64, 65, 66, 67, 68, 69, 70, 71, 72, 73, 74, 75, 76, 77, 78, 79, 80, 81, 82, 83, 84, 85, 86, 87, 88, 89, 90, 91, 92, 93, 94, 95, 96, 97, 98, 99, 100, 101, 102, 103, 104] rfl (by decide +kernel)
set_option maxRecDepth 20000 in
theorem gX6_flip_X6_begins : GoodIn wsX6_flip (wsV RX6 223 RX6 yX6_begins wsX6_begins) := goodIn_app (goodIn_r _ [8, 9, 10, 5] rfl (by decide +kernel)) ggX6_flip_X6_begins
set_option maxRecDepth 20000 in
theorem ggX6_flip_X6_lies : GoodIn wsX6_flip wsX6_lies := goodIn_r _ [20, 13, 14, 15, 16, 63, 64, 65, 66, 67, 68, 69, 70, 71, 72, 73, 74, 75, 76, 77, 78, 79, 80, 81, 82, 83, 84, 85, 86, 87, 88, 89, 90, 91, 92, 93, 94, 95, 96, 97, 98, 99, 100, 101, 102, 103, 104] rfl (by decide +kernel)
set_option maxRecDepth 20000 in
theorem gX6_flip_X6_lies : GoodIn wsX6_flip (wsV RX6 239 RX6 yX6_lies wsX6_lies) := goodIn_app (goodIn_r _ [17, 18, 19, 5] rfl (by decide +kernel)) ggX6_flip_X6_lies
set_option maxRecDepth 20000 in
theorem ggX6_flip_X6_done : GoodIn wsX6_flip wsX6_done := goodIn_r _ [24, 25, 26, 27, 5, 28, 7, 13, 14, 29, 30, 31, 32, 33, 34, 35, 16, 36, 37, 38, 39, 40, 12, 15, 41, 42, 43, 44, 45, 46, 47, 48, 49, 50, 51, 52, 53, 54, 55, 56, 57, 58, 59, 60, 61, 62, 63, 64, 65, 66, 67, 68, 69, 70, 71, 72, 73, 74, 75, 76, 77, 78, 79, 80, 81, 82, 83, 84, 85, 86, 87, 88, 89, 90, 91, 92, 93, 94, 95, 96, 97, 98, 99, 100, 101, 102, 103, 104] rfl (by decide +kernel)
set_option maxRecDepth 20000 in
theorem gX6_flip_X6_done : GoodIn wsX6_flip (wsV RX6 236 RX6 yX6_done wsX6_done) := goodIn_app (goodIn_r _ [21, 22, 23, 5] rfl (by decide +kernel)) ggX6_flip_X6_done
theorem dX6_flip_0 : decode cX6_flip 0 = .ok (.aload_n 0, 1) := by decide +kernel
theorem dX6_flip_1 : decode cX6_flip 1 = .ok (.iconst 0, 1) := by decide +kernel
theorem dX6_flip_2 : decode cX6_flip 2 = .ok (.putfield 72, 3) := by decide +kernel
theorem dX6_flip_5 : decode cX6_flip 5 = .ok (.aload_n 0, 1) := by decide +kernel
theorem dX6_flip_6 : decode cX6_flip 6 = .ok (.iload_n 1, 1) := by decide +kernel
theorem dX6_flip_7 : decode cX6_flip 7 = .ok (.iload_n 2, 1) := by decide +kernel
theorem dX6_flip_8 : decode cX6_flip 8 = .ok (.invokevirtual 232, 3) := by decide +kernel
theorem dX6_flip_11 : decode cX6_flip 11 = .ok (.ifCond .ne 5, 3) := by decide +kernel
theorem dX6_flip_14 : decode cX6_flip 14 = .ok (.iconst (-1), 1) := by decide +kernel
theorem dX6_flip_15 : decode cX6_flip 15 = .ok (.ireturn, 1) := by decide +kernel
theorem dX6_flip_16 : decode cX6_flip 16 = .ok (.aload_n 0, 1) := by decide +kernel
theorem dX6_flip_17 : decode cX6_flip 17 = .ok (.invokevirtual 223, 3) := by decide +kernel
theorem dX6_flip_20 : decode cX6_flip 20 = .ok (.iload_n 1, 1) := by decide +kernel
theorem dX6_flip_21 : decode cX6_flip 21 = .ok (.istore_n 3, 1) := by decide +kernel
theorem dX6_flip_22 : decode cX6_flip 22 = .ok (.iload_n 3, 1) := by decide +kernel
theorem dX6_flip_23 : decode cX6_flip 23 = .ok (.iload_n 2, 1) := by decide +kernel
theorem dX6_flip_24 : decode cX6_flip 24 = .ok (.if_icmp .gt 19, 3) := by decide +kernel
theorem dX6_flip_27 : decode cX6_flip 27 = .ok (.aload_n 0, 1) := by decide +kernel
theorem dX6_flip_28 : decode cX6_flip 28 = .ok (.iload_n 3, 1) := by decide +kernel
theorem dX6_flip_29 : decode cX6_flip 29 = .ok (.iload_n 1, 1) := by decide +kernel
theorem dX6_flip_30 : decode cX6_flip 30 = .ok (.iload_n 2, 1) := by decide +kernel
theorem dX6_flip_31 : decode cX6_flip 31 = .ok (.iadd, 1) := by decide +kernel
theorem dX6_flip_32 : decode cX6_flip 32 = .ok (.iload_n 3, 1) := by decide +kernel
theorem dX6_flip_33 : decode cX6_flip 33 = .ok (.isub, 1) := by decide +kernel
theorem dX6_flip_34 : decode cX6_flip 34 = .ok (.invokevirtual 239, 3) := by decide +kernel
theorem dX6_flip_37 : decode cX6_flip 37 = .ok (.iinc 3 1, 3) := by decide +kernel
theorem dX6_flip_40 : decode cX6_flip 40 = .ok (.goto (-18), 3) := by decide +kernel
theorem dX6_flip_43 : decode cX6_flip 43 = .ok (.aload_n 0, 1) := by decide +kernel
theorem dX6_flip_44 : decode cX6_flip 44 = .ok (.invokevirtual 236, 3) := by decide +kernel
theorem dX6_flip_47 : decode cX6_flip 47 = .ok (.ireturn, 1) := by decide +kernel
set_option maxRecDepth 20000 in
theorem ggX6_shift_X6_isSpan : GoodIn wsX6_shift wsX6_isSpan := goodIn_r _ [6, 7, 63, 64, 65, 66, 67, 68, 69, 70, 71, 72, 73, 74, 75, 76, 77, 78, 79, 80, 81, 82, 83, 84, 85, 86, 87, 88, 89, 90, 91, 92, 93, 94, 95, 96, 97, 98, 99, 100, 101, 102, 103, 104] rfl (by decide +kernel)
set_option maxRecDepth 20000 in
theorem gX6_shift_X6_isSpan : GoodIn wsX6_shift (wsV RX6 232 RX6 yX6_isSpan wsX6_isSpan) := goodIn_app (goodIn_r _ [2, 3, 4, 5] rfl (by decide +kernel)) ggX6_shift_X6_isSpan
set_option maxRecDepth 20000 in
theorem ggX6_shift_X6_begins : GoodIn wsX6_shift wsX6_begins := goodIn_r _ [11, 7, 12, 13, 14, 15, 16, 63, 64, 65, 66, 67, 68, 69, 70, 71, 72, 73, 74, 75, 76, 77, 78, 79, 80, 81, 82, 83, 84, 85, 86, 87, 88, 89, 90, 91, 92, 93, 94, 95, 96, 97, 98, 99, 100, 101, 102, 103, 104] rfl (by decide +kernel)
set_option maxRecDepth 20000 in
theorem gX6_shift_X6_begins : GoodIn wsX6_shift (wsV RX6 223 RX6 yX6_begins wsX6_begins) := goodIn_app (goodIn_r _ [8, 9, 10, 5] rfl (by decide +kernel)) ggX6_shift_X6_begins
set_option maxRecDepth 20000 in
theorem ggX6_shift_X6_lies : GoodIn wsX6_shift wsX6_lies := goodIn_r _ [20, 13, 14, 15, 16, 63, 64, 65, 66, 67, 68, 69, 70, 71, 72, 73, 74, 75, 76, 77, 78, 79, 80, 81, 82, 83, 84, 85, 86, 87, 88, 89, 90, 91, 92, 93, 94, 95, 96, 97, 98, 99, 100, 101, 102, 103, 104] rfl (by decide +kernel)
set_option maxRecDepth 20000 in
theorem gX6_shift_X6_lies : GoodIn wsX6_shift (wsV RX6 239 RX6 yX6_lies wsX6_lies) := goodIn_app (goodIn_r _ [17, 18, 19, 5] rfl (by decide +kernel)) ggX6_shift_X6_lies
set_option maxRecDepth 20000 in
theorem ggX6_shift_X6_done : GoodIn wsX6_shift wsX6_done := goodIn_r _ [24, 25, 26, 27, 5, 28, 7, 13, 14, 29, 30, 31, 32, 33, 34, 35, 16, 36, 37, 38, 39, 40, 12, 15, 41, 42, 43, 44, 45, 46, 47, 48, 49, 50, 51, 52, 53, 54, 55, 56, 57, 58, 59, 60, 61, 62, 63, 64, 65, 66, 67, 68, 69, 70, 71, 72, 73, 74, 75, 76, 77, 78, 79, 80, 81, 82, 83, 84, 85, 86, 87, 88, 89, 90, 91, 92, 93, 94, 95, 96, 97, 98, 99, 100, 101, 102, 103, 104] rfl (by decide +kernel)
set_option maxRecDepth 20000 in
theorem gX6_shift_X6_done : GoodIn wsX6_shift (wsV RX6 236 RX6 yX6_done wsX6_done) := goodIn_app (goodIn_r _ [21, 22, 23, 5] rfl (by decide +kernel)) ggX6_shift_X6_done
theorem dX6_shift_0 : decode cX6_shift 0 = .ok (.aload_n 0, 1) := by decide +kernel
theorem dX6_shift_1 : decode cX6_shift 1 = .ok (.iconst 0, 1) := by decide +kernel
theorem dX6_shift_2 : decode cX6_shift 2 = .ok (.putfield 72, 3) := by decide +kernel
theorem dX6_shift_5 : decode cX6_shift 5 = .ok (.aload_n 0, 1) := by decide +kernel
theorem dX6_shift_6 : decode cX6_shift 6 = .ok (.iload_n 1, 1) := by decide +kernel
theorem dX6_shift_7 : decode cX6_shift 7 = .ok (.iload_n 2, 1) := by decide +kernel
theorem dX6_shift_8 : decode cX6_shift 8 = .ok (.invokevirtual 232, 3) := by decide +kernel
theorem dX6_shift_11 : decode cX6_shift 11 = .ok (.ifCond .eq 16, 3) := by decide +kernel
theorem dX6_shift_14 : decode cX6_shift 14 = .ok (.iload_n 3, 1) := by decide +kernel
theorem dX6_shift_15 : decode cX6_shift 15 = .ok (.ifCond .lt 12, 3) := by decide +kernel
theorem dX6_shift_18 : decode cX6_shift 18 = .ok (.iload_n 3, 1) := by decide +kernel
theorem dX6_shift_19 : decode cX6_shift 19 = .ok (.iload_n 2, 1) := by decide +kernel
theorem dX6_shift_20 : decode cX6_shift 20 = .ok (.iload_n 1, 1) := by decide +kernel
theorem dX6_shift_21 : decode cX6_shift 21 = .ok (.isub, 1) := by decide +kernel
theorem dX6_shift_22 : decode cX6_shift 22 = .ok (.iconst 1, 1) := by decide +kernel
theorem dX6_shift_23 : decode cX6_shift 23 = .ok (.iadd, 1) := by decide +kernel
theorem dX6_shift_24 : decode cX6_shift 24 = .ok (.if_icmp .le 5, 3) := by decide +kernel
theorem dX6_shift_27 : decode cX6_shift 27 = .ok (.iconst (-1), 1) := by decide +kernel
theorem dX6_shift_28 : decode cX6_shift 28 = .ok (.ireturn, 1) := by decide +kernel
theorem dX6_shift_29 : decode cX6_shift 29 = .ok (.aload_n 0, 1) := by decide +kernel
theorem dX6_shift_30 : decode cX6_shift 30 = .ok (.invokevirtual 223, 3) := by decide +kernel
theorem dX6_shift_33 : decode cX6_shift 33 = .ok (.iload_n 1, 1) := by decide +kernel
theorem dX6_shift_34 : decode cX6_shift 34 = .ok (.istore 4, 2) := by decide +kernel
theorem dX6_shift_36 : decode cX6_shift 36 = .ok (.iload 4, 2) := by decide +kernel
theorem dX6_shift_38 : decode cX6_shift 38 = .ok (.iload_n 2, 1) := by decide +kernel
theorem dX6_shift_39 : decode cX6_shift 39 = .ok (.if_icmp .gt 29, 3) := by decide +kernel
theorem dX6_shift_42 : decode cX6_shift 42 = .ok (.aload_n 0, 1) := by decide +kernel
theorem dX6_shift_43 : decode cX6_shift 43 = .ok (.iload 4, 2) := by decide +kernel
theorem dX6_shift_45 : decode cX6_shift 45 = .ok (.iload_n 1, 1) := by decide +kernel
theorem dX6_shift_46 : decode cX6_shift 46 = .ok (.iload 4, 2) := by decide +kernel
theorem dX6_shift_48 : decode cX6_shift 48 = .ok (.iload_n 1, 1) := by decide +kernel
theorem dX6_shift_49 : decode cX6_shift 49 = .ok (.isub, 1) := by decide +kernel
theorem dX6_shift_50 : decode cX6_shift 50 = .ok (.iload_n 3, 1) := by decide +kernel
theorem dX6_shift_51 : decode cX6_shift 51 = .ok (.iadd, 1) := by decide +kernel
theorem dX6_shift_52 : decode cX6_shift 52 = .ok (.iload_n 2, 1) := by decide +kernel
theorem dX6_shift_53 : decode cX6_shift 53 = .ok (.iload_n 1, 1) := by decide +kernel
theorem dX6_shift_54 : decode cX6_shift 54 = .ok (.isub, 1) := by decide +kernel
theorem dX6_shift_55 : decode cX6_shift 55 = .ok (.iconst 1, 1) := by decide +kernel
theorem dX6_shift_56 : decode cX6_shift 56 = .ok (.iadd, 1) := by decide +kernel
theorem dX6_shift_57 : decode cX6_shift 57 = .ok (.irem, 1) := by decide +kernel
theorem dX6_shift_58 : decode cX6_shift 58 = .ok (.iadd, 1) := by decide +kernel
theorem dX6_shift_59 : decode cX6_shift 59 = .ok (.invokevirtual 239, 3) := by decide +kernel
theorem dX6_shift_62 : decode cX6_shift 62 = .ok (.iinc 4 1, 3) := by decide +kernel
theorem dX6_shift_65 : decode cX6_shift 65 = .ok (.goto (-29), 3) := by decide +kernel
theorem dX6_shift_68 : decode cX6_shift 68 = .ok (.aload_n 0, 1) := by decide +kernel
theorem dX6_shift_69 : decode cX6_shift 69 = .ok (.invokevirtual 236, 3) := by decide +kernel
theorem dX6_shift_72 : decode cX6_shift 72 = .ok (.ireturn, 1) := by decide +kernel
set_option maxRecDepth 20000 in
theorem ggX6_replace_X6_isValue : GoodIn wsX6_replace wsX6_isValue := goodIn_r _ [8] rfl (by decide +kernel)
set_option maxRecDepth 20000 in
theorem gX6_replace_X6_isValue : GoodIn wsX6_replace (va_wsS RX6 220 yX6_isValue wsX6_isValue) := goodIn_app (goodIn_r _ [5, 6, 7] rfl (by decide +kernel)) ggX6_replace_X6_isValue
set_option maxRecDepth 20000 in
theorem ggX6_replace_X6_begins : GoodIn wsX6_replace wsX6_begins := goodIn_r _ [12, 2, 13, 4, 3, 14, 15, 58, 59, 60, 61, 62, 63, 64, 65, 66, 67, 68, 69, 70, 71, 72, 73, 74, 75, 76, 77, 78, 79, 80, 81, 82, 83, 84, 85, 86, 87, 88, 89, 90, 91, 92, 93, 94, 95, 96, 97, 98, 99] rfl (by decide +kernel)
set_option maxRecDepth 20000 in
theorem gX6_replace_X6_begins : GoodIn wsX6_replace (wsV RX6 223 RX6 yX6_begins wsX6_begins) := goodIn_app (goodIn_r _ [9, 10, 11, 7] rfl (by decide +kernel)) ggX6_replace_X6_begins
set_option maxRecDepth 20000 in
theorem ggX6_replace_X6_done : GoodIn wsX6_replace wsX6_done := goodIn_r _ [19, 20, 21, 22, 7, 23, 2, 4, 3, 24, 25, 26, 27, 28, 29, 30, 15, 31, 32, 33, 34, 35, 13, 14, 36, 37, 38, 39, 40, 41, 42, 43, 44, 45, 46, 47, 48, 49, 50, 51, 52, 53, 54, 55, 56, 57, 58, 59, 60, 61, 62, 63, 64, 65, 66, 67, 68, 69, 70, 71, 72, 73, 74, 75, 76, 77, 78, 79, 80, 81, 82, 83, 84, 85, 86, 87, 88, 89, 90, 91, 92, 93, 94, 95, 96, 97, 98, 99] rfl (by decide +kernel)
set_option maxRecDepth 20000 in
theorem gX6_replace_X6_done : GoodIn wsX6_replace (wsV RX6 236 RX6 yX6_done wsX6_done) := goodIn_app (goodIn_r _ [16, 17, 18, 7] rfl (by decide +kernel)) ggX6_replace_X6_done
theorem dX6_replace_0 : decode cX6_replace 0 = .ok (.aload_n 0, 1) := by decide +kernel
theorem dX6_replace_1 : decode cX6_replace 1 = .ok (.iconst 0, 1) := by decide +kernel
theorem dX6_replace_2 : decode cX6_replace 2 = .ok (.putfield 72, 3) := by decide +kernel
theorem dX6_replace_5 : decode cX6_replace 5 = .ok (.iload_n 1, 1) := by decide +kernel
theorem dX6_replace_6 : decode cX6_replace 6 = .ok (.invokestatic 220, 3) := by decide +kernel
theorem dX6_replace_9 : decode cX6_replace 9 = .ok (.ifCond .eq 10, 3) := by decide +kernel
theorem dX6_replace_12 : decode cX6_replace 12 = .ok (.iload_n 2, 1) := by decide +kernel
theorem dX6_replace_13 : decode cX6_replace 13 = .ok (.invokestatic 220, 3) := by decide +kernel
theorem dX6_replace_16 : decode cX6_replace 16 = .ok (.ifCond .ne 5, 3) := by decide +kernel
theorem dX6_replace_19 : decode cX6_replace 19 = .ok (.iconst (-1), 1) := by decide +kernel
theorem dX6_replace_20 : decode cX6_replace 20 = .ok (.ireturn, 1) := by decide +kernel
theorem dX6_replace_21 : decode cX6_replace 21 = .ok (.aload_n 0, 1) := by decide +kernel
theorem dX6_replace_22 : decode cX6_replace 22 = .ok (.invokevirtual 223, 3) := by decide +kernel
theorem dX6_replace_25 : decode cX6_replace 25 = .ok (.iconst 0, 1) := by decide +kernel
theorem dX6_replace_26 : decode cX6_replace 26 = .ok (.istore_n 3, 1) := by decide +kernel
theorem dX6_replace_27 : decode cX6_replace 27 = .ok (.iload_n 3, 1) := by decide +kernel
theorem dX6_replace_28 : decode cX6_replace 28 = .ok (.aload_n 0, 1) := by decide +kernel
theorem dX6_replace_29 : decode cX6_replace 29 = .ok (.getfield 175, 3) := by decide +kernel
theorem dX6_replace_32 : decode cX6_replace 32 = .ok (.if_icmp .ge 26, 3) := by decide +kernel
theorem dX6_replace_35 : decode cX6_replace 35 = .ok (.aload_n 0, 1) := by decide +kernel
theorem dX6_replace_36 : decode cX6_replace 36 = .ok (.getfield 13, 3) := by decide +kernel
theorem dX6_replace_39 : decode cX6_replace 39 = .ok (.iload_n 3, 1) := by decide +kernel
theorem dX6_replace_40 : decode cX6_replace 40 = .ok (.iaload, 1) := by decide +kernel
theorem dX6_replace_41 : decode cX6_replace 41 = .ok (.iload_n 1, 1) := by decide +kernel
theorem dX6_replace_42 : decode cX6_replace 42 = .ok (.if_icmp .ne 10, 3) := by decide +kernel
theorem dX6_replace_45 : decode cX6_replace 45 = .ok (.aload_n 0, 1) := by decide +kernel
theorem dX6_replace_46 : decode cX6_replace 46 = .ok (.getfield 41, 3) := by decide +kernel
theorem dX6_replace_49 : decode cX6_replace 49 = .ok (.iload_n 3, 1) := by decide +kernel
theorem dX6_replace_50 : decode cX6_replace 50 = .ok (.iload_n 2, 1) := by decide +kernel
theorem dX6_replace_51 : decode cX6_replace 51 = .ok (.iastore, 1) := by decide +kernel
theorem dX6_replace_52 : decode cX6_replace 52 = .ok (.iinc 3 1, 3) := by decide +kernel
theorem dX6_replace_55 : decode cX6_replace 55 = .ok (.goto (-28), 3) := by decide +kernel
theorem dX6_replace_58 : decode cX6_replace 58 = .ok (.aload_n 0, 1) := by decide +kernel
theorem dX6_replace_59 : decode cX6_replace 59 = .ok (.invokevirtual 236, 3) := by decide +kernel
theorem dX6_replace_62 : decode cX6_replace 62 = .ok (.ireturn, 1) := by decide +kernel
set_option maxRecDepth 20000 in
theorem ggX6_sort_X6_isSpan : GoodIn wsX6_sort wsX6_isSpan := goodIn_r _ [7, 8, 63, 64, 65, 66, 67, 68, 69, 70, 71, 72, 73, 74, 75, 76, 77, 78, 79, 80, 81, 82, 83, 84, 85, 86, 87, 88, 89, 90, 91, 92, 93, 94, 95, 96, 97, 98, 99, 100, 101, 102, 103, 104] rfl (by decide +kernel)
set_option maxRecDepth 20000 in
theorem gX6_sort_X6_isSpan : GoodIn wsX6_sort (wsV RX6 232 RX6 yX6_isSpan wsX6_isSpan) := goodIn_app (goodIn_r _ [3, 4, 5, 6] rfl (by decide +kernel)) ggX6_sort_X6_isSpan
set_option maxRecDepth 20000 in
theorem ggX6_sort_X6_begins : GoodIn wsX6_sort wsX6_begins := goodIn_r _ [12, 8, 13, 14, 2, 15, 16, 63, 64, 65, 66, 67, 68, 69, 70, 71, 72, 73, 74, 75, 76, 77, 78, 79, 80, 81, 82, 83, 84, 85, 86, 87, 88, 89, 90, 91, 92, 93, 94, 95, 96, 97, 98, 99, 100, 101, 102, 103, 104] rfl (by decide +kernel)
set_option maxRecDepth 20000 in
theorem gX6_sort_X6_begins : GoodIn wsX6_sort (wsV RX6 223 RX6 yX6_begins wsX6_begins) := goodIn_app (goodIn_r _ [9, 10, 11, 6] rfl (by decide +kernel)) ggX6_sort_X6_begins
set_option maxRecDepth 20000 in
theorem ggX6_sort_X6_lies : GoodIn wsX6_sort wsX6_lies := goodIn_r _ [20, 14, 2, 15, 16, 63, 64, 65, 66, 67, 68, 69, 70, 71, 72, 73, 74, 75, 76, 77, 78, 79, 80, 81, 82, 83, 84, 85, 86, 87, 88, 89, 90, 91, 92, 93, 94, 95, 96, 97, 98, 99, 100, 101, 102, 103, 104] rfl (by decide +kernel)
set_option maxRecDepth 20000 in
theorem gX6_sort_X6_lies : GoodIn wsX6_sort (wsV RX6 239 RX6 yX6_lies wsX6_lies) := goodIn_app (goodIn_r _ [17, 18, 19, 6] rfl (by decide +kernel)) ggX6_sort_X6_lies
set_option maxRecDepth 20000 in
theorem ggX6_sort_X6_done : GoodIn wsX6_sort wsX6_done := goodIn_r _ [24, 25, 26, 27, 6, 28, 8, 14, 2, 29, 30, 31, 32, 33, 34, 35, 16, 36, 37, 38, 39, 40, 13, 15, 41, 42, 43, 44, 45, 46, 47, 48, 49, 50, 51, 52, 53, 54, 55, 56, 57, 58, 59, 60, 61, 62, 63, 64, 65, 66, 67, 68, 69, 70, 71, 72, 73, 74, 75, 76, 77, 78, 79, 80, 81, 82, 83, 84, 85, 86, 87, 88, 89, 90, 91, 92, 93, 94, 95, 96, 97, 98, 99, 100, 101, 102, 103, 104] rfl (by decide +kernel)
set_option maxRecDepth 20000 in
theorem gX6_sort_X6_done : GoodIn wsX6_sort (wsV RX6 236 RX6 yX6_done wsX6_done) := goodIn_app (goodIn_r _ [21, 22, 23, 6] rfl (by decide +kernel)) ggX6_sort_X6_done
theorem dX6_sort_0 : decode cX6_sort 0 = .ok (.aload_n 0, 1) := by decide +kernel
theorem dX6_sort_1 : decode cX6_sort 1 = .ok (.iconst 0, 1) := by decide +kernel
theorem dX6_sort_2 : decode cX6_sort 2 = .ok (.putfield 72, 3) := by decide +kernel
theorem dX6_sort_5 : decode cX6_sort 5 = .ok (.aload_n 0, 1) := by decide +kernel
theorem dX6_sort_6 : decode cX6_sort 6 = .ok (.iload_n 1, 1) := by decide +kernel
theorem dX6_sort_7 : decode cX6_sort 7 = .ok (.iload_n 2, 1) := by decide +kernel
theorem dX6_sort_8 : decode cX6_sort 8 = .ok (.invokevirtual 232, 3) := by decide +kernel
theorem dX6_sort_11 : decode cX6_sort 11 = .ok (.ifCond .ne 5, 3) := by decide +kernel
theorem dX6_sort_14 : decode cX6_sort 14 = .ok (.iconst (-1), 1) := by decide +kernel
theorem dX6_sort_15 : decode cX6_sort 15 = .ok (.ireturn, 1) := by decide +kernel
theorem dX6_sort_16 : decode cX6_sort 16 = .ok (.aload_n 0, 1) := by decide +kernel
theorem dX6_sort_17 : decode cX6_sort 17 = .ok (.invokevirtual 223, 3) := by decide +kernel
theorem dX6_sort_20 : decode cX6_sort 20 = .ok (.iload_n 1, 1) := by decide +kernel
theorem dX6_sort_21 : decode cX6_sort 21 = .ok (.istore 4, 2) := by decide +kernel
theorem dX6_sort_23 : decode cX6_sort 23 = .ok (.iload 4, 2) := by decide +kernel
theorem dX6_sort_25 : decode cX6_sort 25 = .ok (.iload_n 2, 1) := by decide +kernel
theorem dX6_sort_26 : decode cX6_sort 26 = .ok (.if_icmp .gt 129, 3) := by decide +kernel
theorem dX6_sort_29 : decode cX6_sort 29 = .ok (.iconst 0, 1) := by decide +kernel
theorem dX6_sort_30 : decode cX6_sort 30 = .ok (.istore 5, 2) := by decide +kernel
theorem dX6_sort_32 : decode cX6_sort 32 = .ok (.iload_n 1, 1) := by decide +kernel
theorem dX6_sort_33 : decode cX6_sort 33 = .ok (.istore 6, 2) := by decide +kernel
theorem dX6_sort_35 : decode cX6_sort 35 = .ok (.iload 6, 2) := by decide +kernel
theorem dX6_sort_37 : decode cX6_sort 37 = .ok (.iload_n 2, 1) := by decide +kernel
theorem dX6_sort_38 : decode cX6_sort 38 = .ok (.if_icmp .gt 101, 3) := by decide +kernel
theorem dX6_sort_41 : decode cX6_sort 41 = .ok (.iload_n 3, 1) := by decide +kernel
theorem dX6_sort_42 : decode cX6_sort 42 = .ok (.ifCond .eq 28, 3) := by decide +kernel
theorem dX6_sort_45 : decode cX6_sort 45 = .ok (.aload_n 0, 1) := by decide +kernel
theorem dX6_sort_46 : decode cX6_sort 46 = .ok (.getfield 13, 3) := by decide +kernel
theorem dX6_sort_49 : decode cX6_sort 49 = .ok (.iload 6, 2) := by decide +kernel
theorem dX6_sort_51 : decode cX6_sort 51 = .ok (.iaload, 1) := by decide +kernel
theorem dX6_sort_52 : decode cX6_sort 52 = .ok (.aload_n 0, 1) := by decide +kernel
theorem dX6_sort_53 : decode cX6_sort 53 = .ok (.getfield 13, 3) := by decide +kernel
theorem dX6_sort_56 : decode cX6_sort 56 = .ok (.iload 4, 2) := by decide +kernel
theorem dX6_sort_58 : decode cX6_sort 58 = .ok (.iaload, 1) := by decide +kernel
theorem dX6_sort_59 : decode cX6_sort 59 = .ok (.if_icmp .ge 7, 3) := by decide +kernel
theorem dX6_sort_62 : decode cX6_sort 62 = .ok (.iconst 1, 1) := by decide +kernel
theorem dX6_sort_63 : decode cX6_sort 63 = .ok (.goto 29, 3) := by decide +kernel
theorem dX6_sort_66 : decode cX6_sort 66 = .ok (.iconst 0, 1) := by decide +kernel
theorem dX6_sort_67 : decode cX6_sort 67 = .ok (.goto 25, 3) := by decide +kernel
theorem dX6_sort_70 : decode cX6_sort 70 = .ok (.aload_n 0, 1) := by decide +kernel
theorem dX6_sort_71 : decode cX6_sort 71 = .ok (.getfield 13, 3) := by decide +kernel
theorem dX6_sort_74 : decode cX6_sort 74 = .ok (.iload 6, 2) := by decide +kernel
theorem dX6_sort_76 : decode cX6_sort 76 = .ok (.iaload, 1) := by decide +kernel
theorem dX6_sort_77 : decode cX6_sort 77 = .ok (.aload_n 0, 1) := by decide +kernel
theorem dX6_sort_78 : decode cX6_sort 78 = .ok (.getfield 13, 3) := by decide +kernel
theorem dX6_sort_81 : decode cX6_sort 81 = .ok (.iload 4, 2) := by decide +kernel
theorem dX6_sort_83 : decode cX6_sort 83 = .ok (.iaload, 1) := by decide +kernel
theorem dX6_sort_84 : decode cX6_sort 84 = .ok (.if_icmp .le 7, 3) := by decide +kernel
theorem dX6_sort_87 : decode cX6_sort 87 = .ok (.iconst 1, 1) := by decide +kernel
theorem dX6_sort_88 : decode cX6_sort 88 = .ok (.goto 4, 3) := by decide +kernel
theorem dX6_sort_91 : decode cX6_sort 91 = .ok (.iconst 0, 1) := by decide +kernel
theorem dX6_sort_92 : decode cX6_sort 92 = .ok (.istore 7, 2) := by decide +kernel
theorem dX6_sort_94 : decode cX6_sort 94 = .ok (.iload 5, 2) := by decide +kernel
theorem dX6_sort_96 : decode cX6_sort 96 = .ok (.iload 7, 2) := by decide +kernel
theorem dX6_sort_98 : decode cX6_sort 98 = .ok (.ifCond .ne 27, 3) := by decide +kernel
theorem dX6_sort_101 : decode cX6_sort 101 = .ok (.aload_n 0, 1) := by decide +kernel
theorem dX6_sort_102 : decode cX6_sort 102 = .ok (.getfield 13, 3) := by decide +kernel
theorem dX6_sort_105 : decode cX6_sort 105 = .ok (.iload 6, 2) := by decide +kernel
theorem dX6_sort_107 : decode cX6_sort 107 = .ok (.iaload, 1) := by decide +kernel
theorem dX6_sort_108 : decode cX6_sort 108 = .ok (.aload_n 0, 1) := by decide +kernel
theorem dX6_sort_109 : decode cX6_sort 109 = .ok (.getfield 13, 3) := by decide +kernel
theorem dX6_sort_112 : decode cX6_sort 112 = .ok (.iload 4, 2) := by decide +kernel
theorem dX6_sort_114 : decode cX6_sort 114 = .ok (.iaload, 1) := by decide +kernel
theorem dX6_sort_115 : decode cX6_sort 115 = .ok (.if_icmp .ne 14, 3) := by decide +kernel
theorem dX6_sort_118 : decode cX6_sort 118 = .ok (.iload 6, 2) := by decide +kernel
theorem dX6_sort_120 : decode cX6_sort 120 = .ok (.iload 4, 2) := by decide +kernel
theorem dX6_sort_122 : decode cX6_sort 122 = .ok (.if_icmp .ge 7, 3) := by decide +kernel
theorem dX6_sort_125 : decode cX6_sort 125 = .ok (.iconst 1, 1) := by decide +kernel
theorem dX6_sort_126 : decode cX6_sort 126 = .ok (.goto 4, 3) := by decide +kernel
theorem dX6_sort_129 : decode cX6_sort 129 = .ok (.iconst 0, 1) := by decide +kernel
theorem dX6_sort_130 : decode cX6_sort 130 = .ok (.iadd, 1) := by decide +kernel
theorem dX6_sort_131 : decode cX6_sort 131 = .ok (.istore 5, 2) := by decide +kernel
theorem dX6_sort_133 : decode cX6_sort 133 = .ok (.iinc 6 1, 3) := by decide +kernel
theorem dX6_sort_136 : decode cX6_sort 136 = .ok (.goto (-101), 3) := by decide +kernel
theorem dX6_sort_139 : decode cX6_sort 139 = .ok (.aload_n 0, 1) := by decide +kernel
theorem dX6_sort_140 : decode cX6_sort 140 = .ok (.iload 4, 2) := by decide +kernel
theorem dX6_sort_142 : decode cX6_sort 142 = .ok (.iload_n 1, 1) := by decide +kernel
theorem dX6_sort_143 : decode cX6_sort 143 = .ok (.iload 5, 2) := by decide +kernel
theorem dX6_sort_145 : decode cX6_sort 145 = .ok (.iadd, 1) := by decide +kernel
theorem dX6_sort_146 : decode cX6_sort 146 = .ok (.invokevirtual 239, 3) := by decide +kernel
theorem dX6_sort_149 : decode cX6_sort 149 = .ok (.iinc 4 1, 3) := by decide +kernel
theorem dX6_sort_152 : decode cX6_sort 152 = .ok (.goto (-129), 3) := by decide +kernel
theorem dX6_sort_155 : decode cX6_sort 155 = .ok (.aload_n 0, 1) := by decide +kernel
theorem dX6_sort_156 : decode cX6_sort 156 = .ok (.invokevirtual 236, 3) := by decide +kernel
theorem dX6_sort_159 : decode cX6_sort 159 = .ok (.ireturn, 1) := by decide +kernel
theorem dX6_refreshed_0 : decode cX6_refreshed 0 = .ok (.aload_n 0, 1) := by decide +kernel
theorem dX6_refreshed_1 : decode cX6_refreshed 1 = .ok (.iconst 0, 1) := by decide +kernel
theorem dX6_refreshed_2 : decode cX6_refreshed 2 = .ok (.putfield 72, 3) := by decide +kernel
theorem dX6_refreshed_5 : decode cX6_refreshed 5 = .ok (.aload_n 0, 1) := by decide +kernel
theorem dX6_refreshed_6 : decode cX6_refreshed 6 = .ok (.getfield 28, 3) := by decide +kernel
theorem dX6_refreshed_9 : decode cX6_refreshed 9 = .ok (.ireturn, 1) := by decide +kernel
theorem dX6_was_0 : decode cX6_was 0 = .ok (.aload_n 0, 1) := by decide +kernel
theorem dX6_was_1 : decode cX6_was 1 = .ok (.iconst 0, 1) := by decide +kernel
theorem dX6_was_2 : decode cX6_was 2 = .ok (.putfield 72, 3) := by decide +kernel
theorem dX6_was_5 : decode cX6_was 5 = .ok (.iload_n 1, 1) := by decide +kernel
theorem dX6_was_6 : decode cX6_was 6 = .ok (.ifCond .lt 15, 3) := by decide +kernel
theorem dX6_was_9 : decode cX6_was 9 = .ok (.iload_n 1, 1) := by decide +kernel
theorem dX6_was_10 : decode cX6_was 10 = .ok (.aload_n 0, 1) := by decide +kernel
theorem dX6_was_11 : decode cX6_was 11 = .ok (.getfield 184, 3) := by decide +kernel
theorem dX6_was_14 : decode cX6_was 14 = .ok (.if_icmp .gt 7, 3) := by decide +kernel
theorem dX6_was_17 : decode cX6_was 17 = .ok (.iload_n 2, 1) := by decide +kernel
theorem dX6_was_18 : decode cX6_was 18 = .ok (.ifCond .ge 5, 3) := by decide +kernel
theorem dX6_was_21 : decode cX6_was 21 = .ok (.iconst (-1), 1) := by decide +kernel
theorem dX6_was_22 : decode cX6_was 22 = .ok (.ireturn, 1) := by decide +kernel
theorem dX6_was_23 : decode cX6_was 23 = .ok (.iload_n 1, 1) := by decide +kernel
theorem dX6_was_24 : decode cX6_was 24 = .ok (.ifCond .ne 23, 3) := by decide +kernel
theorem dX6_was_27 : decode cX6_was 27 = .ok (.iload_n 2, 1) := by decide +kernel
theorem dX6_was_28 : decode cX6_was 28 = .ok (.aload_n 0, 1) := by decide +kernel
theorem dX6_was_29 : decode cX6_was 29 = .ok (.getfield 175, 3) := by decide +kernel
theorem dX6_was_32 : decode cX6_was 32 = .ok (.if_icmp .ge 12, 3) := by decide +kernel
theorem dX6_was_35 : decode cX6_was 35 = .ok (.aload_n 0, 1) := by decide +kernel
theorem dX6_was_36 : decode cX6_was 36 = .ok (.getfield 13, 3) := by decide +kernel
theorem dX6_was_39 : decode cX6_was 39 = .ok (.iload_n 2, 1) := by decide +kernel
theorem dX6_was_40 : decode cX6_was 40 = .ok (.iaload, 1) := by decide +kernel
theorem dX6_was_41 : decode cX6_was 41 = .ok (.goto 5, 3) := by decide +kernel
theorem dX6_was_44 : decode cX6_was 44 = .ok (.bipush (-2), 2) := by decide +kernel
theorem dX6_was_46 : decode cX6_was 46 = .ok (.ireturn, 1) := by decide +kernel
theorem dX6_was_47 : decode cX6_was 47 = .ok (.aload_n 0, 1) := by decide +kernel
theorem dX6_was_48 : decode cX6_was 48 = .ok (.getfield 184, 3) := by decide +kernel
theorem dX6_was_51 : decode cX6_was 51 = .ok (.iload_n 1, 1) := by decide +kernel
theorem dX6_was_52 : decode cX6_was 52 = .ok (.isub, 1) := by decide +kernel
theorem dX6_was_53 : decode cX6_was 53 = .ok (.istore_n 3, 1) := by decide +kernel
theorem dX6_was_54 : decode cX6_was 54 = .ok (.iload_n 2, 1) := by decide +kernel
theorem dX6_was_55 : decode cX6_was 55 = .ok (.aload_n 0, 1) := by decide +kernel
theorem dX6_was_56 : decode cX6_was 56 = .ok (.getfield 25, 3) := by decide +kernel
theorem dX6_was_59 : decode cX6_was 59 = .ok (.iload_n 3, 1) := by decide +kernel
theorem dX6_was_60 : decode cX6_was 60 = .ok (.iaload, 1) := by decide +kernel
theorem dX6_was_61 : decode cX6_was 61 = .ok (.if_icmp .ge 17, 3) := by decide +kernel
theorem dX6_was_64 : decode cX6_was 64 = .ok (.aload_n 0, 1) := by decide +kernel
theorem dX6_was_65 : decode cX6_was 65 = .ok (.getfield 19, 3) := by decide +kernel
theorem dX6_was_68 : decode cX6_was 68 = .ok (.bipush 120, 2) := by decide +kernel
theorem dX6_was_70 : decode cX6_was 70 = .ok (.iload_n 3, 1) := by decide +kernel
theorem dX6_was_71 : decode cX6_was 71 = .ok (.imul, 1) := by decide +kernel
theorem dX6_was_72 : decode cX6_was 72 = .ok (.iload_n 2, 1) := by decide +kernel
theorem dX6_was_73 : decode cX6_was 73 = .ok (.iadd, 1) := by decide +kernel
theorem dX6_was_74 : decode cX6_was 74 = .ok (.iaload, 1) := by decide +kernel
theorem dX6_was_75 : decode cX6_was 75 = .ok (.goto 5, 3) := by decide +kernel
theorem dX6_was_78 : decode cX6_was 78 = .ok (.bipush (-2), 2) := by decide +kernel
theorem dX6_was_80 : decode cX6_was 80 = .ok (.ireturn, 1) := by decide +kernel
theorem dX6_timesIn_0 : decode cX6_timesIn 0 = .ok (.iconst 0, 1) := by decide +kernel
theorem dX6_timesIn_1 : decode cX6_timesIn 1 = .ok (.istore 4, 2) := by decide +kernel
theorem dX6_timesIn_3 : decode cX6_timesIn 3 = .ok (.iload_n 1, 1) := by decide +kernel
theorem dX6_timesIn_4 : decode cX6_timesIn 4 = .ok (.istore 5, 2) := by decide +kernel
theorem dX6_timesIn_6 : decode cX6_timesIn 6 = .ok (.iload 5, 2) := by decide +kernel
theorem dX6_timesIn_8 : decode cX6_timesIn 8 = .ok (.iload_n 2, 1) := by decide +kernel
theorem dX6_timesIn_9 : decode cX6_timesIn 9 = .ok (.if_icmp .gt 30, 3) := by decide +kernel
theorem dX6_timesIn_12 : decode cX6_timesIn 12 = .ok (.iload 4, 2) := by decide +kernel
theorem dX6_timesIn_14 : decode cX6_timesIn 14 = .ok (.aload_n 0, 1) := by decide +kernel
theorem dX6_timesIn_15 : decode cX6_timesIn 15 = .ok (.getfield 13, 3) := by decide +kernel
theorem dX6_timesIn_18 : decode cX6_timesIn 18 = .ok (.iload 5, 2) := by decide +kernel
theorem dX6_timesIn_20 : decode cX6_timesIn 20 = .ok (.iaload, 1) := by decide +kernel
theorem dX6_timesIn_21 : decode cX6_timesIn 21 = .ok (.iload_n 3, 1) := by decide +kernel
theorem dX6_timesIn_22 : decode cX6_timesIn 22 = .ok (.if_icmp .ne 7, 3) := by decide +kernel
theorem dX6_timesIn_25 : decode cX6_timesIn 25 = .ok (.iconst 1, 1) := by decide +kernel
theorem dX6_timesIn_26 : decode cX6_timesIn 26 = .ok (.goto 4, 3) := by decide +kernel
theorem dX6_timesIn_29 : decode cX6_timesIn 29 = .ok (.iconst 0, 1) := by decide +kernel
theorem dX6_timesIn_30 : decode cX6_timesIn 30 = .ok (.iadd, 1) := by decide +kernel
theorem dX6_timesIn_31 : decode cX6_timesIn 31 = .ok (.istore 4, 2) := by decide +kernel
theorem dX6_timesIn_33 : decode cX6_timesIn 33 = .ok (.iinc 5 1, 3) := by decide +kernel
theorem dX6_timesIn_36 : decode cX6_timesIn 36 = .ok (.goto (-30), 3) := by decide +kernel
theorem dX6_timesIn_39 : decode cX6_timesIn 39 = .ok (.iload 4, 2) := by decide +kernel
theorem dX6_timesIn_41 : decode cX6_timesIn 41 = .ok (.ireturn, 1) := by decide +kernel
theorem dX6_counts_0 : decode cX6_counts 0 = .ok (.iconst 0, 1) := by decide +kernel
theorem dX6_counts_1 : decode cX6_counts 1 = .ok (.istore 4, 2) := by decide +kernel
theorem dX6_counts_3 : decode cX6_counts 3 = .ok (.iload 4, 2) := by decide +kernel
theorem dX6_counts_5 : decode cX6_counts 5 = .ok (.sipush 1000, 3) := by decide +kernel
theorem dX6_counts_8 : decode cX6_counts 8 = .ok (.if_icmp .ge 17, 3) := by decide +kernel
theorem dX6_counts_11 : decode cX6_counts 11 = .ok (.aload_n 0, 1) := by decide +kernel
theorem dX6_counts_12 : decode cX6_counts 12 = .ok (.getfield 47, 3) := by decide +kernel
theorem dX6_counts_15 : decode cX6_counts 15 = .ok (.iload 4, 2) := by decide +kernel
theorem dX6_counts_17 : decode cX6_counts 17 = .ok (.iconst 0, 1) := by decide +kernel
theorem dX6_counts_18 : decode cX6_counts 18 = .ok (.iastore, 1) := by decide +kernel
theorem dX6_counts_19 : decode cX6_counts 19 = .ok (.iinc 4 1, 3) := by decide +kernel
theorem dX6_counts_22 : decode cX6_counts 22 = .ok (.goto (-19), 3) := by decide +kernel
theorem dX6_counts_25 : decode cX6_counts 25 = .ok (.aload_n 0, 1) := by decide +kernel
theorem dX6_counts_26 : decode cX6_counts 26 = .ok (.iconst 0, 1) := by decide +kernel
theorem dX6_counts_27 : decode cX6_counts 27 = .ok (.putfield 242, 3) := by decide +kernel
theorem dX6_counts_30 : decode cX6_counts 30 = .ok (.iload_n 1, 1) := by decide +kernel
theorem dX6_counts_31 : decode cX6_counts 31 = .ok (.istore 4, 2) := by decide +kernel
theorem dX6_counts_33 : decode cX6_counts 33 = .ok (.iload 4, 2) := by decide +kernel
theorem dX6_counts_35 : decode cX6_counts 35 = .ok (.iload_n 2, 1) := by decide +kernel
theorem dX6_counts_36 : decode cX6_counts 36 = .ok (.if_icmp .gt 87, 3) := by decide +kernel
theorem dX6_counts_39 : decode cX6_counts 39 = .ok (.iload 4, 2) := by decide +kernel
theorem dX6_counts_41 : decode cX6_counts 41 = .ok (.iload_n 3, 1) := by decide +kernel
theorem dX6_counts_42 : decode cX6_counts 42 = .ok (.if_icmp .ne 6, 3) := by decide +kernel
theorem dX6_counts_45 : decode cX6_counts 45 = .ok (.goto 72, 3) := by decide +kernel
theorem dX6_counts_48 : decode cX6_counts 48 = .ok (.aload_n 0, 1) := by decide +kernel
theorem dX6_counts_49 : decode cX6_counts 49 = .ok (.getfield 13, 3) := by decide +kernel
theorem dX6_counts_52 : decode cX6_counts 52 = .ok (.iload 4, 2) := by decide +kernel
theorem dX6_counts_54 : decode cX6_counts 54 = .ok (.iaload, 1) := by decide +kernel
theorem dX6_counts_55 : decode cX6_counts 55 = .ok (.istore 5, 2) := by decide +kernel
theorem dX6_counts_57 : decode cX6_counts 57 = .ok (.aload_n 0, 1) := by decide +kernel
theorem dX6_counts_58 : decode cX6_counts 58 = .ok (.getfield 47, 3) := by decide +kernel
theorem dX6_counts_61 : decode cX6_counts 61 = .ok (.iload 5, 2) := by decide +kernel
theorem dX6_counts_63 : decode cX6_counts 63 = .ok (.iaload, 1) := by decide +kernel
theorem dX6_counts_64 : decode cX6_counts 64 = .ok (.ifCond .ne 33, 3) := by decide +kernel
theorem dX6_counts_67 : decode cX6_counts 67 = .ok (.aload_n 0, 1) := by decide +kernel
theorem dX6_counts_68 : decode cX6_counts 68 = .ok (.getfield 50, 3) := by decide +kernel
theorem dX6_counts_71 : decode cX6_counts 71 = .ok (.iload 5, 2) := by decide +kernel
theorem dX6_counts_73 : decode cX6_counts 73 = .ok (.iload 4, 2) := by decide +kernel
theorem dX6_counts_75 : decode cX6_counts 75 = .ok (.iastore, 1) := by decide +kernel
theorem dX6_counts_76 : decode cX6_counts 76 = .ok (.aload_n 0, 1) := by decide +kernel
theorem dX6_counts_77 : decode cX6_counts 77 = .ok (.getfield 56, 3) := by decide +kernel
theorem dX6_counts_80 : decode cX6_counts 80 = .ok (.aload_n 0, 1) := by decide +kernel
theorem dX6_counts_81 : decode cX6_counts 81 = .ok (.getfield 242, 3) := by decide +kernel
theorem dX6_counts_84 : decode cX6_counts 84 = .ok (.iload 5, 2) := by decide +kernel
theorem dX6_counts_86 : decode cX6_counts 86 = .ok (.iastore, 1) := by decide +kernel
theorem dX6_counts_87 : decode cX6_counts 87 = .ok (.aload_n 0, 1) := by decide +kernel
theorem dX6_counts_88 : decode cX6_counts 88 = .ok (.dup, 1) := by decide +kernel
theorem dX6_counts_89 : decode cX6_counts 89 = .ok (.getfield 242, 3) := by decide +kernel
theorem dX6_counts_92 : decode cX6_counts 92 = .ok (.iconst 1, 1) := by decide +kernel
theorem dX6_counts_93 : decode cX6_counts 93 = .ok (.iadd, 1) := by decide +kernel
theorem dX6_counts_94 : decode cX6_counts 94 = .ok (.putfield 242, 3) := by decide +kernel
theorem dX6_counts_97 : decode cX6_counts 97 = .ok (.aload_n 0, 1) := by decide +kernel
theorem dX6_counts_98 : decode cX6_counts 98 = .ok (.getfield 53, 3) := by decide +kernel
theorem dX6_counts_101 : decode cX6_counts 101 = .ok (.iload 5, 2) := by decide +kernel
theorem dX6_counts_103 : decode cX6_counts 103 = .ok (.iload 4, 2) := by decide +kernel
theorem dX6_counts_105 : decode cX6_counts 105 = .ok (.iastore, 1) := by decide +kernel
theorem dX6_counts_106 : decode cX6_counts 106 = .ok (.aload_n 0, 1) := by decide +kernel
theorem dX6_counts_107 : decode cX6_counts 107 = .ok (.getfield 47, 3) := by decide +kernel
theorem dX6_counts_110 : decode cX6_counts 110 = .ok (.iload 5, 2) := by decide +kernel
theorem dX6_counts_112 : decode cX6_counts 112 = .ok (.dup2, 1) := by decide +kernel
theorem dX6_counts_113 : decode cX6_counts 113 = .ok (.iaload, 1) := by decide +kernel
theorem dX6_counts_114 : decode cX6_counts 114 = .ok (.iconst 1, 1) := by decide +kernel
theorem dX6_counts_115 : decode cX6_counts 115 = .ok (.iadd, 1) := by decide +kernel
theorem dX6_counts_116 : decode cX6_counts 116 = .ok (.iastore, 1) := by decide +kernel
theorem dX6_counts_117 : decode cX6_counts 117 = .ok (.iinc 4 1, 3) := by decide +kernel
theorem dX6_counts_120 : decode cX6_counts 120 = .ok (.goto (-87), 3) := by decide +kernel
theorem dX6_counts_123 : decode cX6_counts 123 = .ok (.return_, 1) := by decide +kernel
theorem dX6_isAhead_0 : decode cX6_isAhead 0 = .ok (.aload_n 0, 1) := by decide +kernel
theorem dX6_isAhead_1 : decode cX6_isAhead 1 = .ok (.getfield 47, 3) := by decide +kernel
theorem dX6_isAhead_4 : decode cX6_isAhead 4 = .ok (.iload_n 1, 1) := by decide +kernel
theorem dX6_isAhead_5 : decode cX6_isAhead 5 = .ok (.iaload, 1) := by decide +kernel
theorem dX6_isAhead_6 : decode cX6_isAhead 6 = .ok (.aload_n 0, 1) := by decide +kernel
theorem dX6_isAhead_7 : decode cX6_isAhead 7 = .ok (.getfield 47, 3) := by decide +kernel
theorem dX6_isAhead_10 : decode cX6_isAhead 10 = .ok (.iload_n 2, 1) := by decide +kernel
theorem dX6_isAhead_11 : decode cX6_isAhead 11 = .ok (.iaload, 1) := by decide +kernel
theorem dX6_isAhead_12 : decode cX6_isAhead 12 = .ok (.if_icmp .eq 24, 3) := by decide +kernel
theorem dX6_isAhead_15 : decode cX6_isAhead 15 = .ok (.aload_n 0, 1) := by decide +kernel
theorem dX6_isAhead_16 : decode cX6_isAhead 16 = .ok (.getfield 47, 3) := by decide +kernel
theorem dX6_isAhead_19 : decode cX6_isAhead 19 = .ok (.iload_n 1, 1) := by decide +kernel
theorem dX6_isAhead_20 : decode cX6_isAhead 20 = .ok (.iaload, 1) := by decide +kernel
theorem dX6_isAhead_21 : decode cX6_isAhead 21 = .ok (.aload_n 0, 1) := by decide +kernel
theorem dX6_isAhead_22 : decode cX6_isAhead 22 = .ok (.getfield 47, 3) := by decide +kernel
theorem dX6_isAhead_25 : decode cX6_isAhead 25 = .ok (.iload_n 2, 1) := by decide +kernel
theorem dX6_isAhead_26 : decode cX6_isAhead 26 = .ok (.iaload, 1) := by decide +kernel
theorem dX6_isAhead_27 : decode cX6_isAhead 27 = .ok (.if_icmp .le 7, 3) := by decide +kernel
theorem dX6_isAhead_30 : decode cX6_isAhead 30 = .ok (.iconst 1, 1) := by decide +kernel
theorem dX6_isAhead_31 : decode cX6_isAhead 31 = .ok (.goto 4, 3) := by decide +kernel
theorem dX6_isAhead_34 : decode cX6_isAhead 34 = .ok (.iconst 0, 1) := by decide +kernel
theorem dX6_isAhead_35 : decode cX6_isAhead 35 = .ok (.ireturn, 1) := by decide +kernel
theorem dX6_isAhead_36 : decode cX6_isAhead 36 = .ok (.iload_n 3, 1) := by decide +kernel
theorem dX6_isAhead_37 : decode cX6_isAhead 37 = .ok (.tableswitch 80 0 2 #[27, 48, 69], 27) := by decide +kernel
theorem dX6_isAhead_64 : decode cX6_isAhead 64 = .ok (.aload_n 0, 1) := by decide +kernel
theorem dX6_isAhead_65 : decode cX6_isAhead 65 = .ok (.getfield 50, 3) := by decide +kernel
theorem dX6_isAhead_68 : decode cX6_isAhead 68 = .ok (.iload_n 1, 1) := by decide +kernel
theorem dX6_isAhead_69 : decode cX6_isAhead 69 = .ok (.iaload, 1) := by decide +kernel
theorem dX6_isAhead_70 : decode cX6_isAhead 70 = .ok (.aload_n 0, 1) := by decide +kernel
theorem dX6_isAhead_71 : decode cX6_isAhead 71 = .ok (.getfield 50, 3) := by decide +kernel
theorem dX6_isAhead_74 : decode cX6_isAhead 74 = .ok (.iload_n 2, 1) := by decide +kernel
theorem dX6_isAhead_75 : decode cX6_isAhead 75 = .ok (.iaload, 1) := by decide +kernel
theorem dX6_isAhead_76 : decode cX6_isAhead 76 = .ok (.if_icmp .ge 7, 3) := by decide +kernel
theorem dX6_isAhead_79 : decode cX6_isAhead 79 = .ok (.iconst 1, 1) := by decide +kernel
theorem dX6_isAhead_80 : decode cX6_isAhead 80 = .ok (.goto 4, 3) := by decide +kernel
theorem dX6_isAhead_83 : decode cX6_isAhead 83 = .ok (.iconst 0, 1) := by decide +kernel
theorem dX6_isAhead_84 : decode cX6_isAhead 84 = .ok (.ireturn, 1) := by decide +kernel
theorem dX6_isAhead_85 : decode cX6_isAhead 85 = .ok (.aload_n 0, 1) := by decide +kernel
theorem dX6_isAhead_86 : decode cX6_isAhead 86 = .ok (.getfield 53, 3) := by decide +kernel
theorem dX6_isAhead_89 : decode cX6_isAhead 89 = .ok (.iload_n 1, 1) := by decide +kernel
theorem dX6_isAhead_90 : decode cX6_isAhead 90 = .ok (.iaload, 1) := by decide +kernel
theorem dX6_isAhead_91 : decode cX6_isAhead 91 = .ok (.aload_n 0, 1) := by decide +kernel
theorem dX6_isAhead_92 : decode cX6_isAhead 92 = .ok (.getfield 53, 3) := by decide +kernel
theorem dX6_isAhead_95 : decode cX6_isAhead 95 = .ok (.iload_n 2, 1) := by decide +kernel
theorem dX6_isAhead_96 : decode cX6_isAhead 96 = .ok (.iaload, 1) := by decide +kernel
theorem dX6_isAhead_97 : decode cX6_isAhead 97 = .ok (.if_icmp .le 7, 3) := by decide +kernel
theorem dX6_isAhead_100 : decode cX6_isAhead 100 = .ok (.iconst 1, 1) := by decide +kernel
theorem dX6_isAhead_101 : decode cX6_isAhead 101 = .ok (.goto 4, 3) := by decide +kernel
theorem dX6_isAhead_104 : decode cX6_isAhead 104 = .ok (.iconst 0, 1) := by decide +kernel
theorem dX6_isAhead_105 : decode cX6_isAhead 105 = .ok (.ireturn, 1) := by decide +kernel
theorem dX6_isAhead_106 : decode cX6_isAhead 106 = .ok (.iload_n 1, 1) := by decide +kernel
theorem dX6_isAhead_107 : decode cX6_isAhead 107 = .ok (.iload_n 2, 1) := by decide +kernel
theorem dX6_isAhead_108 : decode cX6_isAhead 108 = .ok (.if_icmp .ge 7, 3) := by decide +kernel
theorem dX6_isAhead_111 : decode cX6_isAhead 111 = .ok (.iconst 1, 1) := by decide +kernel
theorem dX6_isAhead_112 : decode cX6_isAhead 112 = .ok (.goto 4, 3) := by decide +kernel
theorem dX6_isAhead_115 : decode cX6_isAhead 115 = .ok (.iconst 0, 1) := by decide +kernel
theorem dX6_isAhead_116 : decode cX6_isAhead 116 = .ok (.ireturn, 1) := by decide +kernel
theorem dX6_isAhead_117 : decode cX6_isAhead 117 = .ok (.iload_n 1, 1) := by decide +kernel
theorem dX6_isAhead_118 : decode cX6_isAhead 118 = .ok (.iload_n 2, 1) := by decide +kernel
theorem dX6_isAhead_119 : decode cX6_isAhead 119 = .ok (.if_icmp .le 7, 3) := by decide +kernel
theorem dX6_isAhead_122 : decode cX6_isAhead 122 = .ok (.iconst 1, 1) := by decide +kernel
theorem dX6_isAhead_123 : decode cX6_isAhead 123 = .ok (.goto 4, 3) := by decide +kernel
theorem dX6_isAhead_126 : decode cX6_isAhead 126 = .ok (.iconst 0, 1) := by decide +kernel
theorem dX6_isAhead_127 : decode cX6_isAhead 127 = .ok (.ireturn, 1) := by decide +kernel
set_option maxRecDepth 20000 in
theorem ggX6_rankOf_X6_isAhead : GoodIn wsX6_rankOf wsX6_isAhead := goodIn_r _ [7, 8, 9, 10, 11, 12, 13, 14, 15, 16, 17, 18, 19, 20, 21, 22, 23, 24, 25, 26, 27, 28, 29, 30, 31, 32, 33, 34, 35, 36, 37, 38, 39, 40, 41, 42, 43, 44, 45, 46, 47, 48, 49, 50, 51, 52] rfl (by decide +kernel)
set_option maxRecDepth 20000 in
theorem gX6_rankOf_X6_isAhead : GoodIn wsX6_rankOf (wsV RX6 245 RX6 yX6_isAhead wsX6_isAhead) := goodIn_app (goodIn_r _ [3, 4, 5, 6] rfl (by decide +kernel)) ggX6_rankOf_X6_isAhead
theorem dX6_rankOf_0 : decode cX6_rankOf 0 = .ok (.iconst 0, 1) := by decide +kernel
theorem dX6_rankOf_1 : decode cX6_rankOf 1 = .ok (.istore_n 3, 1) := by decide +kernel
theorem dX6_rankOf_2 : decode cX6_rankOf 2 = .ok (.iconst 0, 1) := by decide +kernel
theorem dX6_rankOf_3 : decode cX6_rankOf 3 = .ok (.istore 4, 2) := by decide +kernel
theorem dX6_rankOf_5 : decode cX6_rankOf 5 = .ok (.iload 4, 2) := by decide +kernel
theorem dX6_rankOf_7 : decode cX6_rankOf 7 = .ok (.aload_n 0, 1) := by decide +kernel
theorem dX6_rankOf_8 : decode cX6_rankOf 8 = .ok (.getfield 242, 3) := by decide +kernel
theorem dX6_rankOf_11 : decode cX6_rankOf 11 = .ok (.if_icmp .ge 44, 3) := by decide +kernel
theorem dX6_rankOf_14 : decode cX6_rankOf 14 = .ok (.iload_n 3, 1) := by decide +kernel
theorem dX6_rankOf_15 : decode cX6_rankOf 15 = .ok (.aload_n 0, 1) := by decide +kernel
theorem dX6_rankOf_16 : decode cX6_rankOf 16 = .ok (.getfield 56, 3) := by decide +kernel
theorem dX6_rankOf_19 : decode cX6_rankOf 19 = .ok (.iload 4, 2) := by decide +kernel
theorem dX6_rankOf_21 : decode cX6_rankOf 21 = .ok (.iaload, 1) := by decide +kernel
theorem dX6_rankOf_22 : decode cX6_rankOf 22 = .ok (.iload_n 1, 1) := by decide +kernel
theorem dX6_rankOf_23 : decode cX6_rankOf 23 = .ok (.if_icmp .eq 23, 3) := by decide +kernel
theorem dX6_rankOf_26 : decode cX6_rankOf 26 = .ok (.aload_n 0, 1) := by decide +kernel
theorem dX6_rankOf_27 : decode cX6_rankOf 27 = .ok (.aload_n 0, 1) := by decide +kernel
theorem dX6_rankOf_28 : decode cX6_rankOf 28 = .ok (.getfield 56, 3) := by decide +kernel
theorem dX6_rankOf_31 : decode cX6_rankOf 31 = .ok (.iload 4, 2) := by decide +kernel
theorem dX6_rankOf_33 : decode cX6_rankOf 33 = .ok (.iaload, 1) := by decide +kernel
theorem dX6_rankOf_34 : decode cX6_rankOf 34 = .ok (.iload_n 1, 1) := by decide +kernel
theorem dX6_rankOf_35 : decode cX6_rankOf 35 = .ok (.iload_n 2, 1) := by decide +kernel
theorem dX6_rankOf_36 : decode cX6_rankOf 36 = .ok (.invokevirtual 245, 3) := by decide +kernel
theorem dX6_rankOf_39 : decode cX6_rankOf 39 = .ok (.ifCond .eq 7, 3) := by decide +kernel
theorem dX6_rankOf_42 : decode cX6_rankOf 42 = .ok (.iconst 1, 1) := by decide +kernel
theorem dX6_rankOf_43 : decode cX6_rankOf 43 = .ok (.goto 4, 3) := by decide +kernel
theorem dX6_rankOf_46 : decode cX6_rankOf 46 = .ok (.iconst 0, 1) := by decide +kernel
theorem dX6_rankOf_47 : decode cX6_rankOf 47 = .ok (.iadd, 1) := by decide +kernel
theorem dX6_rankOf_48 : decode cX6_rankOf 48 = .ok (.istore_n 3, 1) := by decide +kernel
theorem dX6_rankOf_49 : decode cX6_rankOf 49 = .ok (.iinc 4 1, 3) := by decide +kernel
theorem dX6_rankOf_52 : decode cX6_rankOf 52 = .ok (.goto (-47), 3) := by decide +kernel
theorem dX6_rankOf_55 : decode cX6_rankOf 55 = .ok (.iload_n 3, 1) := by decide +kernel
theorem dX6_rankOf_56 : decode cX6_rankOf 56 = .ok (.ireturn, 1) := by decide +kernel
set_option maxRecDepth 20000 in
theorem ggX6_ofRank_X6_rankOf : GoodIn wsX6_ofRank wsX6_rankOf := goodIn_r _ [7, 1, 2, 8, 9, 10, 6, 11, 12, 13, 14, 15, 16, 17, 18, 19, 20, 21, 22, 23, 24, 25, 26, 27, 28, 29, 30, 31, 32, 33, 34, 35, 36, 37, 38, 39, 40, 41, 42, 43, 44, 45, 46, 47, 48, 49, 50, 51, 52, 53, 54, 55, 56] rfl (by decide +kernel)
set_option maxRecDepth 20000 in
theorem gX6_ofRank_X6_rankOf : GoodIn wsX6_ofRank (wsV RX6 249 RX6 yX6_rankOf wsX6_rankOf) := goodIn_app (goodIn_r _ [3, 4, 5, 6] rfl (by decide +kernel)) ggX6_ofRank_X6_rankOf
theorem dX6_ofRank_0 : decode cX6_ofRank 0 = .ok (.iconst 0, 1) := by decide +kernel
theorem dX6_ofRank_1 : decode cX6_ofRank 1 = .ok (.istore_n 3, 1) := by decide +kernel
theorem dX6_ofRank_2 : decode cX6_ofRank 2 = .ok (.iload_n 3, 1) := by decide +kernel
theorem dX6_ofRank_3 : decode cX6_ofRank 3 = .ok (.aload_n 0, 1) := by decide +kernel
theorem dX6_ofRank_4 : decode cX6_ofRank 4 = .ok (.getfield 242, 3) := by decide +kernel
theorem dX6_ofRank_7 : decode cX6_ofRank 7 = .ok (.if_icmp .ge 31, 3) := by decide +kernel
theorem dX6_ofRank_10 : decode cX6_ofRank 10 = .ok (.aload_n 0, 1) := by decide +kernel
theorem dX6_ofRank_11 : decode cX6_ofRank 11 = .ok (.aload_n 0, 1) := by decide +kernel
theorem dX6_ofRank_12 : decode cX6_ofRank 12 = .ok (.getfield 56, 3) := by decide +kernel
theorem dX6_ofRank_15 : decode cX6_ofRank 15 = .ok (.iload_n 3, 1) := by decide +kernel
theorem dX6_ofRank_16 : decode cX6_ofRank 16 = .ok (.iaload, 1) := by decide +kernel
theorem dX6_ofRank_17 : decode cX6_ofRank 17 = .ok (.iload_n 2, 1) := by decide +kernel
theorem dX6_ofRank_18 : decode cX6_ofRank 18 = .ok (.invokevirtual 249, 3) := by decide +kernel
theorem dX6_ofRank_21 : decode cX6_ofRank 21 = .ok (.iload_n 1, 1) := by decide +kernel
theorem dX6_ofRank_22 : decode cX6_ofRank 22 = .ok (.if_icmp .ne 10, 3) := by decide +kernel
theorem dX6_ofRank_25 : decode cX6_ofRank 25 = .ok (.aload_n 0, 1) := by decide +kernel
theorem dX6_ofRank_26 : decode cX6_ofRank 26 = .ok (.getfield 56, 3) := by decide +kernel
theorem dX6_ofRank_29 : decode cX6_ofRank 29 = .ok (.iload_n 3, 1) := by decide +kernel
theorem dX6_ofRank_30 : decode cX6_ofRank 30 = .ok (.iaload, 1) := by decide +kernel
theorem dX6_ofRank_31 : decode cX6_ofRank 31 = .ok (.ireturn, 1) := by decide +kernel
theorem dX6_ofRank_32 : decode cX6_ofRank 32 = .ok (.iinc 3 1, 3) := by decide +kernel
theorem dX6_ofRank_35 : decode cX6_ofRank 35 = .ok (.goto (-33), 3) := by decide +kernel
theorem dX6_ofRank_38 : decode cX6_ofRank 38 = .ok (.iconst (-1), 1) := by decide +kernel
theorem dX6_ofRank_39 : decode cX6_ofRank 39 = .ok (.ireturn, 1) := by decide +kernel
set_option maxRecDepth 20000 in
theorem ggX6_modeBy_X6_isAhead : GoodIn wsX6_modeBy wsX6_isAhead := goodIn_r _ [7, 8, 9, 10, 11, 12, 13, 14, 15, 16, 17, 18, 19, 20, 21, 22, 23, 24, 25, 26, 27, 28, 29, 30, 31, 32, 33, 34, 35, 36, 37, 38, 39, 40, 41, 42, 43, 44, 45, 46, 47, 48, 49, 50, 51, 52] rfl (by decide +kernel)
set_option maxRecDepth 20000 in
theorem gX6_modeBy_X6_isAhead : GoodIn wsX6_modeBy (wsV RX6 245 RX6 yX6_isAhead wsX6_isAhead) := goodIn_app (goodIn_r _ [3, 4, 5, 6] rfl (by decide +kernel)) ggX6_modeBy_X6_isAhead
theorem dX6_modeBy_0 : decode cX6_modeBy 0 = .ok (.iconst (-1), 1) := by decide +kernel
theorem dX6_modeBy_1 : decode cX6_modeBy 1 = .ok (.istore_n 2, 1) := by decide +kernel
theorem dX6_modeBy_2 : decode cX6_modeBy 2 = .ok (.iconst 0, 1) := by decide +kernel
theorem dX6_modeBy_3 : decode cX6_modeBy 3 = .ok (.istore_n 3, 1) := by decide +kernel
theorem dX6_modeBy_4 : decode cX6_modeBy 4 = .ok (.iload_n 3, 1) := by decide +kernel
theorem dX6_modeBy_5 : decode cX6_modeBy 5 = .ok (.aload_n 0, 1) := by decide +kernel
theorem dX6_modeBy_6 : decode cX6_modeBy 6 = .ok (.getfield 242, 3) := by decide +kernel
theorem dX6_modeBy_9 : decode cX6_modeBy 9 = .ok (.if_icmp .ge 36, 3) := by decide +kernel
theorem dX6_modeBy_12 : decode cX6_modeBy 12 = .ok (.iload_n 2, 1) := by decide +kernel
theorem dX6_modeBy_13 : decode cX6_modeBy 13 = .ok (.iconst (-1), 1) := by decide +kernel
theorem dX6_modeBy_14 : decode cX6_modeBy 14 = .ok (.if_icmp .eq 18, 3) := by decide +kernel
theorem dX6_modeBy_17 : decode cX6_modeBy 17 = .ok (.aload_n 0, 1) := by decide +kernel
theorem dX6_modeBy_18 : decode cX6_modeBy 18 = .ok (.aload_n 0, 1) := by decide +kernel
theorem dX6_modeBy_19 : decode cX6_modeBy 19 = .ok (.getfield 56, 3) := by decide +kernel
theorem dX6_modeBy_22 : decode cX6_modeBy 22 = .ok (.iload_n 3, 1) := by decide +kernel
theorem dX6_modeBy_23 : decode cX6_modeBy 23 = .ok (.iaload, 1) := by decide +kernel
theorem dX6_modeBy_24 : decode cX6_modeBy 24 = .ok (.iload_n 2, 1) := by decide +kernel
theorem dX6_modeBy_25 : decode cX6_modeBy 25 = .ok (.iload_n 1, 1) := by decide +kernel
theorem dX6_modeBy_26 : decode cX6_modeBy 26 = .ok (.invokevirtual 245, 3) := by decide +kernel
theorem dX6_modeBy_29 : decode cX6_modeBy 29 = .ok (.ifCond .eq 10, 3) := by decide +kernel
theorem dX6_modeBy_32 : decode cX6_modeBy 32 = .ok (.aload_n 0, 1) := by decide +kernel
theorem dX6_modeBy_33 : decode cX6_modeBy 33 = .ok (.getfield 56, 3) := by decide +kernel
theorem dX6_modeBy_36 : decode cX6_modeBy 36 = .ok (.iload_n 3, 1) := by decide +kernel
theorem dX6_modeBy_37 : decode cX6_modeBy 37 = .ok (.iaload, 1) := by decide +kernel
theorem dX6_modeBy_38 : decode cX6_modeBy 38 = .ok (.istore_n 2, 1) := by decide +kernel
theorem dX6_modeBy_39 : decode cX6_modeBy 39 = .ok (.iinc 3 1, 3) := by decide +kernel
theorem dX6_modeBy_42 : decode cX6_modeBy 42 = .ok (.goto (-38), 3) := by decide +kernel
theorem dX6_modeBy_45 : decode cX6_modeBy 45 = .ok (.iload_n 2, 1) := by decide +kernel
theorem dX6_modeBy_46 : decode cX6_modeBy 46 = .ok (.ireturn, 1) := by decide +kernel
set_option maxRecDepth 20000 in
theorem ggX6_modeOf_X6_counts : GoodIn wsX6_modeOf wsX6_counts := goodIn_r _ [6, 7, 8, 9, 10, 11, 12, 21, 22, 23, 24, 25, 26, 27, 28, 29, 30, 31, 32, 33, 34, 35, 36, 37, 38, 39, 40, 41, 42, 43, 44, 45, 46, 47, 48, 49, 50, 51, 52, 53, 54, 55, 56, 57, 58, 59, 60, 61, 62] rfl (by decide +kernel)
set_option maxRecDepth 20000 in
theorem gX6_modeOf_X6_counts : GoodIn wsX6_modeOf (wsV RX6 252 RX6 yX6_counts wsX6_counts) := goodIn_app (goodIn_r _ [2, 3, 4, 5] rfl (by decide +kernel)) ggX6_modeOf_X6_counts
set_option maxRecDepth 20000 in
theorem ggX6_modeOf_X6_modeBy : GoodIn wsX6_modeOf wsX6_modeBy := goodIn_r _ [16, 8, 11, 17, 18, 19, 5, 20, 7, 10, 12, 21, 22, 23, 24, 25, 26, 27, 28, 29, 30, 31, 32, 33, 34, 35, 36, 37, 38, 39, 40, 41, 42, 43, 44, 45, 46, 47, 48, 49, 50, 51, 52, 53, 54, 55, 56, 57, 58, 59, 60, 61, 62] rfl (by decide +kernel)
set_option maxRecDepth 20000 in
theorem gX6_modeOf_X6_modeBy : GoodIn wsX6_modeOf (wsV RX6 256 RX6 yX6_modeBy wsX6_modeBy) := goodIn_app (goodIn_r _ [13, 14, 15, 5] rfl (by decide +kernel)) ggX6_modeOf_X6_modeBy
theorem dX6_modeOf_0 : decode cX6_modeOf 0 = .ok (.aload_n 0, 1) := by decide +kernel
theorem dX6_modeOf_1 : decode cX6_modeOf 1 = .ok (.iload_n 1, 1) := by decide +kernel
theorem dX6_modeOf_2 : decode cX6_modeOf 2 = .ok (.iload_n 2, 1) := by decide +kernel
theorem dX6_modeOf_3 : decode cX6_modeOf 3 = .ok (.iconst (-1), 1) := by decide +kernel
theorem dX6_modeOf_4 : decode cX6_modeOf 4 = .ok (.invokevirtual 252, 3) := by decide +kernel
theorem dX6_modeOf_7 : decode cX6_modeOf 7 = .ok (.aload_n 0, 1) := by decide +kernel
theorem dX6_modeOf_8 : decode cX6_modeOf 8 = .ok (.aload_n 0, 1) := by decide +kernel
theorem dX6_modeOf_9 : decode cX6_modeOf 9 = .ok (.getfield 178, 3) := by decide +kernel
theorem dX6_modeOf_12 : decode cX6_modeOf 12 = .ok (.invokevirtual 256, 3) := by decide +kernel
theorem dX6_modeOf_15 : decode cX6_modeOf 15 = .ok (.ireturn, 1) := by decide +kernel
theorem dX6_told_0 : decode cX6_told 0 = .ok (.iload_n 2, 1) := by decide +kernel
theorem dX6_told_1 : decode cX6_told 1 = .ok (.ifCond .ne 7, 3) := by decide +kernel
theorem dX6_told_4 : decode cX6_told 4 = .ok (.iload_n 1, 1) := by decide +kernel
theorem dX6_told_5 : decode cX6_told 5 = .ok (.goto 37, 3) := by decide +kernel
theorem dX6_told_8 : decode cX6_told 8 = .ok (.iload_n 2, 1) := by decide +kernel
theorem dX6_told_9 : decode cX6_told 9 = .ok (.iconst 1, 1) := by decide +kernel
theorem dX6_told_10 : decode cX6_told 10 = .ok (.if_icmp .ne 12, 3) := by decide +kernel
theorem dX6_told_13 : decode cX6_told 13 = .ok (.aload_n 0, 1) := by decide +kernel
theorem dX6_told_14 : decode cX6_told 14 = .ok (.getfield 47, 3) := by decide +kernel
theorem dX6_told_17 : decode cX6_told 17 = .ok (.iload_n 1, 1) := by decide +kernel
theorem dX6_told_18 : decode cX6_told 18 = .ok (.iaload, 1) := by decide +kernel
theorem dX6_told_19 : decode cX6_told 19 = .ok (.goto 23, 3) := by decide +kernel
theorem dX6_told_22 : decode cX6_told 22 = .ok (.iload_n 2, 1) := by decide +kernel
theorem dX6_told_23 : decode cX6_told 23 = .ok (.iconst 2, 1) := by decide +kernel
theorem dX6_told_24 : decode cX6_told 24 = .ok (.if_icmp .ne 12, 3) := by decide +kernel
theorem dX6_told_27 : decode cX6_told 27 = .ok (.aload_n 0, 1) := by decide +kernel
theorem dX6_told_28 : decode cX6_told 28 = .ok (.getfield 50, 3) := by decide +kernel
theorem dX6_told_31 : decode cX6_told 31 = .ok (.iload_n 1, 1) := by decide +kernel
theorem dX6_told_32 : decode cX6_told 32 = .ok (.iaload, 1) := by decide +kernel
theorem dX6_told_33 : decode cX6_told 33 = .ok (.goto 9, 3) := by decide +kernel
theorem dX6_told_36 : decode cX6_told 36 = .ok (.aload_n 0, 1) := by decide +kernel
theorem dX6_told_37 : decode cX6_told 37 = .ok (.getfield 53, 3) := by decide +kernel
theorem dX6_told_40 : decode cX6_told 40 = .ok (.iload_n 1, 1) := by decide +kernel
theorem dX6_told_41 : decode cX6_told 41 = .ok (.iaload, 1) := by decide +kernel
theorem dX6_told_42 : decode cX6_told 42 = .ok (.ireturn, 1) := by decide +kernel
set_option maxRecDepth 20000 in
theorem ggX6_mode_X6_isSpan : GoodIn wsX6_mode wsX6_isSpan := goodIn_r _ [6, 7, 35, 36, 37, 38, 39, 40, 41, 42, 43, 44, 45, 46, 47, 48, 49, 50, 51, 52, 53, 54, 55, 56, 57, 58, 59, 60, 61, 62, 63, 64, 65, 66, 67, 68, 69, 70, 71, 72, 73, 74, 75, 76] rfl (by decide +kernel)
set_option maxRecDepth 20000 in
theorem gX6_mode_X6_isSpan : GoodIn wsX6_mode (wsV RX6 232 RX6 yX6_isSpan wsX6_isSpan) := goodIn_app (goodIn_r _ [2, 3, 4, 5] rfl (by decide +kernel)) ggX6_mode_X6_isSpan
set_option maxRecDepth 20000 in
theorem ggX6_mode_X6_modeOf : GoodIn wsX6_mode wsX6_modeOf := goodIn_r _ [11, 12, 13, 14, 15, 5, 16, 17, 18, 19, 20, 21, 22, 23, 24, 25, 26, 27, 28, 29, 30, 35, 36, 37, 38, 39, 40, 41, 42, 43, 44, 45, 46, 47, 48, 49, 50, 51, 52, 53, 54, 55, 56, 57, 58, 59, 60, 61, 62, 63, 64, 65, 66, 67, 68, 69, 70, 71, 72, 73, 74, 75, 76] rfl (by decide +kernel)
set_option maxRecDepth 20000 in
theorem gX6_mode_X6_modeOf : GoodIn wsX6_mode (wsV RX6 260 RX6 yX6_modeOf wsX6_modeOf) := goodIn_app (goodIn_r _ [8, 9, 10, 5] rfl (by decide +kernel)) ggX6_mode_X6_modeOf
set_option maxRecDepth 20000 in
theorem ggX6_mode_X6_told : GoodIn wsX6_mode wsX6_told := goodIn_r _ [34, 17, 20, 22, 35, 36, 37, 38, 39, 40, 41, 42, 43, 44, 45, 46, 47, 48, 49, 50, 51, 52, 53, 54, 55, 56, 57, 58, 59, 60, 61, 62, 63, 64, 65, 66, 67, 68, 69, 70, 71, 72, 73, 74, 75, 76] rfl (by decide +kernel)
set_option maxRecDepth 20000 in
theorem gX6_mode_X6_told : GoodIn wsX6_mode (wsV RX6 263 RX6 yX6_told wsX6_told) := goodIn_app (goodIn_r _ [31, 32, 33, 5] rfl (by decide +kernel)) ggX6_mode_X6_told
theorem dX6_mode_0 : decode cX6_mode 0 = .ok (.aload_n 0, 1) := by decide +kernel
theorem dX6_mode_1 : decode cX6_mode 1 = .ok (.iconst 0, 1) := by decide +kernel
theorem dX6_mode_2 : decode cX6_mode 2 = .ok (.putfield 72, 3) := by decide +kernel
theorem dX6_mode_5 : decode cX6_mode 5 = .ok (.aload_n 0, 1) := by decide +kernel
theorem dX6_mode_6 : decode cX6_mode 6 = .ok (.iload_n 1, 1) := by decide +kernel
theorem dX6_mode_7 : decode cX6_mode 7 = .ok (.iload_n 2, 1) := by decide +kernel
theorem dX6_mode_8 : decode cX6_mode 8 = .ok (.invokevirtual 232, 3) := by decide +kernel
theorem dX6_mode_11 : decode cX6_mode 11 = .ok (.ifCond .eq 12, 3) := by decide +kernel
theorem dX6_mode_14 : decode cX6_mode 14 = .ok (.iload_n 3, 1) := by decide +kernel
theorem dX6_mode_15 : decode cX6_mode 15 = .ok (.ifCond .lt 8, 3) := by decide +kernel
theorem dX6_mode_18 : decode cX6_mode 18 = .ok (.iload_n 3, 1) := by decide +kernel
theorem dX6_mode_19 : decode cX6_mode 19 = .ok (.iconst 3, 1) := by decide +kernel
theorem dX6_mode_20 : decode cX6_mode 20 = .ok (.if_icmp .le 7, 3) := by decide +kernel
theorem dX6_mode_23 : decode cX6_mode 23 = .ok (.iconst (-1), 1) := by decide +kernel
theorem dX6_mode_24 : decode cX6_mode 24 = .ok (.goto 14, 3) := by decide +kernel
theorem dX6_mode_27 : decode cX6_mode 27 = .ok (.aload_n 0, 1) := by decide +kernel
theorem dX6_mode_28 : decode cX6_mode 28 = .ok (.aload_n 0, 1) := by decide +kernel
theorem dX6_mode_29 : decode cX6_mode 29 = .ok (.iload_n 1, 1) := by decide +kernel
theorem dX6_mode_30 : decode cX6_mode 30 = .ok (.iload_n 2, 1) := by decide +kernel
theorem dX6_mode_31 : decode cX6_mode 31 = .ok (.invokevirtual 260, 3) := by decide +kernel
theorem dX6_mode_34 : decode cX6_mode 34 = .ok (.iload_n 3, 1) := by decide +kernel
theorem dX6_mode_35 : decode cX6_mode 35 = .ok (.invokevirtual 263, 3) := by decide +kernel
theorem dX6_mode_38 : decode cX6_mode 38 = .ok (.ireturn, 1) := by decide +kernel
set_option maxRecDepth 20000 in
theorem ggX6_ranked_X6_isSpan : GoodIn wsX6_ranked wsX6_isSpan := goodIn_r _ [7, 8, 35, 36, 37, 38, 39, 40, 41, 42, 43, 44, 45, 46, 47, 48, 49, 50, 51, 52, 53, 54, 55, 56, 57, 58, 59, 60, 61, 62, 63, 64, 65, 66, 67, 68, 69, 70, 71, 72, 73, 74, 75, 76] rfl (by decide +kernel)
set_option maxRecDepth 20000 in
theorem gX6_ranked_X6_isSpan : GoodIn wsX6_ranked (wsV RX6 232 RX6 yX6_isSpan wsX6_isSpan) := goodIn_app (goodIn_r _ [3, 4, 5, 6] rfl (by decide +kernel)) ggX6_ranked_X6_isSpan
set_option maxRecDepth 20000 in
theorem ggX6_ranked_X6_counts : GoodIn wsX6_ranked wsX6_counts := goodIn_r _ [12, 13, 14, 15, 16, 17, 18, 35, 36, 37, 38, 39, 40, 41, 42, 43, 44, 45, 46, 47, 48, 49, 50, 51, 52, 53, 54, 55, 56, 57, 58, 59, 60, 61, 62, 63, 64, 65, 66, 67, 68, 69, 70, 71, 72, 73, 74, 75, 76] rfl (by decide +kernel)
set_option maxRecDepth 20000 in
theorem gX6_ranked_X6_counts : GoodIn wsX6_ranked (wsV RX6 252 RX6 yX6_counts wsX6_counts) := goodIn_app (goodIn_r _ [9, 10, 11, 6] rfl (by decide +kernel)) ggX6_ranked_X6_counts
set_option maxRecDepth 20000 in
theorem ggX6_ranked_X6_ofRank : GoodIn wsX6_ranked wsX6_ofRank := goodIn_r _ [22, 14, 17, 23, 24, 25, 6, 26, 27, 28, 29, 30, 13, 16, 18, 35, 36, 37, 38, 39, 40, 41, 42, 43, 44, 45, 46, 47, 48, 49, 50, 51, 52, 53, 54, 55, 56, 57, 58, 59, 60, 61, 62, 63, 64, 65, 66, 67, 68, 69, 70, 71, 72, 73, 74, 75, 76] rfl (by decide +kernel)
set_option maxRecDepth 20000 in
theorem gX6_ranked_X6_ofRank : GoodIn wsX6_ranked (wsV RX6 266 RX6 yX6_ofRank wsX6_ofRank) := goodIn_app (goodIn_r _ [19, 20, 21, 6] rfl (by decide +kernel)) ggX6_ranked_X6_ofRank
set_option maxRecDepth 20000 in
theorem ggX6_ranked_X6_told : GoodIn wsX6_ranked wsX6_told := goodIn_r _ [34, 13, 16, 18, 35, 36, 37, 38, 39, 40, 41, 42, 43, 44, 45, 46, 47, 48, 49, 50, 51, 52, 53, 54, 55, 56, 57, 58, 59, 60, 61, 62, 63, 64, 65, 66, 67, 68, 69, 70, 71, 72, 73, 74, 75, 76] rfl (by decide +kernel)
set_option maxRecDepth 20000 in
theorem gX6_ranked_X6_told : GoodIn wsX6_ranked (wsV RX6 263 RX6 yX6_told wsX6_told) := goodIn_app (goodIn_r _ [31, 32, 33, 6] rfl (by decide +kernel)) ggX6_ranked_X6_told
theorem dX6_ranked_0 : decode cX6_ranked 0 = .ok (.aload_n 0, 1) := by decide +kernel
theorem dX6_ranked_1 : decode cX6_ranked 1 = .ok (.iconst 0, 1) := by decide +kernel
theorem dX6_ranked_2 : decode cX6_ranked 2 = .ok (.putfield 72, 3) := by decide +kernel
theorem dX6_ranked_5 : decode cX6_ranked 5 = .ok (.aload_n 0, 1) := by decide +kernel
theorem dX6_ranked_6 : decode cX6_ranked 6 = .ok (.iload_n 1, 1) := by decide +kernel
theorem dX6_ranked_7 : decode cX6_ranked 7 = .ok (.iload_n 2, 1) := by decide +kernel
theorem dX6_ranked_8 : decode cX6_ranked 8 = .ok (.invokevirtual 232, 3) := by decide +kernel
theorem dX6_ranked_11 : decode cX6_ranked 11 = .ok (.ifCond .eq 18, 3) := by decide +kernel
theorem dX6_ranked_14 : decode cX6_ranked 14 = .ok (.iload_n 3, 1) := by decide +kernel
theorem dX6_ranked_15 : decode cX6_ranked 15 = .ok (.ifCond .lt 14, 3) := by decide +kernel
theorem dX6_ranked_18 : decode cX6_ranked 18 = .ok (.iload 4, 2) := by decide +kernel
theorem dX6_ranked_20 : decode cX6_ranked 20 = .ok (.ifCond .lt 9, 3) := by decide +kernel
theorem dX6_ranked_23 : decode cX6_ranked 23 = .ok (.iload 4, 2) := by decide +kernel
theorem dX6_ranked_25 : decode cX6_ranked 25 = .ok (.iconst 3, 1) := by decide +kernel
theorem dX6_ranked_26 : decode cX6_ranked 26 = .ok (.if_icmp .le 5, 3) := by decide +kernel
theorem dX6_ranked_29 : decode cX6_ranked 29 = .ok (.iconst (-1), 1) := by decide +kernel
theorem dX6_ranked_30 : decode cX6_ranked 30 = .ok (.ireturn, 1) := by decide +kernel
theorem dX6_ranked_31 : decode cX6_ranked 31 = .ok (.aload_n 0, 1) := by decide +kernel
theorem dX6_ranked_32 : decode cX6_ranked 32 = .ok (.iload_n 1, 1) := by decide +kernel
theorem dX6_ranked_33 : decode cX6_ranked 33 = .ok (.iload_n 2, 1) := by decide +kernel
theorem dX6_ranked_34 : decode cX6_ranked 34 = .ok (.iconst (-1), 1) := by decide +kernel
theorem dX6_ranked_35 : decode cX6_ranked 35 = .ok (.invokevirtual 252, 3) := by decide +kernel
theorem dX6_ranked_38 : decode cX6_ranked 38 = .ok (.aload_n 0, 1) := by decide +kernel
theorem dX6_ranked_39 : decode cX6_ranked 39 = .ok (.iload_n 3, 1) := by decide +kernel
theorem dX6_ranked_40 : decode cX6_ranked 40 = .ok (.aload_n 0, 1) := by decide +kernel
theorem dX6_ranked_41 : decode cX6_ranked 41 = .ok (.getfield 178, 3) := by decide +kernel
theorem dX6_ranked_44 : decode cX6_ranked 44 = .ok (.invokevirtual 266, 3) := by decide +kernel
theorem dX6_ranked_47 : decode cX6_ranked 47 = .ok (.istore 5, 2) := by decide +kernel
theorem dX6_ranked_49 : decode cX6_ranked 49 = .ok (.iload 5, 2) := by decide +kernel
theorem dX6_ranked_51 : decode cX6_ranked 51 = .ok (.iconst (-1), 1) := by decide +kernel
theorem dX6_ranked_52 : decode cX6_ranked 52 = .ok (.if_icmp .ne 8, 3) := by decide +kernel
theorem dX6_ranked_55 : decode cX6_ranked 55 = .ok (.bipush (-2), 2) := by decide +kernel
theorem dX6_ranked_57 : decode cX6_ranked 57 = .ok (.goto 11, 3) := by decide +kernel
theorem dX6_ranked_60 : decode cX6_ranked 60 = .ok (.aload_n 0, 1) := by decide +kernel
theorem dX6_ranked_61 : decode cX6_ranked 61 = .ok (.iload 5, 2) := by decide +kernel
theorem dX6_ranked_63 : decode cX6_ranked 63 = .ok (.iload 4, 2) := by decide +kernel
theorem dX6_ranked_65 : decode cX6_ranked 65 = .ok (.invokevirtual 263, 3) := by decide +kernel
theorem dX6_ranked_68 : decode cX6_ranked 68 = .ok (.ireturn, 1) := by decide +kernel
set_option maxRecDepth 20000 in
theorem ggX6_rank_X6_isSpan : GoodIn wsX6_rank wsX6_isSpan := goodIn_r _ [8, 9, 30, 31, 32, 33, 34, 35, 36, 37, 38, 39, 40, 41, 42, 43, 44, 45, 46, 47, 48, 49, 50, 51, 52, 53, 54, 55, 56, 57, 58, 59, 60, 61, 62, 63, 64, 65, 66, 67, 68, 69, 70, 71] rfl (by decide +kernel)
set_option maxRecDepth 20000 in
theorem gX6_rank_X6_isSpan : GoodIn wsX6_rank (wsV RX6 232 RX6 yX6_isSpan wsX6_isSpan) := goodIn_app (goodIn_r _ [4, 5, 6, 7] rfl (by decide +kernel)) ggX6_rank_X6_isSpan
set_option maxRecDepth 20000 in
theorem ggX6_rank_X6_isValue : GoodIn wsX6_rank wsX6_isValue := goodIn_r _ [12] rfl (by decide +kernel)
set_option maxRecDepth 20000 in
theorem gX6_rank_X6_isValue : GoodIn wsX6_rank (va_wsS RX6 220 yX6_isValue wsX6_isValue) := goodIn_app (goodIn_r _ [10, 11, 7] rfl (by decide +kernel)) ggX6_rank_X6_isValue
set_option maxRecDepth 20000 in
theorem ggX6_rank_X6_counts : GoodIn wsX6_rank wsX6_counts := goodIn_r _ [16, 2, 17, 18, 19, 20, 21, 30, 31, 32, 33, 34, 35, 36, 37, 38, 39, 40, 41, 42, 43, 44, 45, 46, 47, 48, 49, 50, 51, 52, 53, 54, 55, 56, 57, 58, 59, 60, 61, 62, 63, 64, 65, 66, 67, 68, 69, 70, 71] rfl (by decide +kernel)
set_option maxRecDepth 20000 in
theorem gX6_rank_X6_counts : GoodIn wsX6_rank (wsV RX6 252 RX6 yX6_counts wsX6_counts) := goodIn_app (goodIn_r _ [13, 14, 15, 7] rfl (by decide +kernel)) ggX6_rank_X6_counts
set_option maxRecDepth 20000 in
theorem ggX6_rank_X6_rankOf : GoodIn wsX6_rank wsX6_rankOf := goodIn_r _ [25, 17, 20, 26, 27, 28, 7, 29, 2, 19, 21, 30, 31, 32, 33, 34, 35, 36, 37, 38, 39, 40, 41, 42, 43, 44, 45, 46, 47, 48, 49, 50, 51, 52, 53, 54, 55, 56, 57, 58, 59, 60, 61, 62, 63, 64, 65, 66, 67, 68, 69, 70, 71] rfl (by decide +kernel)
set_option maxRecDepth 20000 in
theorem gX6_rank_X6_rankOf : GoodIn wsX6_rank (wsV RX6 249 RX6 yX6_rankOf wsX6_rankOf) := goodIn_app (goodIn_r _ [22, 23, 24, 7] rfl (by decide +kernel)) ggX6_rank_X6_rankOf
theorem dX6_rank_0 : decode cX6_rank 0 = .ok (.aload_n 0, 1) := by decide +kernel
theorem dX6_rank_1 : decode cX6_rank 1 = .ok (.iconst 0, 1) := by decide +kernel
theorem dX6_rank_2 : decode cX6_rank 2 = .ok (.putfield 72, 3) := by decide +kernel
theorem dX6_rank_5 : decode cX6_rank 5 = .ok (.aload_n 0, 1) := by decide +kernel
theorem dX6_rank_6 : decode cX6_rank 6 = .ok (.iload_n 1, 1) := by decide +kernel
theorem dX6_rank_7 : decode cX6_rank 7 = .ok (.iload_n 2, 1) := by decide +kernel
theorem dX6_rank_8 : decode cX6_rank 8 = .ok (.invokevirtual 232, 3) := by decide +kernel
theorem dX6_rank_11 : decode cX6_rank 11 = .ok (.ifCond .eq 10, 3) := by decide +kernel
theorem dX6_rank_14 : decode cX6_rank 14 = .ok (.iload_n 3, 1) := by decide +kernel
theorem dX6_rank_15 : decode cX6_rank 15 = .ok (.invokestatic 220, 3) := by decide +kernel
theorem dX6_rank_18 : decode cX6_rank 18 = .ok (.ifCond .ne 5, 3) := by decide +kernel
theorem dX6_rank_21 : decode cX6_rank 21 = .ok (.iconst (-1), 1) := by decide +kernel
theorem dX6_rank_22 : decode cX6_rank 22 = .ok (.ireturn, 1) := by decide +kernel
theorem dX6_rank_23 : decode cX6_rank 23 = .ok (.aload_n 0, 1) := by decide +kernel
theorem dX6_rank_24 : decode cX6_rank 24 = .ok (.iload_n 1, 1) := by decide +kernel
theorem dX6_rank_25 : decode cX6_rank 25 = .ok (.iload_n 2, 1) := by decide +kernel
theorem dX6_rank_26 : decode cX6_rank 26 = .ok (.iconst (-1), 1) := by decide +kernel
theorem dX6_rank_27 : decode cX6_rank 27 = .ok (.invokevirtual 252, 3) := by decide +kernel
theorem dX6_rank_30 : decode cX6_rank 30 = .ok (.aload_n 0, 1) := by decide +kernel
theorem dX6_rank_31 : decode cX6_rank 31 = .ok (.getfield 47, 3) := by decide +kernel
theorem dX6_rank_34 : decode cX6_rank 34 = .ok (.iload_n 3, 1) := by decide +kernel
theorem dX6_rank_35 : decode cX6_rank 35 = .ok (.iaload, 1) := by decide +kernel
theorem dX6_rank_36 : decode cX6_rank 36 = .ok (.ifCond .ne 8, 3) := by decide +kernel
theorem dX6_rank_39 : decode cX6_rank 39 = .ok (.bipush (-2), 2) := by decide +kernel
theorem dX6_rank_41 : decode cX6_rank 41 = .ok (.goto 12, 3) := by decide +kernel
theorem dX6_rank_44 : decode cX6_rank 44 = .ok (.aload_n 0, 1) := by decide +kernel
theorem dX6_rank_45 : decode cX6_rank 45 = .ok (.iload_n 3, 1) := by decide +kernel
theorem dX6_rank_46 : decode cX6_rank 46 = .ok (.aload_n 0, 1) := by decide +kernel
theorem dX6_rank_47 : decode cX6_rank 47 = .ok (.getfield 178, 3) := by decide +kernel
theorem dX6_rank_50 : decode cX6_rank 50 = .ok (.invokevirtual 249, 3) := by decide +kernel
theorem dX6_rank_53 : decode cX6_rank 53 = .ok (.ireturn, 1) := by decide +kernel
set_option maxRecDepth 20000 in
theorem ggX6_often_X6_isSpan : GoodIn wsX6_often wsX6_isSpan := goodIn_r _ [6, 7, 16, 17, 18, 19, 20, 21, 22, 23, 24, 25, 26, 27, 28, 29, 30, 31, 32, 33, 34, 35, 36, 37, 38, 39, 40, 41, 42, 43, 44, 45, 46, 47, 48, 49, 50, 51, 52, 53, 54, 55, 56, 57] rfl (by decide +kernel)
set_option maxRecDepth 20000 in
theorem gX6_often_X6_isSpan : GoodIn wsX6_often (wsV RX6 232 RX6 yX6_isSpan wsX6_isSpan) := goodIn_app (goodIn_r _ [2, 3, 4, 5] rfl (by decide +kernel)) ggX6_often_X6_isSpan
set_option maxRecDepth 20000 in
theorem ggX6_often_X6_isValue : GoodIn wsX6_often wsX6_isValue := goodIn_r _ [10] rfl (by decide +kernel)
set_option maxRecDepth 20000 in
theorem gX6_often_X6_isValue : GoodIn wsX6_often (va_wsS RX6 220 yX6_isValue wsX6_isValue) := goodIn_app (goodIn_r _ [8, 9, 5] rfl (by decide +kernel)) ggX6_often_X6_isValue
set_option maxRecDepth 20000 in
theorem ggX6_often_X6_timesIn : GoodIn wsX6_often wsX6_timesIn := goodIn_r _ [14, 15, 16, 17, 18, 19, 20, 21, 22, 23, 24, 25, 26, 27, 28, 29, 30, 31, 32, 33, 34, 35, 36, 37, 38, 39, 40, 41, 42, 43, 44, 45, 46, 47, 48, 49, 50, 51, 52, 53, 54, 55, 56, 57] rfl (by decide +kernel)
set_option maxRecDepth 20000 in
theorem gX6_often_X6_timesIn : GoodIn wsX6_often (wsV RX6 190 RX6 yX6_timesIn wsX6_timesIn) := goodIn_app (goodIn_r _ [11, 12, 13, 5] rfl (by decide +kernel)) ggX6_often_X6_timesIn
theorem dX6_often_0 : decode cX6_often 0 = .ok (.aload_n 0, 1) := by decide +kernel
theorem dX6_often_1 : decode cX6_often 1 = .ok (.iconst 0, 1) := by decide +kernel
theorem dX6_often_2 : decode cX6_often 2 = .ok (.putfield 72, 3) := by decide +kernel
theorem dX6_often_5 : decode cX6_often 5 = .ok (.aload_n 0, 1) := by decide +kernel
theorem dX6_often_6 : decode cX6_often 6 = .ok (.iload_n 1, 1) := by decide +kernel
theorem dX6_often_7 : decode cX6_often 7 = .ok (.iload_n 2, 1) := by decide +kernel
theorem dX6_often_8 : decode cX6_often 8 = .ok (.invokevirtual 232, 3) := by decide +kernel
theorem dX6_often_11 : decode cX6_often 11 = .ok (.ifCond .eq 10, 3) := by decide +kernel
theorem dX6_often_14 : decode cX6_often 14 = .ok (.iload_n 3, 1) := by decide +kernel
theorem dX6_often_15 : decode cX6_often 15 = .ok (.invokestatic 220, 3) := by decide +kernel
theorem dX6_often_18 : decode cX6_often 18 = .ok (.ifCond .ne 7, 3) := by decide +kernel
theorem dX6_often_21 : decode cX6_often 21 = .ok (.iconst (-1), 1) := by decide +kernel
theorem dX6_often_22 : decode cX6_often 22 = .ok (.goto 10, 3) := by decide +kernel
theorem dX6_often_25 : decode cX6_often 25 = .ok (.aload_n 0, 1) := by decide +kernel
theorem dX6_often_26 : decode cX6_often 26 = .ok (.iload_n 1, 1) := by decide +kernel
theorem dX6_often_27 : decode cX6_often 27 = .ok (.iload_n 2, 1) := by decide +kernel
theorem dX6_often_28 : decode cX6_often 28 = .ok (.iload_n 3, 1) := by decide +kernel
theorem dX6_often_29 : decode cX6_often 29 = .ok (.invokevirtual 190, 3) := by decide +kernel
theorem dX6_often_32 : decode cX6_often 32 = .ok (.ireturn, 1) := by decide +kernel
set_option maxRecDepth 20000 in
theorem ggX6_at_X6_isValue : GoodIn wsX6_at wsX6_isValue := goodIn_r _ [7] rfl (by decide +kernel)
set_option maxRecDepth 20000 in
theorem gX6_at_X6_isValue : GoodIn wsX6_at (va_wsS RX6 220 yX6_isValue wsX6_isValue) := goodIn_app (goodIn_r _ [4, 5, 6] rfl (by decide +kernel)) ggX6_at_X6_isValue
theorem dX6_at_0 : decode cX6_at 0 = .ok (.aload_n 0, 1) := by decide +kernel
theorem dX6_at_1 : decode cX6_at 1 = .ok (.iconst 0, 1) := by decide +kernel
theorem dX6_at_2 : decode cX6_at 2 = .ok (.putfield 72, 3) := by decide +kernel
theorem dX6_at_5 : decode cX6_at 5 = .ok (.iload_n 1, 1) := by decide +kernel
theorem dX6_at_6 : decode cX6_at 6 = .ok (.invokestatic 220, 3) := by decide +kernel
theorem dX6_at_9 : decode cX6_at 9 = .ok (.ifCond .eq 7, 3) := by decide +kernel
theorem dX6_at_12 : decode cX6_at 12 = .ok (.iload_n 2, 1) := by decide +kernel
theorem dX6_at_13 : decode cX6_at 13 = .ok (.ifCond .ge 5, 3) := by decide +kernel
theorem dX6_at_16 : decode cX6_at 16 = .ok (.iconst (-1), 1) := by decide +kernel
theorem dX6_at_17 : decode cX6_at 17 = .ok (.ireturn, 1) := by decide +kernel
theorem dX6_at_18 : decode cX6_at 18 = .ok (.iload_n 2, 1) := by decide +kernel
theorem dX6_at_19 : decode cX6_at 19 = .ok (.istore_n 3, 1) := by decide +kernel
theorem dX6_at_20 : decode cX6_at 20 = .ok (.iconst 0, 1) := by decide +kernel
theorem dX6_at_21 : decode cX6_at 21 = .ok (.istore 4, 2) := by decide +kernel
theorem dX6_at_23 : decode cX6_at 23 = .ok (.iload 4, 2) := by decide +kernel
theorem dX6_at_25 : decode cX6_at 25 = .ok (.aload_n 0, 1) := by decide +kernel
theorem dX6_at_26 : decode cX6_at 26 = .ok (.getfield 175, 3) := by decide +kernel
theorem dX6_at_29 : decode cX6_at 29 = .ok (.if_icmp .ge 33, 3) := by decide +kernel
theorem dX6_at_32 : decode cX6_at 32 = .ok (.aload_n 0, 1) := by decide +kernel
theorem dX6_at_33 : decode cX6_at 33 = .ok (.getfield 13, 3) := by decide +kernel
theorem dX6_at_36 : decode cX6_at 36 = .ok (.iload 4, 2) := by decide +kernel
theorem dX6_at_38 : decode cX6_at 38 = .ok (.iaload, 1) := by decide +kernel
theorem dX6_at_39 : decode cX6_at 39 = .ok (.iload_n 1, 1) := by decide +kernel
theorem dX6_at_40 : decode cX6_at 40 = .ok (.if_icmp .eq 6, 3) := by decide +kernel
theorem dX6_at_43 : decode cX6_at 43 = .ok (.goto 13, 3) := by decide +kernel
theorem dX6_at_46 : decode cX6_at 46 = .ok (.iload_n 3, 1) := by decide +kernel
theorem dX6_at_47 : decode cX6_at 47 = .ok (.ifCond .ne 6, 3) := by decide +kernel
theorem dX6_at_50 : decode cX6_at 50 = .ok (.iload 4, 2) := by decide +kernel
theorem dX6_at_52 : decode cX6_at 52 = .ok (.ireturn, 1) := by decide +kernel
theorem dX6_at_53 : decode cX6_at 53 = .ok (.iinc 3 (-1), 3) := by decide +kernel
theorem dX6_at_56 : decode cX6_at 56 = .ok (.iinc 4 1, 3) := by decide +kernel
theorem dX6_at_59 : decode cX6_at 59 = .ok (.goto (-36), 3) := by decide +kernel
theorem dX6_at_62 : decode cX6_at 62 = .ok (.bipush (-2), 2) := by decide +kernel
theorem dX6_at_64 : decode cX6_at 64 = .ok (.ireturn, 1) := by decide +kernel
set_option maxRecDepth 20000 in
theorem ggX6_unlike_X6_isSpan : GoodIn wsX6_unlike wsX6_isSpan := goodIn_r _ [7, 8, 18, 19, 20, 21, 22, 23, 24, 25, 26, 27, 28, 29, 30, 31, 32, 33, 34, 35, 36, 37, 38, 39, 40, 41, 42, 43, 44, 45, 46, 47, 48, 49, 50, 51, 52, 53, 54, 55, 56, 57, 58, 59] rfl (by decide +kernel)
set_option maxRecDepth 20000 in
theorem gX6_unlike_X6_isSpan : GoodIn wsX6_unlike (wsV RX6 232 RX6 yX6_isSpan wsX6_isSpan) := goodIn_app (goodIn_r _ [3, 4, 5, 6] rfl (by decide +kernel)) ggX6_unlike_X6_isSpan
set_option maxRecDepth 20000 in
theorem ggX6_unlike_X6_counts : GoodIn wsX6_unlike wsX6_counts := goodIn_r _ [12, 13, 2, 14, 15, 16, 17, 18, 19, 20, 21, 22, 23, 24, 25, 26, 27, 28, 29, 30, 31, 32, 33, 34, 35, 36, 37, 38, 39, 40, 41, 42, 43, 44, 45, 46, 47, 48, 49, 50, 51, 52, 53, 54, 55, 56, 57, 58, 59] rfl (by decide +kernel)
set_option maxRecDepth 20000 in
theorem gX6_unlike_X6_counts : GoodIn wsX6_unlike (wsV RX6 252 RX6 yX6_counts wsX6_counts) := goodIn_app (goodIn_r _ [9, 10, 11, 6] rfl (by decide +kernel)) ggX6_unlike_X6_counts
theorem dX6_unlike_0 : decode cX6_unlike 0 = .ok (.aload_n 0, 1) := by decide +kernel
theorem dX6_unlike_1 : decode cX6_unlike 1 = .ok (.iconst 0, 1) := by decide +kernel
theorem dX6_unlike_2 : decode cX6_unlike 2 = .ok (.putfield 72, 3) := by decide +kernel
theorem dX6_unlike_5 : decode cX6_unlike 5 = .ok (.aload_n 0, 1) := by decide +kernel
theorem dX6_unlike_6 : decode cX6_unlike 6 = .ok (.iload_n 1, 1) := by decide +kernel
theorem dX6_unlike_7 : decode cX6_unlike 7 = .ok (.iload_n 2, 1) := by decide +kernel
theorem dX6_unlike_8 : decode cX6_unlike 8 = .ok (.invokevirtual 232, 3) := by decide +kernel
theorem dX6_unlike_11 : decode cX6_unlike 11 = .ok (.ifCond .ne 5, 3) := by decide +kernel
theorem dX6_unlike_14 : decode cX6_unlike 14 = .ok (.iconst (-1), 1) := by decide +kernel
theorem dX6_unlike_15 : decode cX6_unlike 15 = .ok (.ireturn, 1) := by decide +kernel
theorem dX6_unlike_16 : decode cX6_unlike 16 = .ok (.aload_n 0, 1) := by decide +kernel
theorem dX6_unlike_17 : decode cX6_unlike 17 = .ok (.iload_n 1, 1) := by decide +kernel
theorem dX6_unlike_18 : decode cX6_unlike 18 = .ok (.iload_n 2, 1) := by decide +kernel
theorem dX6_unlike_19 : decode cX6_unlike 19 = .ok (.iconst (-1), 1) := by decide +kernel
theorem dX6_unlike_20 : decode cX6_unlike 20 = .ok (.invokevirtual 252, 3) := by decide +kernel
theorem dX6_unlike_23 : decode cX6_unlike 23 = .ok (.aload_n 0, 1) := by decide +kernel
theorem dX6_unlike_24 : decode cX6_unlike 24 = .ok (.getfield 242, 3) := by decide +kernel
theorem dX6_unlike_27 : decode cX6_unlike 27 = .ok (.ireturn, 1) := by decide +kernel
set_option maxRecDepth 20000 in
theorem ggX6_times_X6_isSpan : GoodIn wsX6_times wsX6_isSpan := goodIn_r _ [9, 10, 18, 19, 20, 21, 22, 23, 24, 25, 26, 27, 28, 29, 30, 31, 32, 33, 34, 35, 36, 37, 38, 39, 40, 41, 42, 43, 44, 45, 46, 47, 48, 49, 50, 51, 52, 53, 54, 55, 56, 57, 58, 59] rfl (by decide +kernel)
set_option maxRecDepth 20000 in
theorem gX6_times_X6_isSpan : GoodIn wsX6_times (wsV RX6 232 RX6 yX6_isSpan wsX6_isSpan) := goodIn_app (goodIn_r _ [5, 6, 7, 8] rfl (by decide +kernel)) ggX6_times_X6_isSpan
set_option maxRecDepth 20000 in
theorem ggX6_times_X6_counts : GoodIn wsX6_times wsX6_counts := goodIn_r _ [14, 3, 2, 15, 16, 4, 17, 18, 19, 20, 21, 22, 23, 24, 25, 26, 27, 28, 29, 30, 31, 32, 33, 34, 35, 36, 37, 38, 39, 40, 41, 42, 43, 44, 45, 46, 47, 48, 49, 50, 51, 52, 53, 54, 55, 56, 57, 58, 59] rfl (by decide +kernel)
set_option maxRecDepth 20000 in
theorem gX6_times_X6_counts : GoodIn wsX6_times (wsV RX6 252 RX6 yX6_counts wsX6_counts) := goodIn_app (goodIn_r _ [11, 12, 13, 8] rfl (by decide +kernel)) ggX6_times_X6_counts
theorem dX6_times_0 : decode cX6_times 0 = .ok (.aload_n 0, 1) := by decide +kernel
theorem dX6_times_1 : decode cX6_times 1 = .ok (.iconst 0, 1) := by decide +kernel
theorem dX6_times_2 : decode cX6_times 2 = .ok (.putfield 72, 3) := by decide +kernel
theorem dX6_times_5 : decode cX6_times 5 = .ok (.aload_n 0, 1) := by decide +kernel
theorem dX6_times_6 : decode cX6_times 6 = .ok (.iload_n 1, 1) := by decide +kernel
theorem dX6_times_7 : decode cX6_times 7 = .ok (.iload_n 2, 1) := by decide +kernel
theorem dX6_times_8 : decode cX6_times 8 = .ok (.invokevirtual 232, 3) := by decide +kernel
theorem dX6_times_11 : decode cX6_times 11 = .ok (.ifCond .eq 8, 3) := by decide +kernel
theorem dX6_times_14 : decode cX6_times 14 = .ok (.iload_n 3, 1) := by decide +kernel
theorem dX6_times_15 : decode cX6_times 15 = .ok (.iconst 1, 1) := by decide +kernel
theorem dX6_times_16 : decode cX6_times 16 = .ok (.if_icmp .ge 5, 3) := by decide +kernel
theorem dX6_times_19 : decode cX6_times 19 = .ok (.iconst (-1), 1) := by decide +kernel
theorem dX6_times_20 : decode cX6_times 20 = .ok (.ireturn, 1) := by decide +kernel
theorem dX6_times_21 : decode cX6_times 21 = .ok (.aload_n 0, 1) := by decide +kernel
theorem dX6_times_22 : decode cX6_times 22 = .ok (.iload_n 1, 1) := by decide +kernel
theorem dX6_times_23 : decode cX6_times 23 = .ok (.iload_n 2, 1) := by decide +kernel
theorem dX6_times_24 : decode cX6_times 24 = .ok (.iconst (-1), 1) := by decide +kernel
theorem dX6_times_25 : decode cX6_times 25 = .ok (.invokevirtual 252, 3) := by decide +kernel
theorem dX6_times_28 : decode cX6_times 28 = .ok (.iconst 0, 1) := by decide +kernel
theorem dX6_times_29 : decode cX6_times 29 = .ok (.istore 4, 2) := by decide +kernel
theorem dX6_times_31 : decode cX6_times 31 = .ok (.iconst 0, 1) := by decide +kernel
theorem dX6_times_32 : decode cX6_times 32 = .ok (.istore 5, 2) := by decide +kernel
theorem dX6_times_34 : decode cX6_times 34 = .ok (.iload 5, 2) := by decide +kernel
theorem dX6_times_36 : decode cX6_times 36 = .ok (.aload_n 0, 1) := by decide +kernel
theorem dX6_times_37 : decode cX6_times 37 = .ok (.getfield 242, 3) := by decide +kernel
theorem dX6_times_40 : decode cX6_times 40 = .ok (.if_icmp .ge 35, 3) := by decide +kernel
theorem dX6_times_43 : decode cX6_times 43 = .ok (.iload 4, 2) := by decide +kernel
theorem dX6_times_45 : decode cX6_times 45 = .ok (.aload_n 0, 1) := by decide +kernel
theorem dX6_times_46 : decode cX6_times 46 = .ok (.getfield 47, 3) := by decide +kernel
theorem dX6_times_49 : decode cX6_times 49 = .ok (.aload_n 0, 1) := by decide +kernel
theorem dX6_times_50 : decode cX6_times 50 = .ok (.getfield 56, 3) := by decide +kernel
theorem dX6_times_53 : decode cX6_times 53 = .ok (.iload 5, 2) := by decide +kernel
theorem dX6_times_55 : decode cX6_times 55 = .ok (.iaload, 1) := by decide +kernel
theorem dX6_times_56 : decode cX6_times 56 = .ok (.iaload, 1) := by decide +kernel
theorem dX6_times_57 : decode cX6_times 57 = .ok (.iload_n 3, 1) := by decide +kernel
theorem dX6_times_58 : decode cX6_times 58 = .ok (.if_icmp .ne 7, 3) := by decide +kernel
theorem dX6_times_61 : decode cX6_times 61 = .ok (.iconst 1, 1) := by decide +kernel
theorem dX6_times_62 : decode cX6_times 62 = .ok (.goto 4, 3) := by decide +kernel
theorem dX6_times_65 : decode cX6_times 65 = .ok (.iconst 0, 1) := by decide +kernel
theorem dX6_times_66 : decode cX6_times 66 = .ok (.iadd, 1) := by decide +kernel
theorem dX6_times_67 : decode cX6_times 67 = .ok (.istore 4, 2) := by decide +kernel
theorem dX6_times_69 : decode cX6_times 69 = .ok (.iinc 5 1, 3) := by decide +kernel
theorem dX6_times_72 : decode cX6_times 72 = .ok (.goto (-38), 3) := by decide +kernel
theorem dX6_times_75 : decode cX6_times 75 = .ok (.iload 4, 2) := by decide +kernel
theorem dX6_times_77 : decode cX6_times 77 = .ok (.ireturn, 1) := by decide +kernel
set_option maxRecDepth 20000 in
theorem ggX6_majorityOf_X6_modeOf : GoodIn wsX6_majorityOf wsX6_modeOf := goodIn_r _ [6, 7, 8, 9, 10, 5, 11, 1, 12, 13, 14, 15, 16, 17, 18, 19, 20, 21, 22, 23, 24, 25, 26, 27, 28, 29, 30, 31, 32, 33, 34, 35, 36, 37, 38, 39, 40, 41, 42, 43, 44, 45, 46, 47, 48, 49, 50, 51, 52, 53, 54, 55, 56, 57, 58, 59, 60, 61, 62, 63, 64, 65, 66] rfl (by decide +kernel)
set_option maxRecDepth 20000 in
theorem gX6_majorityOf_X6_modeOf : GoodIn wsX6_majorityOf (wsV RX6 260 RX6 yX6_modeOf wsX6_modeOf) := goodIn_app (goodIn_r _ [2, 3, 4, 5] rfl (by decide +kernel)) ggX6_majorityOf_X6_modeOf
theorem dX6_majorityOf_0 : decode cX6_majorityOf 0 = .ok (.aload_n 0, 1) := by decide +kernel
theorem dX6_majorityOf_1 : decode cX6_majorityOf 1 = .ok (.iload_n 1, 1) := by decide +kernel
theorem dX6_majorityOf_2 : decode cX6_majorityOf 2 = .ok (.iload_n 2, 1) := by decide +kernel
theorem dX6_majorityOf_3 : decode cX6_majorityOf 3 = .ok (.invokevirtual 260, 3) := by decide +kernel
theorem dX6_majorityOf_6 : decode cX6_majorityOf 6 = .ok (.istore_n 3, 1) := by decide +kernel
theorem dX6_majorityOf_7 : decode cX6_majorityOf 7 = .ok (.iconst 2, 1) := by decide +kernel
theorem dX6_majorityOf_8 : decode cX6_majorityOf 8 = .ok (.aload_n 0, 1) := by decide +kernel
theorem dX6_majorityOf_9 : decode cX6_majorityOf 9 = .ok (.getfield 47, 3) := by decide +kernel
theorem dX6_majorityOf_12 : decode cX6_majorityOf 12 = .ok (.iload_n 3, 1) := by decide +kernel
theorem dX6_majorityOf_13 : decode cX6_majorityOf 13 = .ok (.iaload, 1) := by decide +kernel
theorem dX6_majorityOf_14 : decode cX6_majorityOf 14 = .ok (.imul, 1) := by decide +kernel
theorem dX6_majorityOf_15 : decode cX6_majorityOf 15 = .ok (.iload_n 2, 1) := by decide +kernel
theorem dX6_majorityOf_16 : decode cX6_majorityOf 16 = .ok (.iload_n 1, 1) := by decide +kernel
theorem dX6_majorityOf_17 : decode cX6_majorityOf 17 = .ok (.isub, 1) := by decide +kernel
theorem dX6_majorityOf_18 : decode cX6_majorityOf 18 = .ok (.iconst 1, 1) := by decide +kernel
theorem dX6_majorityOf_19 : decode cX6_majorityOf 19 = .ok (.iadd, 1) := by decide +kernel
theorem dX6_majorityOf_20 : decode cX6_majorityOf 20 = .ok (.if_icmp .le 7, 3) := by decide +kernel
theorem dX6_majorityOf_23 : decode cX6_majorityOf 23 = .ok (.iload_n 3, 1) := by decide +kernel
theorem dX6_majorityOf_24 : decode cX6_majorityOf 24 = .ok (.goto 4, 3) := by decide +kernel
theorem dX6_majorityOf_27 : decode cX6_majorityOf 27 = .ok (.iconst (-1), 1) := by decide +kernel
theorem dX6_majorityOf_28 : decode cX6_majorityOf 28 = .ok (.ireturn, 1) := by decide +kernel
set_option maxRecDepth 20000 in
theorem ggX6_majority_X6_isSpan : GoodIn wsX6_majority wsX6_isSpan := goodIn_r _ [6, 7, 35, 36, 37, 38, 39, 40, 41, 42, 43, 44, 45, 46, 47, 48, 49, 50, 51, 52, 53, 54, 55, 56, 57, 58, 59, 60, 61, 62, 63, 64, 65, 66, 67, 68, 69, 70, 71, 72, 73, 74, 75, 76] rfl (by decide +kernel)
set_option maxRecDepth 20000 in
theorem gX6_majority_X6_isSpan : GoodIn wsX6_majority (wsV RX6 232 RX6 yX6_isSpan wsX6_isSpan) := goodIn_app (goodIn_r _ [2, 3, 4, 5] rfl (by decide +kernel)) ggX6_majority_X6_isSpan
set_option maxRecDepth 20000 in
theorem ggX6_majority_X6_majorityOf : GoodIn wsX6_majority wsX6_majorityOf := goodIn_r _ [11, 12, 13, 14, 15, 5, 16, 17, 18, 19, 20, 21, 22, 23, 24, 25, 26, 27, 28, 29, 30, 31, 32, 33, 34, 35, 36, 37, 38, 39, 40, 41, 42, 43, 44, 45, 46, 47, 48, 49, 50, 51, 52, 53, 54, 55, 56, 57, 58, 59, 60, 61, 62, 63, 64, 65, 66, 67, 68, 69, 70, 71, 72, 73, 74, 75, 76] rfl (by decide +kernel)
set_option maxRecDepth 20000 in
theorem gX6_majority_X6_majorityOf : GoodIn wsX6_majority (wsV RX6 269 RX6 yX6_majorityOf wsX6_majorityOf) := goodIn_app (goodIn_r _ [8, 9, 10, 5] rfl (by decide +kernel)) ggX6_majority_X6_majorityOf
theorem dX6_majority_0 : decode cX6_majority 0 = .ok (.aload_n 0, 1) := by decide +kernel
theorem dX6_majority_1 : decode cX6_majority 1 = .ok (.iconst 0, 1) := by decide +kernel
theorem dX6_majority_2 : decode cX6_majority 2 = .ok (.putfield 72, 3) := by decide +kernel
theorem dX6_majority_5 : decode cX6_majority 5 = .ok (.aload_n 0, 1) := by decide +kernel
theorem dX6_majority_6 : decode cX6_majority 6 = .ok (.iload_n 1, 1) := by decide +kernel
theorem dX6_majority_7 : decode cX6_majority 7 = .ok (.iload_n 2, 1) := by decide +kernel
theorem dX6_majority_8 : decode cX6_majority 8 = .ok (.invokevirtual 232, 3) := by decide +kernel
theorem dX6_majority_11 : decode cX6_majority 11 = .ok (.ifCond .ne 5, 3) := by decide +kernel
theorem dX6_majority_14 : decode cX6_majority 14 = .ok (.iconst (-1), 1) := by decide +kernel
theorem dX6_majority_15 : decode cX6_majority 15 = .ok (.ireturn, 1) := by decide +kernel
theorem dX6_majority_16 : decode cX6_majority 16 = .ok (.aload_n 0, 1) := by decide +kernel
theorem dX6_majority_17 : decode cX6_majority 17 = .ok (.iload_n 1, 1) := by decide +kernel
theorem dX6_majority_18 : decode cX6_majority 18 = .ok (.iload_n 2, 1) := by decide +kernel
theorem dX6_majority_19 : decode cX6_majority 19 = .ok (.invokevirtual 269, 3) := by decide +kernel
theorem dX6_majority_22 : decode cX6_majority 22 = .ok (.istore_n 3, 1) := by decide +kernel
theorem dX6_majority_23 : decode cX6_majority 23 = .ok (.iload_n 3, 1) := by decide +kernel
theorem dX6_majority_24 : decode cX6_majority 24 = .ok (.iconst (-1), 1) := by decide +kernel
theorem dX6_majority_25 : decode cX6_majority 25 = .ok (.if_icmp .ne 8, 3) := by decide +kernel
theorem dX6_majority_28 : decode cX6_majority 28 = .ok (.bipush (-2), 2) := by decide +kernel
theorem dX6_majority_30 : decode cX6_majority 30 = .ok (.goto 4, 3) := by decide +kernel
theorem dX6_majority_33 : decode cX6_majority 33 = .ok (.iload_n 3, 1) := by decide +kernel
theorem dX6_majority_34 : decode cX6_majority 34 = .ok (.ireturn, 1) := by decide +kernel
theorem dX6_weightsOf_0 : decode cX6_weightsOf 0 = .ok (.iconst 0, 1) := by decide +kernel
theorem dX6_weightsOf_1 : decode cX6_weightsOf 1 = .ok (.istore 4, 2) := by decide +kernel
theorem dX6_weightsOf_3 : decode cX6_weightsOf 3 = .ok (.iload_n 1, 1) := by decide +kernel
theorem dX6_weightsOf_4 : decode cX6_weightsOf 4 = .ok (.istore 5, 2) := by decide +kernel
theorem dX6_weightsOf_6 : decode cX6_weightsOf 6 = .ok (.iload 5, 2) := by decide +kernel
theorem dX6_weightsOf_8 : decode cX6_weightsOf 8 = .ok (.iload_n 2, 1) := by decide +kernel
theorem dX6_weightsOf_9 : decode cX6_weightsOf 9 = .ok (.if_icmp .gt 36, 3) := by decide +kernel
theorem dX6_weightsOf_12 : decode cX6_weightsOf 12 = .ok (.iload 4, 2) := by decide +kernel
theorem dX6_weightsOf_14 : decode cX6_weightsOf 14 = .ok (.aload_n 0, 1) := by decide +kernel
theorem dX6_weightsOf_15 : decode cX6_weightsOf 15 = .ok (.getfield 13, 3) := by decide +kernel
theorem dX6_weightsOf_18 : decode cX6_weightsOf 18 = .ok (.iload 5, 2) := by decide +kernel
theorem dX6_weightsOf_20 : decode cX6_weightsOf 20 = .ok (.iaload, 1) := by decide +kernel
theorem dX6_weightsOf_21 : decode cX6_weightsOf 21 = .ok (.iload_n 3, 1) := by decide +kernel
theorem dX6_weightsOf_22 : decode cX6_weightsOf 22 = .ok (.if_icmp .ne 13, 3) := by decide +kernel
theorem dX6_weightsOf_25 : decode cX6_weightsOf 25 = .ok (.aload_n 0, 1) := by decide +kernel
theorem dX6_weightsOf_26 : decode cX6_weightsOf 26 = .ok (.getfield 16, 3) := by decide +kernel
theorem dX6_weightsOf_29 : decode cX6_weightsOf 29 = .ok (.iload 5, 2) := by decide +kernel
theorem dX6_weightsOf_31 : decode cX6_weightsOf 31 = .ok (.iaload, 1) := by decide +kernel
theorem dX6_weightsOf_32 : decode cX6_weightsOf 32 = .ok (.goto 4, 3) := by decide +kernel
theorem dX6_weightsOf_35 : decode cX6_weightsOf 35 = .ok (.iconst 0, 1) := by decide +kernel
theorem dX6_weightsOf_36 : decode cX6_weightsOf 36 = .ok (.iadd, 1) := by decide +kernel
theorem dX6_weightsOf_37 : decode cX6_weightsOf 37 = .ok (.istore 4, 2) := by decide +kernel
theorem dX6_weightsOf_39 : decode cX6_weightsOf 39 = .ok (.iinc 5 1, 3) := by decide +kernel
theorem dX6_weightsOf_42 : decode cX6_weightsOf 42 = .ok (.goto (-36), 3) := by decide +kernel
theorem dX6_weightsOf_45 : decode cX6_weightsOf 45 = .ok (.iload 4, 2) := by decide +kernel
theorem dX6_weightsOf_47 : decode cX6_weightsOf 47 = .ok (.ireturn, 1) := by decide +kernel
set_option maxRecDepth 20000 in
theorem ggX6_heaviest_X6_isSpan : GoodIn wsX6_heaviest wsX6_isSpan := goodIn_r _ [9, 10, 28, 29, 30, 31, 32, 33, 34, 35, 36, 37, 38, 39, 40, 41, 42, 43, 44, 45, 46, 47, 48, 49, 50, 51, 52, 53, 54, 55, 56, 57, 58, 59, 60, 61, 62, 63, 64, 65, 66, 67, 68, 69] rfl (by decide +kernel)
set_option maxRecDepth 20000 in
theorem gX6_heaviest_X6_isSpan : GoodIn wsX6_heaviest (wsV RX6 232 RX6 yX6_isSpan wsX6_isSpan) := goodIn_app (goodIn_r _ [5, 6, 7, 8] rfl (by decide +kernel)) ggX6_heaviest_X6_isSpan
set_option maxRecDepth 20000 in
theorem ggX6_heaviest_X6_counts : GoodIn wsX6_heaviest wsX6_counts := goodIn_r _ [14, 15, 2, 16, 17, 3, 18, 28, 29, 30, 31, 32, 33, 34, 35, 36, 37, 38, 39, 40, 41, 42, 43, 44, 45, 46, 47, 48, 49, 50, 51, 52, 53, 54, 55, 56, 57, 58, 59, 60, 61, 62, 63, 64, 65, 66, 67, 68, 69] rfl (by decide +kernel)
set_option maxRecDepth 20000 in
theorem gX6_heaviest_X6_counts : GoodIn wsX6_heaviest (wsV RX6 252 RX6 yX6_counts wsX6_counts) := goodIn_app (goodIn_r _ [11, 12, 13, 8] rfl (by decide +kernel)) ggX6_heaviest_X6_counts
set_option maxRecDepth 20000 in
theorem ggX6_heaviest_X6_weightsOf : GoodIn wsX6_heaviest wsX6_weightsOf := goodIn_r _ [22, 16, 23, 28, 29, 30, 31, 32, 33, 34, 35, 36, 37, 38, 39, 40, 41, 42, 43, 44, 45, 46, 47, 48, 49, 50, 51, 52, 53, 54, 55, 56, 57, 58, 59, 60, 61, 62, 63, 64, 65, 66, 67, 68, 69] rfl (by decide +kernel)
set_option maxRecDepth 20000 in
theorem gX6_heaviest_X6_weightsOf : GoodIn wsX6_heaviest (wsV RX6 272 RX6 yX6_weightsOf wsX6_weightsOf) := goodIn_app (goodIn_r _ [19, 20, 21, 8] rfl (by decide +kernel)) ggX6_heaviest_X6_weightsOf
set_option maxRecDepth 20000 in
theorem ggX6_heaviest_X6_isAhead : GoodIn wsX6_heaviest wsX6_isAhead := goodIn_r _ [27, 15, 17, 18, 28, 29, 30, 31, 32, 33, 34, 35, 36, 37, 38, 39, 40, 41, 42, 43, 44, 45, 46, 47, 48, 49, 50, 51, 52, 53, 54, 55, 56, 57, 58, 59, 60, 61, 62, 63, 64, 65, 66, 67, 68, 69] rfl (by decide +kernel)
set_option maxRecDepth 20000 in
theorem gX6_heaviest_X6_isAhead : GoodIn wsX6_heaviest (wsV RX6 245 RX6 yX6_isAhead wsX6_isAhead) := goodIn_app (goodIn_r _ [24, 25, 26, 8] rfl (by decide +kernel)) ggX6_heaviest_X6_isAhead
theorem dX6_heaviest_0 : decode cX6_heaviest 0 = .ok (.aload_n 0, 1) := by decide +kernel
theorem dX6_heaviest_1 : decode cX6_heaviest 1 = .ok (.iconst 0, 1) := by decide +kernel
theorem dX6_heaviest_2 : decode cX6_heaviest 2 = .ok (.putfield 72, 3) := by decide +kernel
theorem dX6_heaviest_5 : decode cX6_heaviest 5 = .ok (.aload_n 0, 1) := by decide +kernel
theorem dX6_heaviest_6 : decode cX6_heaviest 6 = .ok (.iload_n 1, 1) := by decide +kernel
theorem dX6_heaviest_7 : decode cX6_heaviest 7 = .ok (.iload_n 2, 1) := by decide +kernel
theorem dX6_heaviest_8 : decode cX6_heaviest 8 = .ok (.invokevirtual 232, 3) := by decide +kernel
theorem dX6_heaviest_11 : decode cX6_heaviest 11 = .ok (.ifCond .eq 12, 3) := by decide +kernel
theorem dX6_heaviest_14 : decode cX6_heaviest 14 = .ok (.iload_n 3, 1) := by decide +kernel
theorem dX6_heaviest_15 : decode cX6_heaviest 15 = .ok (.ifCond .lt 8, 3) := by decide +kernel
theorem dX6_heaviest_18 : decode cX6_heaviest 18 = .ok (.iload_n 3, 1) := by decide +kernel
theorem dX6_heaviest_19 : decode cX6_heaviest 19 = .ok (.iconst 1, 1) := by decide +kernel
theorem dX6_heaviest_20 : decode cX6_heaviest 20 = .ok (.if_icmp .le 5, 3) := by decide +kernel
theorem dX6_heaviest_23 : decode cX6_heaviest 23 = .ok (.iconst (-1), 1) := by decide +kernel
theorem dX6_heaviest_24 : decode cX6_heaviest 24 = .ok (.ireturn, 1) := by decide +kernel
theorem dX6_heaviest_25 : decode cX6_heaviest 25 = .ok (.aload_n 0, 1) := by decide +kernel
theorem dX6_heaviest_26 : decode cX6_heaviest 26 = .ok (.iload_n 1, 1) := by decide +kernel
theorem dX6_heaviest_27 : decode cX6_heaviest 27 = .ok (.iload_n 2, 1) := by decide +kernel
theorem dX6_heaviest_28 : decode cX6_heaviest 28 = .ok (.iconst (-1), 1) := by decide +kernel
theorem dX6_heaviest_29 : decode cX6_heaviest 29 = .ok (.invokevirtual 252, 3) := by decide +kernel
theorem dX6_heaviest_32 : decode cX6_heaviest 32 = .ok (.iconst (-1), 1) := by decide +kernel
theorem dX6_heaviest_33 : decode cX6_heaviest 33 = .ok (.istore 4, 2) := by decide +kernel
theorem dX6_heaviest_35 : decode cX6_heaviest 35 = .ok (.iconst 0, 1) := by decide +kernel
theorem dX6_heaviest_36 : decode cX6_heaviest 36 = .ok (.istore 5, 2) := by decide +kernel
theorem dX6_heaviest_38 : decode cX6_heaviest 38 = .ok (.iconst 0, 1) := by decide +kernel
theorem dX6_heaviest_39 : decode cX6_heaviest 39 = .ok (.istore 6, 2) := by decide +kernel
theorem dX6_heaviest_41 : decode cX6_heaviest 41 = .ok (.iload 6, 2) := by decide +kernel
theorem dX6_heaviest_43 : decode cX6_heaviest 43 = .ok (.aload_n 0, 1) := by decide +kernel
theorem dX6_heaviest_44 : decode cX6_heaviest 44 = .ok (.getfield 242, 3) := by decide +kernel
theorem dX6_heaviest_47 : decode cX6_heaviest 47 = .ok (.if_icmp .ge 86, 3) := by decide +kernel
theorem dX6_heaviest_50 : decode cX6_heaviest 50 = .ok (.aload_n 0, 1) := by decide +kernel
theorem dX6_heaviest_51 : decode cX6_heaviest 51 = .ok (.getfield 56, 3) := by decide +kernel
theorem dX6_heaviest_54 : decode cX6_heaviest 54 = .ok (.iload 6, 2) := by decide +kernel
theorem dX6_heaviest_56 : decode cX6_heaviest 56 = .ok (.iaload, 1) := by decide +kernel
theorem dX6_heaviest_57 : decode cX6_heaviest 57 = .ok (.istore 7, 2) := by decide +kernel
theorem dX6_heaviest_59 : decode cX6_heaviest 59 = .ok (.aload_n 0, 1) := by decide +kernel
theorem dX6_heaviest_60 : decode cX6_heaviest 60 = .ok (.iload_n 1, 1) := by decide +kernel
theorem dX6_heaviest_61 : decode cX6_heaviest 61 = .ok (.iload_n 2, 1) := by decide +kernel
theorem dX6_heaviest_62 : decode cX6_heaviest 62 = .ok (.iload 7, 2) := by decide +kernel
theorem dX6_heaviest_64 : decode cX6_heaviest 64 = .ok (.invokevirtual 272, 3) := by decide +kernel
theorem dX6_heaviest_67 : decode cX6_heaviest 67 = .ok (.istore 8, 2) := by decide +kernel
theorem dX6_heaviest_69 : decode cX6_heaviest 69 = .ok (.iload 4, 2) := by decide +kernel
theorem dX6_heaviest_71 : decode cX6_heaviest 71 = .ok (.iconst (-1), 1) := by decide +kernel
theorem dX6_heaviest_72 : decode cX6_heaviest 72 = .ok (.if_icmp .eq 32, 3) := by decide +kernel
theorem dX6_heaviest_75 : decode cX6_heaviest 75 = .ok (.iload 8, 2) := by decide +kernel
theorem dX6_heaviest_77 : decode cX6_heaviest 77 = .ok (.iload 5, 2) := by decide +kernel
theorem dX6_heaviest_79 : decode cX6_heaviest 79 = .ok (.if_icmp .gt 25, 3) := by decide +kernel
theorem dX6_heaviest_82 : decode cX6_heaviest 82 = .ok (.iload 8, 2) := by decide +kernel
theorem dX6_heaviest_84 : decode cX6_heaviest 84 = .ok (.iload 5, 2) := by decide +kernel
theorem dX6_heaviest_86 : decode cX6_heaviest 86 = .ok (.if_icmp .ne 22, 3) := by decide +kernel
theorem dX6_heaviest_89 : decode cX6_heaviest 89 = .ok (.aload_n 0, 1) := by decide +kernel
theorem dX6_heaviest_90 : decode cX6_heaviest 90 = .ok (.iload 7, 2) := by decide +kernel
theorem dX6_heaviest_92 : decode cX6_heaviest 92 = .ok (.iload 4, 2) := by decide +kernel
theorem dX6_heaviest_94 : decode cX6_heaviest 94 = .ok (.aload_n 0, 1) := by decide +kernel
theorem dX6_heaviest_95 : decode cX6_heaviest 95 = .ok (.getfield 178, 3) := by decide +kernel
theorem dX6_heaviest_98 : decode cX6_heaviest 98 = .ok (.invokevirtual 245, 3) := by decide +kernel
theorem dX6_heaviest_101 : decode cX6_heaviest 101 = .ok (.ifCond .eq 7, 3) := by decide +kernel
theorem dX6_heaviest_104 : decode cX6_heaviest 104 = .ok (.iconst 1, 1) := by decide +kernel
theorem dX6_heaviest_105 : decode cX6_heaviest 105 = .ok (.goto 4, 3) := by decide +kernel
theorem dX6_heaviest_108 : decode cX6_heaviest 108 = .ok (.iconst 0, 1) := by decide +kernel
theorem dX6_heaviest_109 : decode cX6_heaviest 109 = .ok (.istore 9, 2) := by decide +kernel
theorem dX6_heaviest_111 : decode cX6_heaviest 111 = .ok (.iload 9, 2) := by decide +kernel
theorem dX6_heaviest_113 : decode cX6_heaviest 113 = .ok (.ifCond .ne 6, 3) := by decide +kernel
theorem dX6_heaviest_116 : decode cX6_heaviest 116 = .ok (.goto 11, 3) := by decide +kernel
theorem dX6_heaviest_119 : decode cX6_heaviest 119 = .ok (.iload 7, 2) := by decide +kernel
theorem dX6_heaviest_121 : decode cX6_heaviest 121 = .ok (.istore 4, 2) := by decide +kernel
theorem dX6_heaviest_123 : decode cX6_heaviest 123 = .ok (.iload 8, 2) := by decide +kernel
theorem dX6_heaviest_125 : decode cX6_heaviest 125 = .ok (.istore 5, 2) := by decide +kernel
theorem dX6_heaviest_127 : decode cX6_heaviest 127 = .ok (.iinc 6 1, 3) := by decide +kernel
theorem dX6_heaviest_130 : decode cX6_heaviest 130 = .ok (.goto (-89), 3) := by decide +kernel
theorem dX6_heaviest_133 : decode cX6_heaviest 133 = .ok (.iload_n 3, 1) := by decide +kernel
theorem dX6_heaviest_134 : decode cX6_heaviest 134 = .ok (.ifCond .ne 8, 3) := by decide +kernel
theorem dX6_heaviest_137 : decode cX6_heaviest 137 = .ok (.iload 4, 2) := by decide +kernel
theorem dX6_heaviest_139 : decode cX6_heaviest 139 = .ok (.goto 5, 3) := by decide +kernel
theorem dX6_heaviest_142 : decode cX6_heaviest 142 = .ok (.iload 5, 2) := by decide +kernel
theorem dX6_heaviest_144 : decode cX6_heaviest 144 = .ok (.ireturn, 1) := by decide +kernel
set_option maxRecDepth 20000 in
theorem ggX6_endOf_X6_placesOf : GoodIn wsX6_endOf wsX6_placesOf := goodIn_r _ [7, 1, 8, 9, 10, 11, 12, 13, 14, 15, 16, 17, 18, 19, 20, 21, 22, 23, 24, 25, 26, 27, 28, 29, 30, 31, 32, 33, 34, 35, 36, 37, 38, 39, 40, 41, 42, 43, 44, 45, 46, 47, 48, 49] rfl (by decide +kernel)
set_option maxRecDepth 20000 in
theorem gX6_endOf_X6_placesOf : GoodIn wsX6_endOf (wsV RX6 200 RX6 yX6_placesOf wsX6_placesOf) := goodIn_app (goodIn_r _ [3, 4, 5, 6] rfl (by decide +kernel)) ggX6_endOf_X6_placesOf
theorem dX6_endOf_0 : decode cX6_endOf 0 = .ok (.aload_n 0, 1) := by decide +kernel
theorem dX6_endOf_1 : decode cX6_endOf 1 = .ok (.getfield 69, 3) := by decide +kernel
theorem dX6_endOf_4 : decode cX6_endOf 4 = .ok (.iload_n 1, 1) := by decide +kernel
theorem dX6_endOf_5 : decode cX6_endOf 5 = .ok (.imul, 1) := by decide +kernel
theorem dX6_endOf_6 : decode cX6_endOf 6 = .ok (.aload_n 0, 1) := by decide +kernel
theorem dX6_endOf_7 : decode cX6_endOf 7 = .ok (.iload_n 1, 1) := by decide +kernel
theorem dX6_endOf_8 : decode cX6_endOf 8 = .ok (.aload_n 0, 1) := by decide +kernel
theorem dX6_endOf_9 : decode cX6_endOf 9 = .ok (.getfield 175, 3) := by decide +kernel
theorem dX6_endOf_12 : decode cX6_endOf 12 = .ok (.invokevirtual 200, 3) := by decide +kernel
theorem dX6_endOf_15 : decode cX6_endOf 15 = .ok (.iadd, 1) := by decide +kernel
theorem dX6_endOf_16 : decode cX6_endOf 16 = .ok (.iconst 1, 1) := by decide +kernel
theorem dX6_endOf_17 : decode cX6_endOf 17 = .ok (.isub, 1) := by decide +kernel
theorem dX6_endOf_18 : decode cX6_endOf 18 = .ok (.ireturn, 1) := by decide +kernel
set_option maxRecDepth 20000 in
theorem ggX6_pair_X6_blocks : GoodIn wsX6_pair wsX6_blocks := goodIn_r _ [7, 8, 2, 44, 45, 46, 47, 48, 49, 50, 51, 52, 53, 54, 55, 56, 57, 58, 59, 60, 61, 62, 63, 64, 65, 66, 67, 68, 69, 70, 71, 72, 73, 74, 75, 76, 77, 78, 79, 80, 81, 82, 83, 84, 85] rfl (by decide +kernel)
set_option maxRecDepth 20000 in
theorem gX6_pair_X6_blocks : GoodIn wsX6_pair (wsV RX6 275 RX6 yX6_blocks wsX6_blocks) := goodIn_app (goodIn_r _ [3, 4, 5, 6] rfl (by decide +kernel)) ggX6_pair_X6_blocks
set_option maxRecDepth 20000 in
theorem ggX6_pair_X6_endOf : GoodIn wsX6_pair wsX6_endOf := goodIn_r _ [12, 2, 8, 13, 14, 15, 6, 16, 44, 45, 46, 47, 48, 49, 50, 51, 52, 53, 54, 55, 56, 57, 58, 59, 60, 61, 62, 63, 64, 65, 66, 67, 68, 69, 70, 71, 72, 73, 74, 75, 76, 77, 78, 79, 80, 81, 82, 83, 84, 85] rfl (by decide +kernel)
set_option maxRecDepth 20000 in
theorem gX6_pair_X6_endOf : GoodIn wsX6_pair (wsV RX6 278 RX6 yX6_endOf wsX6_endOf) := goodIn_app (goodIn_r _ [9, 10, 11, 6] rfl (by decide +kernel)) ggX6_pair_X6_endOf
set_option maxRecDepth 20000 in
theorem ggX6_pair_X6_modeOf : GoodIn wsX6_pair wsX6_modeOf := goodIn_r _ [20, 21, 22, 23, 24, 6, 25, 26, 27, 28, 29, 30, 31, 32, 33, 34, 35, 36, 37, 38, 39, 44, 45, 46, 47, 48, 49, 50, 51, 52, 53, 54, 55, 56, 57, 58, 59, 60, 61, 62, 63, 64, 65, 66, 67, 68, 69, 70, 71, 72, 73, 74, 75, 76, 77, 78, 79, 80, 81, 82, 83, 84, 85] rfl (by decide +kernel)
set_option maxRecDepth 20000 in
theorem gX6_pair_X6_modeOf : GoodIn wsX6_pair (wsV RX6 260 RX6 yX6_modeOf wsX6_modeOf) := goodIn_app (goodIn_r _ [17, 18, 19, 6] rfl (by decide +kernel)) ggX6_pair_X6_modeOf
set_option maxRecDepth 20000 in
theorem ggX6_pair_X6_told : GoodIn wsX6_pair wsX6_told := goodIn_r _ [43, 26, 29, 31, 44, 45, 46, 47, 48, 49, 50, 51, 52, 53, 54, 55, 56, 57, 58, 59, 60, 61, 62, 63, 64, 65, 66, 67, 68, 69, 70, 71, 72, 73, 74, 75, 76, 77, 78, 79, 80, 81, 82, 83, 84, 85] rfl (by decide +kernel)
set_option maxRecDepth 20000 in
theorem gX6_pair_X6_told : GoodIn wsX6_pair (wsV RX6 263 RX6 yX6_told wsX6_told) := goodIn_app (goodIn_r _ [40, 41, 42, 6] rfl (by decide +kernel)) ggX6_pair_X6_told
theorem dX6_pair_0 : decode cX6_pair 0 = .ok (.aload_n 0, 1) := by decide +kernel
theorem dX6_pair_1 : decode cX6_pair 1 = .ok (.iconst 0, 1) := by decide +kernel
theorem dX6_pair_2 : decode cX6_pair 2 = .ok (.putfield 72, 3) := by decide +kernel
theorem dX6_pair_5 : decode cX6_pair 5 = .ok (.iload_n 1, 1) := by decide +kernel
theorem dX6_pair_6 : decode cX6_pair 6 = .ok (.ifCond .lt 25, 3) := by decide +kernel
theorem dX6_pair_9 : decode cX6_pair 9 = .ok (.iload_n 2, 1) := by decide +kernel
theorem dX6_pair_10 : decode cX6_pair 10 = .ok (.iload_n 1, 1) := by decide +kernel
theorem dX6_pair_11 : decode cX6_pair 11 = .ok (.if_icmp .lt 20, 3) := by decide +kernel
theorem dX6_pair_14 : decode cX6_pair 14 = .ok (.iload_n 2, 1) := by decide +kernel
theorem dX6_pair_15 : decode cX6_pair 15 = .ok (.aload_n 0, 1) := by decide +kernel
theorem dX6_pair_16 : decode cX6_pair 16 = .ok (.invokevirtual 275, 3) := by decide +kernel
theorem dX6_pair_19 : decode cX6_pair 19 = .ok (.if_icmp .ge 12, 3) := by decide +kernel
theorem dX6_pair_22 : decode cX6_pair 22 = .ok (.iload_n 3, 1) := by decide +kernel
theorem dX6_pair_23 : decode cX6_pair 23 = .ok (.ifCond .lt 8, 3) := by decide +kernel
theorem dX6_pair_26 : decode cX6_pair 26 = .ok (.iload_n 3, 1) := by decide +kernel
theorem dX6_pair_27 : decode cX6_pair 27 = .ok (.iconst 1, 1) := by decide +kernel
theorem dX6_pair_28 : decode cX6_pair 28 = .ok (.if_icmp .le 5, 3) := by decide +kernel
theorem dX6_pair_31 : decode cX6_pair 31 = .ok (.iconst (-1), 1) := by decide +kernel
theorem dX6_pair_32 : decode cX6_pair 32 = .ok (.ireturn, 1) := by decide +kernel
theorem dX6_pair_33 : decode cX6_pair 33 = .ok (.aload_n 0, 1) := by decide +kernel
theorem dX6_pair_34 : decode cX6_pair 34 = .ok (.aload_n 0, 1) := by decide +kernel
theorem dX6_pair_35 : decode cX6_pair 35 = .ok (.aload_n 0, 1) := by decide +kernel
theorem dX6_pair_36 : decode cX6_pair 36 = .ok (.getfield 69, 3) := by decide +kernel
theorem dX6_pair_39 : decode cX6_pair 39 = .ok (.iload_n 1, 1) := by decide +kernel
theorem dX6_pair_40 : decode cX6_pair 40 = .ok (.imul, 1) := by decide +kernel
theorem dX6_pair_41 : decode cX6_pair 41 = .ok (.aload_n 0, 1) := by decide +kernel
theorem dX6_pair_42 : decode cX6_pair 42 = .ok (.iload_n 2, 1) := by decide +kernel
theorem dX6_pair_43 : decode cX6_pair 43 = .ok (.invokevirtual 278, 3) := by decide +kernel
theorem dX6_pair_46 : decode cX6_pair 46 = .ok (.invokevirtual 260, 3) := by decide +kernel
theorem dX6_pair_49 : decode cX6_pair 49 = .ok (.iload_n 3, 1) := by decide +kernel
theorem dX6_pair_50 : decode cX6_pair 50 = .ok (.invokevirtual 263, 3) := by decide +kernel
theorem dX6_pair_53 : decode cX6_pair 53 = .ok (.ireturn, 1) := by decide +kernel
set_option maxRecDepth 20000 in
theorem ggX6_candidate_X6_isSpan : GoodIn wsX6_candidate wsX6_isSpan := goodIn_r _ [11, 12, 53, 54, 55, 56, 57, 58, 59, 60, 61, 62, 63, 64, 65, 66, 67, 68, 69, 70, 71, 72, 73, 74, 75, 76, 77, 78, 79, 80, 81, 82, 83, 84, 85, 86, 87, 88, 89, 90, 91, 92, 93, 94] rfl (by decide +kernel)
set_option maxRecDepth 20000 in
theorem gX6_candidate_X6_isSpan : GoodIn wsX6_candidate (wsV RX6 232 RX6 yX6_isSpan wsX6_isSpan) := goodIn_app (goodIn_r _ [7, 8, 9, 10] rfl (by decide +kernel)) ggX6_candidate_X6_isSpan
set_option maxRecDepth 20000 in
theorem ggX6_candidate_X6_blocks : GoodIn wsX6_candidate wsX6_blocks := goodIn_r _ [16, 12, 2, 53, 54, 55, 56, 57, 58, 59, 60, 61, 62, 63, 64, 65, 66, 67, 68, 69, 70, 71, 72, 73, 74, 75, 76, 77, 78, 79, 80, 81, 82, 83, 84, 85, 86, 87, 88, 89, 90, 91, 92, 93, 94] rfl (by decide +kernel)
set_option maxRecDepth 20000 in
theorem gX6_candidate_X6_blocks : GoodIn wsX6_candidate (wsV RX6 275 RX6 yX6_blocks wsX6_blocks) := goodIn_app (goodIn_r _ [13, 14, 15, 10] rfl (by decide +kernel)) ggX6_candidate_X6_blocks
set_option maxRecDepth 20000 in
theorem ggX6_candidate_X6_endOf : GoodIn wsX6_candidate wsX6_endOf := goodIn_r _ [20, 2, 12, 21, 22, 23, 10, 24, 53, 54, 55, 56, 57, 58, 59, 60, 61, 62, 63, 64, 65, 66, 67, 68, 69, 70, 71, 72, 73, 74, 75, 76, 77, 78, 79, 80, 81, 82, 83, 84, 85, 86, 87, 88, 89, 90, 91, 92, 93, 94] rfl (by decide +kernel)
set_option maxRecDepth 20000 in
theorem gX6_candidate_X6_endOf : GoodIn wsX6_candidate (wsV RX6 278 RX6 yX6_endOf wsX6_endOf) := goodIn_app (goodIn_r _ [17, 18, 19, 10] rfl (by decide +kernel)) ggX6_candidate_X6_endOf
set_option maxRecDepth 20000 in
theorem ggX6_candidate_X6_modeOf : GoodIn wsX6_candidate wsX6_modeOf := goodIn_r _ [28, 6, 29, 30, 31, 10, 32, 33, 5, 4, 34, 35, 36, 37, 38, 39, 40, 41, 42, 43, 44, 53, 54, 55, 56, 57, 58, 59, 60, 61, 62, 63, 64, 65, 66, 67, 68, 69, 70, 71, 72, 73, 74, 75, 76, 77, 78, 79, 80, 81, 82, 83, 84, 85, 86, 87, 88, 89, 90, 91, 92, 93, 94] rfl (by decide +kernel)
set_option maxRecDepth 20000 in
theorem gX6_candidate_X6_modeOf : GoodIn wsX6_candidate (wsV RX6 260 RX6 yX6_modeOf wsX6_modeOf) := goodIn_app (goodIn_r _ [25, 26, 27, 10] rfl (by decide +kernel)) ggX6_candidate_X6_modeOf
set_option maxRecDepth 20000 in
theorem ggX6_candidate_X6_counts : GoodIn wsX6_candidate wsX6_counts := goodIn_r _ [32, 33, 5, 4, 34, 35, 36, 53, 54, 55, 56, 57, 58, 59, 60, 61, 62, 63, 64, 65, 66, 67, 68, 69, 70, 71, 72, 73, 74, 75, 76, 77, 78, 79, 80, 81, 82, 83, 84, 85, 86, 87, 88, 89, 90, 91, 92, 93, 94] rfl (by decide +kernel)
set_option maxRecDepth 20000 in
theorem gX6_candidate_X6_counts : GoodIn wsX6_candidate (wsV RX6 252 RX6 yX6_counts wsX6_counts) := goodIn_app (goodIn_r _ [29, 30, 31, 10] rfl (by decide +kernel)) ggX6_candidate_X6_counts
set_option maxRecDepth 20000 in
theorem ggX6_candidate_X6_ofRank : GoodIn wsX6_candidate wsX6_ofRank := goodIn_r _ [48, 5, 35, 49, 50, 51, 10, 52, 41, 42, 43, 44, 33, 34, 36, 53, 54, 55, 56, 57, 58, 59, 60, 61, 62, 63, 64, 65, 66, 67, 68, 69, 70, 71, 72, 73, 74, 75, 76, 77, 78, 79, 80, 81, 82, 83, 84, 85, 86, 87, 88, 89, 90, 91, 92, 93, 94] rfl (by decide +kernel)
set_option maxRecDepth 20000 in
theorem gX6_candidate_X6_ofRank : GoodIn wsX6_candidate (wsV RX6 266 RX6 yX6_ofRank wsX6_ofRank) := goodIn_app (goodIn_r _ [45, 46, 47, 10] rfl (by decide +kernel)) ggX6_candidate_X6_ofRank
theorem dX6_candidate_0 : decode cX6_candidate 0 = .ok (.aload_n 0, 1) := by decide +kernel
theorem dX6_candidate_1 : decode cX6_candidate 1 = .ok (.iconst 0, 1) := by decide +kernel
theorem dX6_candidate_2 : decode cX6_candidate 2 = .ok (.putfield 72, 3) := by decide +kernel
theorem dX6_candidate_5 : decode cX6_candidate 5 = .ok (.aload_n 0, 1) := by decide +kernel
theorem dX6_candidate_6 : decode cX6_candidate 6 = .ok (.iload_n 1, 1) := by decide +kernel
theorem dX6_candidate_7 : decode cX6_candidate 7 = .ok (.iload_n 2, 1) := by decide +kernel
theorem dX6_candidate_8 : decode cX6_candidate 8 = .ok (.invokevirtual 232, 3) := by decide +kernel
theorem dX6_candidate_11 : decode cX6_candidate 11 = .ok (.ifCond .eq 8, 3) := by decide +kernel
theorem dX6_candidate_14 : decode cX6_candidate 14 = .ok (.iload_n 3, 1) := by decide +kernel
theorem dX6_candidate_15 : decode cX6_candidate 15 = .ok (.iconst (-1), 1) := by decide +kernel
theorem dX6_candidate_16 : decode cX6_candidate 16 = .ok (.if_icmp .ge 5, 3) := by decide +kernel
theorem dX6_candidate_19 : decode cX6_candidate 19 = .ok (.iconst (-1), 1) := by decide +kernel
theorem dX6_candidate_20 : decode cX6_candidate 20 = .ok (.ireturn, 1) := by decide +kernel
theorem dX6_candidate_21 : decode cX6_candidate 21 = .ok (.iload_n 1, 1) := by decide +kernel
theorem dX6_candidate_22 : decode cX6_candidate 22 = .ok (.aload_n 0, 1) := by decide +kernel
theorem dX6_candidate_23 : decode cX6_candidate 23 = .ok (.getfield 69, 3) := by decide +kernel
theorem dX6_candidate_26 : decode cX6_candidate 26 = .ok (.iadd, 1) := by decide +kernel
theorem dX6_candidate_27 : decode cX6_candidate 27 = .ok (.iconst 1, 1) := by decide +kernel
theorem dX6_candidate_28 : decode cX6_candidate 28 = .ok (.isub, 1) := by decide +kernel
theorem dX6_candidate_29 : decode cX6_candidate 29 = .ok (.aload_n 0, 1) := by decide +kernel
theorem dX6_candidate_30 : decode cX6_candidate 30 = .ok (.getfield 69, 3) := by decide +kernel
theorem dX6_candidate_33 : decode cX6_candidate 33 = .ok (.idiv, 1) := by decide +kernel
theorem dX6_candidate_34 : decode cX6_candidate 34 = .ok (.istore 4, 2) := by decide +kernel
theorem dX6_candidate_36 : decode cX6_candidate 36 = .ok (.iload 4, 2) := by decide +kernel
theorem dX6_candidate_38 : decode cX6_candidate 38 = .ok (.iconst 1, 1) := by decide +kernel
theorem dX6_candidate_39 : decode cX6_candidate 39 = .ok (.isub, 1) := by decide +kernel
theorem dX6_candidate_40 : decode cX6_candidate 40 = .ok (.istore 5, 2) := by decide +kernel
theorem dX6_candidate_42 : decode cX6_candidate 42 = .ok (.iload 5, 2) := by decide +kernel
theorem dX6_candidate_44 : decode cX6_candidate 44 = .ok (.iconst 1, 1) := by decide +kernel
theorem dX6_candidate_45 : decode cX6_candidate 45 = .ok (.iadd, 1) := by decide +kernel
theorem dX6_candidate_46 : decode cX6_candidate 46 = .ok (.aload_n 0, 1) := by decide +kernel
theorem dX6_candidate_47 : decode cX6_candidate 47 = .ok (.invokevirtual 275, 3) := by decide +kernel
theorem dX6_candidate_50 : decode cX6_candidate 50 = .ok (.if_icmp .ge 21, 3) := by decide +kernel
theorem dX6_candidate_53 : decode cX6_candidate 53 = .ok (.aload_n 0, 1) := by decide +kernel
theorem dX6_candidate_54 : decode cX6_candidate 54 = .ok (.iload 5, 2) := by decide +kernel
theorem dX6_candidate_56 : decode cX6_candidate 56 = .ok (.iconst 1, 1) := by decide +kernel
theorem dX6_candidate_57 : decode cX6_candidate 57 = .ok (.iadd, 1) := by decide +kernel
theorem dX6_candidate_58 : decode cX6_candidate 58 = .ok (.invokevirtual 278, 3) := by decide +kernel
theorem dX6_candidate_61 : decode cX6_candidate 61 = .ok (.iload_n 2, 1) := by decide +kernel
theorem dX6_candidate_62 : decode cX6_candidate 62 = .ok (.if_icmp .gt 9, 3) := by decide +kernel
theorem dX6_candidate_65 : decode cX6_candidate 65 = .ok (.iinc 5 1, 3) := by decide +kernel
theorem dX6_candidate_68 : decode cX6_candidate 68 = .ok (.goto (-26), 3) := by decide +kernel
theorem dX6_candidate_71 : decode cX6_candidate 71 = .ok (.iconst 0, 1) := by decide +kernel
theorem dX6_candidate_72 : decode cX6_candidate 72 = .ok (.istore 6, 2) := by decide +kernel
theorem dX6_candidate_74 : decode cX6_candidate 74 = .ok (.iload 6, 2) := by decide +kernel
theorem dX6_candidate_76 : decode cX6_candidate 76 = .ok (.sipush 1000, 3) := by decide +kernel
theorem dX6_candidate_79 : decode cX6_candidate 79 = .ok (.if_icmp .ge 17, 3) := by decide +kernel
theorem dX6_candidate_82 : decode cX6_candidate 82 = .ok (.aload_n 0, 1) := by decide +kernel
theorem dX6_candidate_83 : decode cX6_candidate 83 = .ok (.getfield 59, 3) := by decide +kernel
theorem dX6_candidate_86 : decode cX6_candidate 86 = .ok (.iload 6, 2) := by decide +kernel
theorem dX6_candidate_88 : decode cX6_candidate 88 = .ok (.iconst 0, 1) := by decide +kernel
theorem dX6_candidate_89 : decode cX6_candidate 89 = .ok (.bastore, 1) := by decide +kernel
theorem dX6_candidate_90 : decode cX6_candidate 90 = .ok (.iinc 6 1, 3) := by decide +kernel
theorem dX6_candidate_93 : decode cX6_candidate 93 = .ok (.goto (-19), 3) := by decide +kernel
theorem dX6_candidate_96 : decode cX6_candidate 96 = .ok (.iload 5, 2) := by decide +kernel
theorem dX6_candidate_98 : decode cX6_candidate 98 = .ok (.iload 4, 2) := by decide +kernel
theorem dX6_candidate_100 : decode cX6_candidate 100 = .ok (.if_icmp .lt 7, 3) := by decide +kernel
theorem dX6_candidate_103 : decode cX6_candidate 103 = .ok (.iconst 1, 1) := by decide +kernel
theorem dX6_candidate_104 : decode cX6_candidate 104 = .ok (.goto 4, 3) := by decide +kernel
theorem dX6_candidate_107 : decode cX6_candidate 107 = .ok (.iconst 0, 1) := by decide +kernel
theorem dX6_candidate_108 : decode cX6_candidate 108 = .ok (.istore 6, 2) := by decide +kernel
theorem dX6_candidate_110 : decode cX6_candidate 110 = .ok (.iload 6, 2) := by decide +kernel
theorem dX6_candidate_112 : decode cX6_candidate 112 = .ok (.ifCond .eq 26, 3) := by decide +kernel
theorem dX6_candidate_115 : decode cX6_candidate 115 = .ok (.aload_n 0, 1) := by decide +kernel
theorem dX6_candidate_116 : decode cX6_candidate 116 = .ok (.getfield 59, 3) := by decide +kernel
theorem dX6_candidate_119 : decode cX6_candidate 119 = .ok (.aload_n 0, 1) := by decide +kernel
theorem dX6_candidate_120 : decode cX6_candidate 120 = .ok (.aload_n 0, 1) := by decide +kernel
theorem dX6_candidate_121 : decode cX6_candidate 121 = .ok (.getfield 69, 3) := by decide +kernel
theorem dX6_candidate_124 : decode cX6_candidate 124 = .ok (.iload 4, 2) := by decide +kernel
theorem dX6_candidate_126 : decode cX6_candidate 126 = .ok (.imul, 1) := by decide +kernel
theorem dX6_candidate_127 : decode cX6_candidate 127 = .ok (.aload_n 0, 1) := by decide +kernel
theorem dX6_candidate_128 : decode cX6_candidate 128 = .ok (.iload 5, 2) := by decide +kernel
theorem dX6_candidate_130 : decode cX6_candidate 130 = .ok (.invokevirtual 278, 3) := by decide +kernel
theorem dX6_candidate_133 : decode cX6_candidate 133 = .ok (.invokevirtual 260, 3) := by decide +kernel
theorem dX6_candidate_136 : decode cX6_candidate 136 = .ok (.iconst 1, 1) := by decide +kernel
theorem dX6_candidate_137 : decode cX6_candidate 137 = .ok (.bastore, 1) := by decide +kernel
theorem dX6_candidate_138 : decode cX6_candidate 138 = .ok (.iload_n 1, 1) := by decide +kernel
theorem dX6_candidate_139 : decode cX6_candidate 139 = .ok (.istore 7, 2) := by decide +kernel
theorem dX6_candidate_141 : decode cX6_candidate 141 = .ok (.iload 7, 2) := by decide +kernel
theorem dX6_candidate_143 : decode cX6_candidate 143 = .ok (.iload_n 2, 1) := by decide +kernel
theorem dX6_candidate_144 : decode cX6_candidate 144 = .ok (.if_icmp .gt 50, 3) := by decide +kernel
theorem dX6_candidate_147 : decode cX6_candidate 147 = .ok (.iload 6, 2) := by decide +kernel
theorem dX6_candidate_149 : decode cX6_candidate 149 = .ok (.ifCond .eq 26, 3) := by decide +kernel
theorem dX6_candidate_152 : decode cX6_candidate 152 = .ok (.iload 7, 2) := by decide +kernel
theorem dX6_candidate_154 : decode cX6_candidate 154 = .ok (.aload_n 0, 1) := by decide +kernel
theorem dX6_candidate_155 : decode cX6_candidate 155 = .ok (.getfield 69, 3) := by decide +kernel
theorem dX6_candidate_158 : decode cX6_candidate 158 = .ok (.iload 4, 2) := by decide +kernel
theorem dX6_candidate_160 : decode cX6_candidate 160 = .ok (.imul, 1) := by decide +kernel
theorem dX6_candidate_161 : decode cX6_candidate 161 = .ok (.if_icmp .lt 14, 3) := by decide +kernel
theorem dX6_candidate_164 : decode cX6_candidate 164 = .ok (.iload 7, 2) := by decide +kernel
theorem dX6_candidate_166 : decode cX6_candidate 166 = .ok (.aload_n 0, 1) := by decide +kernel
theorem dX6_candidate_167 : decode cX6_candidate 167 = .ok (.iload 5, 2) := by decide +kernel
theorem dX6_candidate_169 : decode cX6_candidate 169 = .ok (.invokevirtual 278, 3) := by decide +kernel
theorem dX6_candidate_172 : decode cX6_candidate 172 = .ok (.if_icmp .le 16, 3) := by decide +kernel
theorem dX6_candidate_175 : decode cX6_candidate 175 = .ok (.aload_n 0, 1) := by decide +kernel
theorem dX6_candidate_176 : decode cX6_candidate 176 = .ok (.getfield 59, 3) := by decide +kernel
theorem dX6_candidate_179 : decode cX6_candidate 179 = .ok (.aload_n 0, 1) := by decide +kernel
theorem dX6_candidate_180 : decode cX6_candidate 180 = .ok (.getfield 13, 3) := by decide +kernel
theorem dX6_candidate_183 : decode cX6_candidate 183 = .ok (.iload 7, 2) := by decide +kernel
theorem dX6_candidate_185 : decode cX6_candidate 185 = .ok (.iaload, 1) := by decide +kernel
theorem dX6_candidate_186 : decode cX6_candidate 186 = .ok (.iconst 1, 1) := by decide +kernel
theorem dX6_candidate_187 : decode cX6_candidate 187 = .ok (.bastore, 1) := by decide +kernel
theorem dX6_candidate_188 : decode cX6_candidate 188 = .ok (.iinc 7 1, 3) := by decide +kernel
theorem dX6_candidate_191 : decode cX6_candidate 191 = .ok (.goto (-50), 3) := by decide +kernel
theorem dX6_candidate_194 : decode cX6_candidate 194 = .ok (.aload_n 0, 1) := by decide +kernel
theorem dX6_candidate_195 : decode cX6_candidate 195 = .ok (.iload_n 1, 1) := by decide +kernel
theorem dX6_candidate_196 : decode cX6_candidate 196 = .ok (.iload_n 2, 1) := by decide +kernel
theorem dX6_candidate_197 : decode cX6_candidate 197 = .ok (.iconst (-1), 1) := by decide +kernel
theorem dX6_candidate_198 : decode cX6_candidate 198 = .ok (.invokevirtual 252, 3) := by decide +kernel
theorem dX6_candidate_201 : decode cX6_candidate 201 = .ok (.iconst 0, 1) := by decide +kernel
theorem dX6_candidate_202 : decode cX6_candidate 202 = .ok (.istore 7, 2) := by decide +kernel
theorem dX6_candidate_204 : decode cX6_candidate 204 = .ok (.iconst 0, 1) := by decide +kernel
theorem dX6_candidate_205 : decode cX6_candidate 205 = .ok (.istore 8, 2) := by decide +kernel
theorem dX6_candidate_207 : decode cX6_candidate 207 = .ok (.iload 8, 2) := by decide +kernel
theorem dX6_candidate_209 : decode cX6_candidate 209 = .ok (.aload_n 0, 1) := by decide +kernel
theorem dX6_candidate_210 : decode cX6_candidate 210 = .ok (.getfield 242, 3) := by decide +kernel
theorem dX6_candidate_213 : decode cX6_candidate 213 = .ok (.if_icmp .ge 46, 3) := by decide +kernel
theorem dX6_candidate_216 : decode cX6_candidate 216 = .ok (.aload_n 0, 1) := by decide +kernel
theorem dX6_candidate_217 : decode cX6_candidate 217 = .ok (.iload 8, 2) := by decide +kernel
theorem dX6_candidate_219 : decode cX6_candidate 219 = .ok (.aload_n 0, 1) := by decide +kernel
theorem dX6_candidate_220 : decode cX6_candidate 220 = .ok (.getfield 178, 3) := by decide +kernel
theorem dX6_candidate_223 : decode cX6_candidate 223 = .ok (.invokevirtual 266, 3) := by decide +kernel
theorem dX6_candidate_226 : decode cX6_candidate 226 = .ok (.istore 9, 2) := by decide +kernel
theorem dX6_candidate_228 : decode cX6_candidate 228 = .ok (.aload_n 0, 1) := by decide +kernel
theorem dX6_candidate_229 : decode cX6_candidate 229 = .ok (.getfield 59, 3) := by decide +kernel
theorem dX6_candidate_232 : decode cX6_candidate 232 = .ok (.iload 9, 2) := by decide +kernel
theorem dX6_candidate_234 : decode cX6_candidate 234 = .ok (.baload, 1) := by decide +kernel
theorem dX6_candidate_235 : decode cX6_candidate 235 = .ok (.ifCond .ne 6, 3) := by decide +kernel
theorem dX6_candidate_238 : decode cX6_candidate 238 = .ok (.goto 15, 3) := by decide +kernel
theorem dX6_candidate_241 : decode cX6_candidate 241 = .ok (.iload 7, 2) := by decide +kernel
theorem dX6_candidate_243 : decode cX6_candidate 243 = .ok (.iload_n 3, 1) := by decide +kernel
theorem dX6_candidate_244 : decode cX6_candidate 244 = .ok (.if_icmp .ne 6, 3) := by decide +kernel
theorem dX6_candidate_247 : decode cX6_candidate 247 = .ok (.iload 9, 2) := by decide +kernel
theorem dX6_candidate_249 : decode cX6_candidate 249 = .ok (.ireturn, 1) := by decide +kernel
theorem dX6_candidate_250 : decode cX6_candidate 250 = .ok (.iinc 7 1, 3) := by decide +kernel
theorem dX6_candidate_253 : decode cX6_candidate 253 = .ok (.iinc 8 1, 3) := by decide +kernel
theorem dX6_candidate_256 : decode cX6_candidate 256 = .ok (.goto (-49), 3) := by decide +kernel
theorem dX6_candidate_259 : decode cX6_candidate 259 = .ok (.iload_n 3, 1) := by decide +kernel
theorem dX6_candidate_260 : decode cX6_candidate 260 = .ok (.iconst (-1), 1) := by decide +kernel
theorem dX6_candidate_261 : decode cX6_candidate 261 = .ok (.if_icmp .ne 8, 3) := by decide +kernel
theorem dX6_candidate_264 : decode cX6_candidate 264 = .ok (.iload 7, 2) := by decide +kernel
theorem dX6_candidate_266 : decode cX6_candidate 266 = .ok (.goto 5, 3) := by decide +kernel
theorem dX6_candidate_269 : decode cX6_candidate 269 = .ok (.bipush (-2), 2) := by decide +kernel
theorem dX6_candidate_271 : decode cX6_candidate 271 = .ok (.ireturn, 1) := by decide +kernel
set_option maxRecDepth 20000 in
theorem ggX6_median_X6_isSpan : GoodIn wsX6_median wsX6_isSpan := goodIn_r _ [7, 8, 18, 19, 20, 21, 22, 23, 24, 25, 26, 27, 28, 29, 30, 31, 32, 33, 34, 35, 36, 37, 38, 39, 40, 41, 42, 43, 44, 45, 46, 47, 48, 49, 50, 51, 52, 53, 54, 55, 56, 57, 58, 59] rfl (by decide +kernel)
set_option maxRecDepth 20000 in
theorem gX6_median_X6_isSpan : GoodIn wsX6_median (wsV RX6 232 RX6 yX6_isSpan wsX6_isSpan) := goodIn_app (goodIn_r _ [3, 4, 5, 6] rfl (by decide +kernel)) ggX6_median_X6_isSpan
set_option maxRecDepth 20000 in
theorem ggX6_median_X6_counts : GoodIn wsX6_median wsX6_counts := goodIn_r _ [12, 2, 13, 14, 15, 16, 17, 18, 19, 20, 21, 22, 23, 24, 25, 26, 27, 28, 29, 30, 31, 32, 33, 34, 35, 36, 37, 38, 39, 40, 41, 42, 43, 44, 45, 46, 47, 48, 49, 50, 51, 52, 53, 54, 55, 56, 57, 58, 59] rfl (by decide +kernel)
set_option maxRecDepth 20000 in
theorem gX6_median_X6_counts : GoodIn wsX6_median (wsV RX6 252 RX6 yX6_counts wsX6_counts) := goodIn_app (goodIn_r _ [9, 10, 11, 6] rfl (by decide +kernel)) ggX6_median_X6_counts
theorem dX6_median_0 : decode cX6_median 0 = .ok (.aload_n 0, 1) := by decide +kernel
theorem dX6_median_1 : decode cX6_median 1 = .ok (.iconst 0, 1) := by decide +kernel
theorem dX6_median_2 : decode cX6_median 2 = .ok (.putfield 72, 3) := by decide +kernel
theorem dX6_median_5 : decode cX6_median 5 = .ok (.aload_n 0, 1) := by decide +kernel
theorem dX6_median_6 : decode cX6_median 6 = .ok (.iload_n 1, 1) := by decide +kernel
theorem dX6_median_7 : decode cX6_median 7 = .ok (.iload_n 2, 1) := by decide +kernel
theorem dX6_median_8 : decode cX6_median 8 = .ok (.invokevirtual 232, 3) := by decide +kernel
theorem dX6_median_11 : decode cX6_median 11 = .ok (.ifCond .ne 5, 3) := by decide +kernel
theorem dX6_median_14 : decode cX6_median 14 = .ok (.iconst (-1), 1) := by decide +kernel
theorem dX6_median_15 : decode cX6_median 15 = .ok (.ireturn, 1) := by decide +kernel
theorem dX6_median_16 : decode cX6_median 16 = .ok (.iload_n 2, 1) := by decide +kernel
theorem dX6_median_17 : decode cX6_median 17 = .ok (.iload_n 1, 1) := by decide +kernel
theorem dX6_median_18 : decode cX6_median 18 = .ok (.isub, 1) := by decide +kernel
theorem dX6_median_19 : decode cX6_median 19 = .ok (.iconst 2, 1) := by decide +kernel
theorem dX6_median_20 : decode cX6_median 20 = .ok (.idiv, 1) := by decide +kernel
theorem dX6_median_21 : decode cX6_median 21 = .ok (.istore_n 3, 1) := by decide +kernel
theorem dX6_median_22 : decode cX6_median 22 = .ok (.aload_n 0, 1) := by decide +kernel
theorem dX6_median_23 : decode cX6_median 23 = .ok (.iload_n 1, 1) := by decide +kernel
theorem dX6_median_24 : decode cX6_median 24 = .ok (.iload_n 2, 1) := by decide +kernel
theorem dX6_median_25 : decode cX6_median 25 = .ok (.iconst (-1), 1) := by decide +kernel
theorem dX6_median_26 : decode cX6_median 26 = .ok (.invokevirtual 252, 3) := by decide +kernel
theorem dX6_median_29 : decode cX6_median 29 = .ok (.iconst 0, 1) := by decide +kernel
theorem dX6_median_30 : decode cX6_median 30 = .ok (.istore 4, 2) := by decide +kernel
theorem dX6_median_32 : decode cX6_median 32 = .ok (.aload_n 0, 1) := by decide +kernel
theorem dX6_median_33 : decode cX6_median 33 = .ok (.getfield 47, 3) := by decide +kernel
theorem dX6_median_36 : decode cX6_median 36 = .ok (.iload 4, 2) := by decide +kernel
theorem dX6_median_38 : decode cX6_median 38 = .ok (.iaload, 1) := by decide +kernel
theorem dX6_median_39 : decode cX6_median 39 = .ok (.iload_n 3, 1) := by decide +kernel
theorem dX6_median_40 : decode cX6_median 40 = .ok (.if_icmp .gt 19, 3) := by decide +kernel
theorem dX6_median_43 : decode cX6_median 43 = .ok (.iload_n 3, 1) := by decide +kernel
theorem dX6_median_44 : decode cX6_median 44 = .ok (.aload_n 0, 1) := by decide +kernel
theorem dX6_median_45 : decode cX6_median 45 = .ok (.getfield 47, 3) := by decide +kernel
theorem dX6_median_48 : decode cX6_median 48 = .ok (.iload 4, 2) := by decide +kernel
theorem dX6_median_50 : decode cX6_median 50 = .ok (.iaload, 1) := by decide +kernel
theorem dX6_median_51 : decode cX6_median 51 = .ok (.isub, 1) := by decide +kernel
theorem dX6_median_52 : decode cX6_median 52 = .ok (.istore_n 3, 1) := by decide +kernel
theorem dX6_median_53 : decode cX6_median 53 = .ok (.iinc 4 1, 3) := by decide +kernel
theorem dX6_median_56 : decode cX6_median 56 = .ok (.goto (-24), 3) := by decide +kernel
theorem dX6_median_59 : decode cX6_median 59 = .ok (.iload 4, 2) := by decide +kernel
theorem dX6_median_61 : decode cX6_median 61 = .ok (.ireturn, 1) := by decide +kernel
set_option maxRecDepth 20000 in
theorem ggX6_twisted_X6_isSpan : GoodIn wsX6_twisted wsX6_isSpan := goodIn_r _ [7, 8, 9, 10, 11, 12, 13, 14, 15, 16, 17, 18, 19, 20, 21, 22, 23, 24, 25, 26, 27, 28, 29, 30, 31, 32, 33, 34, 35, 36, 37, 38, 39, 40, 41, 42, 43, 44, 45, 46, 47, 48, 49, 50] rfl (by decide +kernel)
set_option maxRecDepth 20000 in
theorem gX6_twisted_X6_isSpan : GoodIn wsX6_twisted (wsV RX6 232 RX6 yX6_isSpan wsX6_isSpan) := goodIn_app (goodIn_r _ [3, 4, 5, 6] rfl (by decide +kernel)) ggX6_twisted_X6_isSpan
theorem dX6_twisted_0 : decode cX6_twisted 0 = .ok (.aload_n 0, 1) := by decide +kernel
theorem dX6_twisted_1 : decode cX6_twisted 1 = .ok (.iconst 0, 1) := by decide +kernel
theorem dX6_twisted_2 : decode cX6_twisted 2 = .ok (.putfield 72, 3) := by decide +kernel
theorem dX6_twisted_5 : decode cX6_twisted 5 = .ok (.aload_n 0, 1) := by decide +kernel
theorem dX6_twisted_6 : decode cX6_twisted 6 = .ok (.iload_n 1, 1) := by decide +kernel
theorem dX6_twisted_7 : decode cX6_twisted 7 = .ok (.iload_n 2, 1) := by decide +kernel
theorem dX6_twisted_8 : decode cX6_twisted 8 = .ok (.invokevirtual 232, 3) := by decide +kernel
theorem dX6_twisted_11 : decode cX6_twisted 11 = .ok (.ifCond .ne 5, 3) := by decide +kernel
theorem dX6_twisted_14 : decode cX6_twisted 14 = .ok (.iconst (-1), 1) := by decide +kernel
theorem dX6_twisted_15 : decode cX6_twisted 15 = .ok (.ireturn, 1) := by decide +kernel
theorem dX6_twisted_16 : decode cX6_twisted 16 = .ok (.iconst 0, 1) := by decide +kernel
theorem dX6_twisted_17 : decode cX6_twisted 17 = .ok (.istore_n 3, 1) := by decide +kernel
theorem dX6_twisted_18 : decode cX6_twisted 18 = .ok (.iload_n 1, 1) := by decide +kernel
theorem dX6_twisted_19 : decode cX6_twisted 19 = .ok (.istore 4, 2) := by decide +kernel
theorem dX6_twisted_21 : decode cX6_twisted 21 = .ok (.iload 4, 2) := by decide +kernel
theorem dX6_twisted_23 : decode cX6_twisted 23 = .ok (.iload_n 2, 1) := by decide +kernel
theorem dX6_twisted_24 : decode cX6_twisted 24 = .ok (.if_icmp .gt 52, 3) := by decide +kernel
theorem dX6_twisted_27 : decode cX6_twisted 27 = .ok (.iload 4, 2) := by decide +kernel
theorem dX6_twisted_29 : decode cX6_twisted 29 = .ok (.iconst 1, 1) := by decide +kernel
theorem dX6_twisted_30 : decode cX6_twisted 30 = .ok (.iadd, 1) := by decide +kernel
theorem dX6_twisted_31 : decode cX6_twisted 31 = .ok (.istore 5, 2) := by decide +kernel
theorem dX6_twisted_33 : decode cX6_twisted 33 = .ok (.iload 5, 2) := by decide +kernel
theorem dX6_twisted_35 : decode cX6_twisted 35 = .ok (.iload_n 2, 1) := by decide +kernel
theorem dX6_twisted_36 : decode cX6_twisted 36 = .ok (.if_icmp .gt 34, 3) := by decide +kernel
theorem dX6_twisted_39 : decode cX6_twisted 39 = .ok (.iload_n 3, 1) := by decide +kernel
theorem dX6_twisted_40 : decode cX6_twisted 40 = .ok (.aload_n 0, 1) := by decide +kernel
theorem dX6_twisted_41 : decode cX6_twisted 41 = .ok (.getfield 13, 3) := by decide +kernel
theorem dX6_twisted_44 : decode cX6_twisted 44 = .ok (.iload 4, 2) := by decide +kernel
theorem dX6_twisted_46 : decode cX6_twisted 46 = .ok (.iaload, 1) := by decide +kernel
theorem dX6_twisted_47 : decode cX6_twisted 47 = .ok (.aload_n 0, 1) := by decide +kernel
theorem dX6_twisted_48 : decode cX6_twisted 48 = .ok (.getfield 13, 3) := by decide +kernel
theorem dX6_twisted_51 : decode cX6_twisted 51 = .ok (.iload 5, 2) := by decide +kernel
theorem dX6_twisted_53 : decode cX6_twisted 53 = .ok (.iaload, 1) := by decide +kernel
theorem dX6_twisted_54 : decode cX6_twisted 54 = .ok (.if_icmp .le 7, 3) := by decide +kernel
theorem dX6_twisted_57 : decode cX6_twisted 57 = .ok (.iconst 1, 1) := by decide +kernel
theorem dX6_twisted_58 : decode cX6_twisted 58 = .ok (.goto 4, 3) := by decide +kernel
theorem dX6_twisted_61 : decode cX6_twisted 61 = .ok (.iconst 0, 1) := by decide +kernel
theorem dX6_twisted_62 : decode cX6_twisted 62 = .ok (.iadd, 1) := by decide +kernel
theorem dX6_twisted_63 : decode cX6_twisted 63 = .ok (.istore_n 3, 1) := by decide +kernel
theorem dX6_twisted_64 : decode cX6_twisted 64 = .ok (.iinc 5 1, 3) := by decide +kernel
theorem dX6_twisted_67 : decode cX6_twisted 67 = .ok (.goto (-34), 3) := by decide +kernel
theorem dX6_twisted_70 : decode cX6_twisted 70 = .ok (.iinc 4 1, 3) := by decide +kernel
theorem dX6_twisted_73 : decode cX6_twisted 73 = .ok (.goto (-52), 3) := by decide +kernel
theorem dX6_twisted_76 : decode cX6_twisted 76 = .ok (.iload_n 3, 1) := by decide +kernel
theorem dX6_twisted_77 : decode cX6_twisted 77 = .ok (.ireturn, 1) := by decide +kernel
set_option maxRecDepth 20000 in
theorem ggX6_run_X6_isSpan : GoodIn wsX6_run wsX6_isSpan := goodIn_r _ [7, 8, 9, 10, 11, 12, 13, 14, 15, 16, 17, 18, 19, 20, 21, 22, 23, 24, 25, 26, 27, 28, 29, 30, 31, 32, 33, 34, 35, 36, 37, 38, 39, 40, 41, 42, 43, 44, 45, 46, 47, 48, 49, 50] rfl (by decide +kernel)
set_option maxRecDepth 20000 in
theorem gX6_run_X6_isSpan : GoodIn wsX6_run (wsV RX6 232 RX6 yX6_isSpan wsX6_isSpan) := goodIn_app (goodIn_r _ [3, 4, 5, 6] rfl (by decide +kernel)) ggX6_run_X6_isSpan
theorem dX6_run_0 : decode cX6_run 0 = .ok (.aload_n 0, 1) := by decide +kernel
theorem dX6_run_1 : decode cX6_run 1 = .ok (.iconst 0, 1) := by decide +kernel
theorem dX6_run_2 : decode cX6_run 2 = .ok (.putfield 72, 3) := by decide +kernel
theorem dX6_run_5 : decode cX6_run 5 = .ok (.aload_n 0, 1) := by decide +kernel
theorem dX6_run_6 : decode cX6_run 6 = .ok (.iload_n 1, 1) := by decide +kernel
theorem dX6_run_7 : decode cX6_run 7 = .ok (.iload_n 2, 1) := by decide +kernel
theorem dX6_run_8 : decode cX6_run 8 = .ok (.invokevirtual 232, 3) := by decide +kernel
theorem dX6_run_11 : decode cX6_run 11 = .ok (.ifCond .eq 12, 3) := by decide +kernel
theorem dX6_run_14 : decode cX6_run 14 = .ok (.iload_n 3, 1) := by decide +kernel
theorem dX6_run_15 : decode cX6_run 15 = .ok (.ifCond .lt 8, 3) := by decide +kernel
theorem dX6_run_18 : decode cX6_run 18 = .ok (.iload_n 3, 1) := by decide +kernel
theorem dX6_run_19 : decode cX6_run 19 = .ok (.iconst 2, 1) := by decide +kernel
theorem dX6_run_20 : decode cX6_run 20 = .ok (.if_icmp .le 5, 3) := by decide +kernel
theorem dX6_run_23 : decode cX6_run 23 = .ok (.iconst (-1), 1) := by decide +kernel
theorem dX6_run_24 : decode cX6_run 24 = .ok (.ireturn, 1) := by decide +kernel
theorem dX6_run_25 : decode cX6_run 25 = .ok (.iload_n 1, 1) := by decide +kernel
theorem dX6_run_26 : decode cX6_run 26 = .ok (.istore 4, 2) := by decide +kernel
theorem dX6_run_28 : decode cX6_run 28 = .ok (.iconst 0, 1) := by decide +kernel
theorem dX6_run_29 : decode cX6_run 29 = .ok (.istore 5, 2) := by decide +kernel
theorem dX6_run_31 : decode cX6_run 31 = .ok (.iload_n 1, 1) := by decide +kernel
theorem dX6_run_32 : decode cX6_run 32 = .ok (.istore 6, 2) := by decide +kernel
theorem dX6_run_34 : decode cX6_run 34 = .ok (.iload 6, 2) := by decide +kernel
theorem dX6_run_36 : decode cX6_run 36 = .ok (.iload_n 2, 1) := by decide +kernel
theorem dX6_run_37 : decode cX6_run 37 = .ok (.if_icmp .gt 72, 3) := by decide +kernel
theorem dX6_run_40 : decode cX6_run 40 = .ok (.iload 6, 2) := by decide +kernel
theorem dX6_run_42 : decode cX6_run 42 = .ok (.istore 7, 2) := by decide +kernel
theorem dX6_run_44 : decode cX6_run 44 = .ok (.iload 7, 2) := by decide +kernel
theorem dX6_run_46 : decode cX6_run 46 = .ok (.iload_n 2, 1) := by decide +kernel
theorem dX6_run_47 : decode cX6_run 47 = .ok (.if_icmp .ge 28, 3) := by decide +kernel
theorem dX6_run_50 : decode cX6_run 50 = .ok (.aload_n 0, 1) := by decide +kernel
theorem dX6_run_51 : decode cX6_run 51 = .ok (.getfield 13, 3) := by decide +kernel
theorem dX6_run_54 : decode cX6_run 54 = .ok (.iload 7, 2) := by decide +kernel
theorem dX6_run_56 : decode cX6_run 56 = .ok (.iconst 1, 1) := by decide +kernel
theorem dX6_run_57 : decode cX6_run 57 = .ok (.iadd, 1) := by decide +kernel
theorem dX6_run_58 : decode cX6_run 58 = .ok (.iaload, 1) := by decide +kernel
theorem dX6_run_59 : decode cX6_run 59 = .ok (.aload_n 0, 1) := by decide +kernel
theorem dX6_run_60 : decode cX6_run 60 = .ok (.getfield 13, 3) := by decide +kernel
theorem dX6_run_63 : decode cX6_run 63 = .ok (.iload 6, 2) := by decide +kernel
theorem dX6_run_65 : decode cX6_run 65 = .ok (.iaload, 1) := by decide +kernel
theorem dX6_run_66 : decode cX6_run 66 = .ok (.if_icmp .ne 9, 3) := by decide +kernel
theorem dX6_run_69 : decode cX6_run 69 = .ok (.iinc 7 1, 3) := by decide +kernel
theorem dX6_run_72 : decode cX6_run 72 = .ok (.goto (-28), 3) := by decide +kernel
theorem dX6_run_75 : decode cX6_run 75 = .ok (.iload 7, 2) := by decide +kernel
theorem dX6_run_77 : decode cX6_run 77 = .ok (.iload 6, 2) := by decide +kernel
theorem dX6_run_79 : decode cX6_run 79 = .ok (.isub, 1) := by decide +kernel
theorem dX6_run_80 : decode cX6_run 80 = .ok (.iconst 1, 1) := by decide +kernel
theorem dX6_run_81 : decode cX6_run 81 = .ok (.iadd, 1) := by decide +kernel
theorem dX6_run_82 : decode cX6_run 82 = .ok (.iload 5, 2) := by decide +kernel
theorem dX6_run_84 : decode cX6_run 84 = .ok (.if_icmp .gt 6, 3) := by decide +kernel
theorem dX6_run_87 : decode cX6_run 87 = .ok (.goto 16, 3) := by decide +kernel
theorem dX6_run_90 : decode cX6_run 90 = .ok (.iload 6, 2) := by decide +kernel
theorem dX6_run_92 : decode cX6_run 92 = .ok (.istore 4, 2) := by decide +kernel
theorem dX6_run_94 : decode cX6_run 94 = .ok (.iload 7, 2) := by decide +kernel
theorem dX6_run_96 : decode cX6_run 96 = .ok (.iload 6, 2) := by decide +kernel
theorem dX6_run_98 : decode cX6_run 98 = .ok (.isub, 1) := by decide +kernel
theorem dX6_run_99 : decode cX6_run 99 = .ok (.iconst 1, 1) := by decide +kernel
theorem dX6_run_100 : decode cX6_run 100 = .ok (.iadd, 1) := by decide +kernel
theorem dX6_run_101 : decode cX6_run 101 = .ok (.istore 5, 2) := by decide +kernel
theorem dX6_run_103 : decode cX6_run 103 = .ok (.iinc 6 1, 3) := by decide +kernel
theorem dX6_run_106 : decode cX6_run 106 = .ok (.goto (-72), 3) := by decide +kernel
theorem dX6_run_109 : decode cX6_run 109 = .ok (.iload_n 3, 1) := by decide +kernel
theorem dX6_run_110 : decode cX6_run 110 = .ok (.ifCond .ne 8, 3) := by decide +kernel
theorem dX6_run_113 : decode cX6_run 113 = .ok (.iload 4, 2) := by decide +kernel
theorem dX6_run_115 : decode cX6_run 115 = .ok (.goto 25, 3) := by decide +kernel
theorem dX6_run_118 : decode cX6_run 118 = .ok (.iload_n 3, 1) := by decide +kernel
theorem dX6_run_119 : decode cX6_run 119 = .ok (.iconst 1, 1) := by decide +kernel
theorem dX6_run_120 : decode cX6_run 120 = .ok (.if_icmp .ne 13, 3) := by decide +kernel
theorem dX6_run_123 : decode cX6_run 123 = .ok (.iload 4, 2) := by decide +kernel
theorem dX6_run_125 : decode cX6_run 125 = .ok (.iload 5, 2) := by decide +kernel
theorem dX6_run_127 : decode cX6_run 127 = .ok (.iadd, 1) := by decide +kernel
theorem dX6_run_128 : decode cX6_run 128 = .ok (.iconst 1, 1) := by decide +kernel
theorem dX6_run_129 : decode cX6_run 129 = .ok (.isub, 1) := by decide +kernel
theorem dX6_run_130 : decode cX6_run 130 = .ok (.goto 10, 3) := by decide +kernel
theorem dX6_run_133 : decode cX6_run 133 = .ok (.aload_n 0, 1) := by decide +kernel
theorem dX6_run_134 : decode cX6_run 134 = .ok (.getfield 13, 3) := by decide +kernel
theorem dX6_run_137 : decode cX6_run 137 = .ok (.iload 4, 2) := by decide +kernel
theorem dX6_run_139 : decode cX6_run 139 = .ok (.iaload, 1) := by decide +kernel
theorem dX6_run_140 : decode cX6_run 140 = .ok (.ireturn, 1) := by decide +kernel
set_option maxRecDepth 20000 in
theorem ggX6_common_X6_isSpan : GoodIn wsX6_common wsX6_isSpan := goodIn_r _ [10, 2, 22, 23, 24, 25, 26, 27, 28, 29, 30, 31, 32, 33, 34, 35, 36, 37, 38, 39, 40, 41, 42, 43, 44, 45, 46, 47, 48, 49, 50, 51, 52, 53, 54, 55, 56, 57, 58, 59, 60, 61, 62, 63] rfl (by decide +kernel)
set_option maxRecDepth 20000 in
theorem gX6_common_X6_isSpan : GoodIn wsX6_common (wsV RX6 232 RX6 yX6_isSpan wsX6_isSpan) := goodIn_app (goodIn_r _ [6, 7, 8, 9] rfl (by decide +kernel)) ggX6_common_X6_isSpan
set_option maxRecDepth 20000 in
theorem ggX6_common_X6_counts : GoodIn wsX6_common wsX6_counts := goodIn_r _ [14, 5, 3, 15, 16, 4, 17, 22, 23, 24, 25, 26, 27, 28, 29, 30, 31, 32, 33, 34, 35, 36, 37, 38, 39, 40, 41, 42, 43, 44, 45, 46, 47, 48, 49, 50, 51, 52, 53, 54, 55, 56, 57, 58, 59, 60, 61, 62, 63] rfl (by decide +kernel)
set_option maxRecDepth 20000 in
theorem gX6_common_X6_counts : GoodIn wsX6_common (wsV RX6 252 RX6 yX6_counts wsX6_counts) := goodIn_app (goodIn_r _ [11, 12, 13, 9] rfl (by decide +kernel)) ggX6_common_X6_counts
set_option maxRecDepth 20000 in
theorem ggX6_common_X6_timesIn : GoodIn wsX6_common wsX6_timesIn := goodIn_r _ [21, 15, 22, 23, 24, 25, 26, 27, 28, 29, 30, 31, 32, 33, 34, 35, 36, 37, 38, 39, 40, 41, 42, 43, 44, 45, 46, 47, 48, 49, 50, 51, 52, 53, 54, 55, 56, 57, 58, 59, 60, 61, 62, 63] rfl (by decide +kernel)
set_option maxRecDepth 20000 in
theorem gX6_common_X6_timesIn : GoodIn wsX6_common (wsV RX6 190 RX6 yX6_timesIn wsX6_timesIn) := goodIn_app (goodIn_r _ [18, 19, 20, 9] rfl (by decide +kernel)) ggX6_common_X6_timesIn
theorem dX6_common_0 : decode cX6_common 0 = .ok (.aload_n 0, 1) := by decide +kernel
theorem dX6_common_1 : decode cX6_common 1 = .ok (.iconst 0, 1) := by decide +kernel
theorem dX6_common_2 : decode cX6_common 2 = .ok (.putfield 72, 3) := by decide +kernel
theorem dX6_common_5 : decode cX6_common 5 = .ok (.aload_n 0, 1) := by decide +kernel
theorem dX6_common_6 : decode cX6_common 6 = .ok (.iload_n 1, 1) := by decide +kernel
theorem dX6_common_7 : decode cX6_common 7 = .ok (.iload_n 2, 1) := by decide +kernel
theorem dX6_common_8 : decode cX6_common 8 = .ok (.invokevirtual 232, 3) := by decide +kernel
theorem dX6_common_11 : decode cX6_common 11 = .ok (.ifCond .eq 19, 3) := by decide +kernel
theorem dX6_common_14 : decode cX6_common 14 = .ok (.iload_n 3, 1) := by decide +kernel
theorem dX6_common_15 : decode cX6_common 15 = .ok (.ifCond .lt 15, 3) := by decide +kernel
theorem dX6_common_18 : decode cX6_common 18 = .ok (.iload_n 3, 1) := by decide +kernel
theorem dX6_common_19 : decode cX6_common 19 = .ok (.aload_n 0, 1) := by decide +kernel
theorem dX6_common_20 : decode cX6_common 20 = .ok (.getfield 175, 3) := by decide +kernel
theorem dX6_common_23 : decode cX6_common 23 = .ok (.iload_n 2, 1) := by decide +kernel
theorem dX6_common_24 : decode cX6_common 24 = .ok (.iload_n 1, 1) := by decide +kernel
theorem dX6_common_25 : decode cX6_common 25 = .ok (.isub, 1) := by decide +kernel
theorem dX6_common_26 : decode cX6_common 26 = .ok (.isub, 1) := by decide +kernel
theorem dX6_common_27 : decode cX6_common 27 = .ok (.if_icmp .lt 5, 3) := by decide +kernel
theorem dX6_common_30 : decode cX6_common 30 = .ok (.iconst (-1), 1) := by decide +kernel
theorem dX6_common_31 : decode cX6_common 31 = .ok (.ireturn, 1) := by decide +kernel
theorem dX6_common_32 : decode cX6_common 32 = .ok (.aload_n 0, 1) := by decide +kernel
theorem dX6_common_33 : decode cX6_common 33 = .ok (.iload_n 1, 1) := by decide +kernel
theorem dX6_common_34 : decode cX6_common 34 = .ok (.iload_n 2, 1) := by decide +kernel
theorem dX6_common_35 : decode cX6_common 35 = .ok (.iconst (-1), 1) := by decide +kernel
theorem dX6_common_36 : decode cX6_common 36 = .ok (.invokevirtual 252, 3) := by decide +kernel
theorem dX6_common_39 : decode cX6_common 39 = .ok (.iconst 0, 1) := by decide +kernel
theorem dX6_common_40 : decode cX6_common 40 = .ok (.istore 4, 2) := by decide +kernel
theorem dX6_common_42 : decode cX6_common 42 = .ok (.iconst 0, 1) := by decide +kernel
theorem dX6_common_43 : decode cX6_common 43 = .ok (.istore 5, 2) := by decide +kernel
theorem dX6_common_45 : decode cX6_common 45 = .ok (.iload 5, 2) := by decide +kernel
theorem dX6_common_47 : decode cX6_common 47 = .ok (.aload_n 0, 1) := by decide +kernel
theorem dX6_common_48 : decode cX6_common 48 = .ok (.getfield 242, 3) := by decide +kernel
theorem dX6_common_51 : decode cX6_common 51 = .ok (.if_icmp .ge 67, 3) := by decide +kernel
theorem dX6_common_54 : decode cX6_common 54 = .ok (.aload_n 0, 1) := by decide +kernel
theorem dX6_common_55 : decode cX6_common 55 = .ok (.iload_n 3, 1) := by decide +kernel
theorem dX6_common_56 : decode cX6_common 56 = .ok (.iload_n 3, 1) := by decide +kernel
theorem dX6_common_57 : decode cX6_common 57 = .ok (.iload_n 2, 1) := by decide +kernel
theorem dX6_common_58 : decode cX6_common 58 = .ok (.iadd, 1) := by decide +kernel
theorem dX6_common_59 : decode cX6_common 59 = .ok (.iload_n 1, 1) := by decide +kernel
theorem dX6_common_60 : decode cX6_common 60 = .ok (.isub, 1) := by decide +kernel
theorem dX6_common_61 : decode cX6_common 61 = .ok (.aload_n 0, 1) := by decide +kernel
theorem dX6_common_62 : decode cX6_common 62 = .ok (.getfield 56, 3) := by decide +kernel
theorem dX6_common_65 : decode cX6_common 65 = .ok (.iload 5, 2) := by decide +kernel
theorem dX6_common_67 : decode cX6_common 67 = .ok (.iaload, 1) := by decide +kernel
theorem dX6_common_68 : decode cX6_common 68 = .ok (.invokevirtual 190, 3) := by decide +kernel
theorem dX6_common_71 : decode cX6_common 71 = .ok (.istore 6, 2) := by decide +kernel
theorem dX6_common_73 : decode cX6_common 73 = .ok (.iload 4, 2) := by decide +kernel
theorem dX6_common_75 : decode cX6_common 75 = .ok (.iload 6, 2) := by decide +kernel
theorem dX6_common_77 : decode cX6_common 77 = .ok (.aload_n 0, 1) := by decide +kernel
theorem dX6_common_78 : decode cX6_common 78 = .ok (.getfield 47, 3) := by decide +kernel
theorem dX6_common_81 : decode cX6_common 81 = .ok (.aload_n 0, 1) := by decide +kernel
theorem dX6_common_82 : decode cX6_common 82 = .ok (.getfield 56, 3) := by decide +kernel
theorem dX6_common_85 : decode cX6_common 85 = .ok (.iload 5, 2) := by decide +kernel
theorem dX6_common_87 : decode cX6_common 87 = .ok (.iaload, 1) := by decide +kernel
theorem dX6_common_88 : decode cX6_common 88 = .ok (.iaload, 1) := by decide +kernel
theorem dX6_common_89 : decode cX6_common 89 = .ok (.if_icmp .ge 8, 3) := by decide +kernel
theorem dX6_common_92 : decode cX6_common 92 = .ok (.iload 6, 2) := by decide +kernel
theorem dX6_common_94 : decode cX6_common 94 = .ok (.goto 15, 3) := by decide +kernel
theorem dX6_common_97 : decode cX6_common 97 = .ok (.aload_n 0, 1) := by decide +kernel
theorem dX6_common_98 : decode cX6_common 98 = .ok (.getfield 47, 3) := by decide +kernel
theorem dX6_common_101 : decode cX6_common 101 = .ok (.aload_n 0, 1) := by decide +kernel
theorem dX6_common_102 : decode cX6_common 102 = .ok (.getfield 56, 3) := by decide +kernel
theorem dX6_common_105 : decode cX6_common 105 = .ok (.iload 5, 2) := by decide +kernel
theorem dX6_common_107 : decode cX6_common 107 = .ok (.iaload, 1) := by decide +kernel
theorem dX6_common_108 : decode cX6_common 108 = .ok (.iaload, 1) := by decide +kernel
theorem dX6_common_109 : decode cX6_common 109 = .ok (.iadd, 1) := by decide +kernel
theorem dX6_common_110 : decode cX6_common 110 = .ok (.istore 4, 2) := by decide +kernel
theorem dX6_common_112 : decode cX6_common 112 = .ok (.iinc 5 1, 3) := by decide +kernel
theorem dX6_common_115 : decode cX6_common 115 = .ok (.goto (-70), 3) := by decide +kernel
theorem dX6_common_118 : decode cX6_common 118 = .ok (.iload 4, 2) := by decide +kernel
theorem dX6_common_120 : decode cX6_common 120 = .ok (.ireturn, 1) := by decide +kernel
set_option maxRecDepth 20000 in
theorem ggX6_window_X6_modeOf : GoodIn wsX6_window wsX6_modeOf := goodIn_r _ [7, 8, 9, 10, 11, 6, 12, 13, 14, 15, 16, 17, 18, 19, 20, 21, 22, 23, 24, 25, 26, 27, 28, 29, 30, 31, 32, 33, 34, 35, 36, 37, 38, 39, 40, 41, 42, 43, 44, 45, 46, 47, 48, 49, 50, 51, 52, 53, 54, 55, 56, 57, 58, 59, 60, 61, 62, 63, 64, 65, 66, 67, 68] rfl (by decide +kernel)
set_option maxRecDepth 20000 in
theorem gX6_window_X6_modeOf : GoodIn wsX6_window (wsV RX6 260 RX6 yX6_modeOf wsX6_modeOf) := goodIn_app (goodIn_r _ [3, 4, 5, 6] rfl (by decide +kernel)) ggX6_window_X6_modeOf
theorem dX6_window_0 : decode cX6_window 0 = .ok (.aload_n 0, 1) := by decide +kernel
theorem dX6_window_1 : decode cX6_window 1 = .ok (.iconst 0, 1) := by decide +kernel
theorem dX6_window_2 : decode cX6_window 2 = .ok (.putfield 72, 3) := by decide +kernel
theorem dX6_window_5 : decode cX6_window 5 = .ok (.iload_n 1, 1) := by decide +kernel
theorem dX6_window_6 : decode cX6_window 6 = .ok (.iconst 1, 1) := by decide +kernel
theorem dX6_window_7 : decode cX6_window 7 = .ok (.if_icmp .lt 15, 3) := by decide +kernel
theorem dX6_window_10 : decode cX6_window 10 = .ok (.iload_n 1, 1) := by decide +kernel
theorem dX6_window_11 : decode cX6_window 11 = .ok (.aload_n 0, 1) := by decide +kernel
theorem dX6_window_12 : decode cX6_window 12 = .ok (.getfield 175, 3) := by decide +kernel
theorem dX6_window_15 : decode cX6_window 15 = .ok (.if_icmp .gt 7, 3) := by decide +kernel
theorem dX6_window_18 : decode cX6_window 18 = .ok (.iload_n 2, 1) := by decide +kernel
theorem dX6_window_19 : decode cX6_window 19 = .ok (.ifCond .ge 5, 3) := by decide +kernel
theorem dX6_window_22 : decode cX6_window 22 = .ok (.iconst (-1), 1) := by decide +kernel
theorem dX6_window_23 : decode cX6_window 23 = .ok (.ireturn, 1) := by decide +kernel
theorem dX6_window_24 : decode cX6_window 24 = .ok (.iload_n 2, 1) := by decide +kernel
theorem dX6_window_25 : decode cX6_window 25 = .ok (.aload_n 0, 1) := by decide +kernel
theorem dX6_window_26 : decode cX6_window 26 = .ok (.getfield 175, 3) := by decide +kernel
theorem dX6_window_29 : decode cX6_window 29 = .ok (.iload_n 1, 1) := by decide +kernel
theorem dX6_window_30 : decode cX6_window 30 = .ok (.isub, 1) := by decide +kernel
theorem dX6_window_31 : decode cX6_window 31 = .ok (.if_icmp .le 8, 3) := by decide +kernel
theorem dX6_window_34 : decode cX6_window 34 = .ok (.bipush (-2), 2) := by decide +kernel
theorem dX6_window_36 : decode cX6_window 36 = .ok (.goto 13, 3) := by decide +kernel
theorem dX6_window_39 : decode cX6_window 39 = .ok (.aload_n 0, 1) := by decide +kernel
theorem dX6_window_40 : decode cX6_window 40 = .ok (.iload_n 2, 1) := by decide +kernel
theorem dX6_window_41 : decode cX6_window 41 = .ok (.iload_n 2, 1) := by decide +kernel
theorem dX6_window_42 : decode cX6_window 42 = .ok (.iload_n 1, 1) := by decide +kernel
theorem dX6_window_43 : decode cX6_window 43 = .ok (.iadd, 1) := by decide +kernel
theorem dX6_window_44 : decode cX6_window 44 = .ok (.iconst 1, 1) := by decide +kernel
theorem dX6_window_45 : decode cX6_window 45 = .ok (.isub, 1) := by decide +kernel
theorem dX6_window_46 : decode cX6_window 46 = .ok (.invokevirtual 260, 3) := by decide +kernel
theorem dX6_window_49 : decode cX6_window 49 = .ok (.ireturn, 1) := by decide +kernel
set_option maxRecDepth 20000 in
theorem ggX6_windows_X6_modeOf : GoodIn wsX6_windows wsX6_modeOf := goodIn_r _ [8, 9, 10, 11, 12, 7, 13, 14, 15, 16, 17, 18, 19, 20, 21, 22, 23, 24, 25, 26, 27, 28, 29, 30, 31, 32, 33, 34, 35, 36, 37, 38, 39, 40, 41, 42, 43, 44, 45, 46, 47, 48, 49, 50, 51, 52, 53, 54, 55, 56, 57, 58, 59, 60, 61, 62, 63, 64, 65, 66, 67, 68, 69] rfl (by decide +kernel)
set_option maxRecDepth 20000 in
theorem gX6_windows_X6_modeOf : GoodIn wsX6_windows (wsV RX6 260 RX6 yX6_modeOf wsX6_modeOf) := goodIn_app (goodIn_r _ [4, 5, 6, 7] rfl (by decide +kernel)) ggX6_windows_X6_modeOf
theorem dX6_windows_0 : decode cX6_windows 0 = .ok (.aload_n 0, 1) := by decide +kernel
theorem dX6_windows_1 : decode cX6_windows 1 = .ok (.iconst 0, 1) := by decide +kernel
theorem dX6_windows_2 : decode cX6_windows 2 = .ok (.putfield 72, 3) := by decide +kernel
theorem dX6_windows_5 : decode cX6_windows 5 = .ok (.iload_n 1, 1) := by decide +kernel
theorem dX6_windows_6 : decode cX6_windows 6 = .ok (.iconst 1, 1) := by decide +kernel
theorem dX6_windows_7 : decode cX6_windows 7 = .ok (.if_icmp .lt 20, 3) := by decide +kernel
theorem dX6_windows_10 : decode cX6_windows 10 = .ok (.iload_n 1, 1) := by decide +kernel
theorem dX6_windows_11 : decode cX6_windows 11 = .ok (.aload_n 0, 1) := by decide +kernel
theorem dX6_windows_12 : decode cX6_windows 12 = .ok (.getfield 175, 3) := by decide +kernel
theorem dX6_windows_15 : decode cX6_windows 15 = .ok (.if_icmp .gt 12, 3) := by decide +kernel
theorem dX6_windows_18 : decode cX6_windows 18 = .ok (.iload_n 2, 1) := by decide +kernel
theorem dX6_windows_19 : decode cX6_windows 19 = .ok (.ifCond .lt 8, 3) := by decide +kernel
theorem dX6_windows_22 : decode cX6_windows 22 = .ok (.iload_n 2, 1) := by decide +kernel
theorem dX6_windows_23 : decode cX6_windows 23 = .ok (.iconst 2, 1) := by decide +kernel
theorem dX6_windows_24 : decode cX6_windows 24 = .ok (.if_icmp .le 5, 3) := by decide +kernel
theorem dX6_windows_27 : decode cX6_windows 27 = .ok (.iconst (-1), 1) := by decide +kernel
theorem dX6_windows_28 : decode cX6_windows 28 = .ok (.ireturn, 1) := by decide +kernel
theorem dX6_windows_29 : decode cX6_windows 29 = .ok (.iconst 0, 1) := by decide +kernel
theorem dX6_windows_30 : decode cX6_windows 30 = .ok (.istore_n 3, 1) := by decide +kernel
theorem dX6_windows_31 : decode cX6_windows 31 = .ok (.iload_n 3, 1) := by decide +kernel
theorem dX6_windows_32 : decode cX6_windows 32 = .ok (.sipush 1000, 3) := by decide +kernel
theorem dX6_windows_35 : decode cX6_windows 35 = .ok (.if_icmp .ge 16, 3) := by decide +kernel
theorem dX6_windows_38 : decode cX6_windows 38 = .ok (.aload_n 0, 1) := by decide +kernel
theorem dX6_windows_39 : decode cX6_windows 39 = .ok (.getfield 63, 3) := by decide +kernel
theorem dX6_windows_42 : decode cX6_windows 42 = .ok (.iload_n 3, 1) := by decide +kernel
theorem dX6_windows_43 : decode cX6_windows 43 = .ok (.iconst 0, 1) := by decide +kernel
theorem dX6_windows_44 : decode cX6_windows 44 = .ok (.iastore, 1) := by decide +kernel
theorem dX6_windows_45 : decode cX6_windows 45 = .ok (.iinc 3 1, 3) := by decide +kernel
theorem dX6_windows_48 : decode cX6_windows 48 = .ok (.goto (-17), 3) := by decide +kernel
theorem dX6_windows_51 : decode cX6_windows 51 = .ok (.iconst 0, 1) := by decide +kernel
theorem dX6_windows_52 : decode cX6_windows 52 = .ok (.istore_n 3, 1) := by decide +kernel
theorem dX6_windows_53 : decode cX6_windows 53 = .ok (.iconst (-1), 1) := by decide +kernel
theorem dX6_windows_54 : decode cX6_windows 54 = .ok (.istore 4, 2) := by decide +kernel
theorem dX6_windows_56 : decode cX6_windows 56 = .ok (.iconst 0, 1) := by decide +kernel
theorem dX6_windows_57 : decode cX6_windows 57 = .ok (.istore 5, 2) := by decide +kernel
theorem dX6_windows_59 : decode cX6_windows 59 = .ok (.iload 5, 2) := by decide +kernel
theorem dX6_windows_61 : decode cX6_windows 61 = .ok (.iload_n 1, 1) := by decide +kernel
theorem dX6_windows_62 : decode cX6_windows 62 = .ok (.iadd, 1) := by decide +kernel
theorem dX6_windows_63 : decode cX6_windows 63 = .ok (.aload_n 0, 1) := by decide +kernel
theorem dX6_windows_64 : decode cX6_windows 64 = .ok (.getfield 175, 3) := by decide +kernel
theorem dX6_windows_67 : decode cX6_windows 67 = .ok (.if_icmp .gt 58, 3) := by decide +kernel
theorem dX6_windows_70 : decode cX6_windows 70 = .ok (.aload_n 0, 1) := by decide +kernel
theorem dX6_windows_71 : decode cX6_windows 71 = .ok (.iload 5, 2) := by decide +kernel
theorem dX6_windows_73 : decode cX6_windows 73 = .ok (.iload 5, 2) := by decide +kernel
theorem dX6_windows_75 : decode cX6_windows 75 = .ok (.iload_n 1, 1) := by decide +kernel
theorem dX6_windows_76 : decode cX6_windows 76 = .ok (.iadd, 1) := by decide +kernel
theorem dX6_windows_77 : decode cX6_windows 77 = .ok (.iconst 1, 1) := by decide +kernel
theorem dX6_windows_78 : decode cX6_windows 78 = .ok (.isub, 1) := by decide +kernel
theorem dX6_windows_79 : decode cX6_windows 79 = .ok (.invokevirtual 260, 3) := by decide +kernel
theorem dX6_windows_82 : decode cX6_windows 82 = .ok (.istore 6, 2) := by decide +kernel
theorem dX6_windows_84 : decode cX6_windows 84 = .ok (.iload_n 3, 1) := by decide +kernel
theorem dX6_windows_85 : decode cX6_windows 85 = .ok (.iload 5, 2) := by decide +kernel
theorem dX6_windows_87 : decode cX6_windows 87 = .ok (.ifCond .le 14, 3) := by decide +kernel
theorem dX6_windows_90 : decode cX6_windows 90 = .ok (.iload 6, 2) := by decide +kernel
theorem dX6_windows_92 : decode cX6_windows 92 = .ok (.iload 4, 2) := by decide +kernel
theorem dX6_windows_94 : decode cX6_windows 94 = .ok (.if_icmp .eq 7, 3) := by decide +kernel
theorem dX6_windows_97 : decode cX6_windows 97 = .ok (.iconst 1, 1) := by decide +kernel
theorem dX6_windows_98 : decode cX6_windows 98 = .ok (.goto 4, 3) := by decide +kernel
theorem dX6_windows_101 : decode cX6_windows 101 = .ok (.iconst 0, 1) := by decide +kernel
theorem dX6_windows_102 : decode cX6_windows 102 = .ok (.iadd, 1) := by decide +kernel
theorem dX6_windows_103 : decode cX6_windows 103 = .ok (.istore_n 3, 1) := by decide +kernel
theorem dX6_windows_104 : decode cX6_windows 104 = .ok (.aload_n 0, 1) := by decide +kernel
theorem dX6_windows_105 : decode cX6_windows 105 = .ok (.getfield 63, 3) := by decide +kernel
theorem dX6_windows_108 : decode cX6_windows 108 = .ok (.iload 6, 2) := by decide +kernel
theorem dX6_windows_110 : decode cX6_windows 110 = .ok (.dup2, 1) := by decide +kernel
theorem dX6_windows_111 : decode cX6_windows 111 = .ok (.iaload, 1) := by decide +kernel
theorem dX6_windows_112 : decode cX6_windows 112 = .ok (.iconst 1, 1) := by decide +kernel
theorem dX6_windows_113 : decode cX6_windows 113 = .ok (.iadd, 1) := by decide +kernel
theorem dX6_windows_114 : decode cX6_windows 114 = .ok (.iastore, 1) := by decide +kernel
theorem dX6_windows_115 : decode cX6_windows 115 = .ok (.iload 6, 2) := by decide +kernel
theorem dX6_windows_117 : decode cX6_windows 117 = .ok (.istore 4, 2) := by decide +kernel
theorem dX6_windows_119 : decode cX6_windows 119 = .ok (.iinc 5 1, 3) := by decide +kernel
theorem dX6_windows_122 : decode cX6_windows 122 = .ok (.goto (-63), 3) := by decide +kernel
theorem dX6_windows_125 : decode cX6_windows 125 = .ok (.iconst 0, 1) := by decide +kernel
theorem dX6_windows_126 : decode cX6_windows 126 = .ok (.istore 5, 2) := by decide +kernel
theorem dX6_windows_128 : decode cX6_windows 128 = .ok (.iconst (-1), 1) := by decide +kernel
theorem dX6_windows_129 : decode cX6_windows 129 = .ok (.istore 6, 2) := by decide +kernel
theorem dX6_windows_131 : decode cX6_windows 131 = .ok (.iconst 0, 1) := by decide +kernel
theorem dX6_windows_132 : decode cX6_windows 132 = .ok (.istore 7, 2) := by decide +kernel
theorem dX6_windows_134 : decode cX6_windows 134 = .ok (.iload 7, 2) := by decide +kernel
theorem dX6_windows_136 : decode cX6_windows 136 = .ok (.sipush 1000, 3) := by decide +kernel
theorem dX6_windows_139 : decode cX6_windows 139 = .ok (.if_icmp .ge 60, 3) := by decide +kernel
theorem dX6_windows_142 : decode cX6_windows 142 = .ok (.iload 5, 2) := by decide +kernel
theorem dX6_windows_144 : decode cX6_windows 144 = .ok (.aload_n 0, 1) := by decide +kernel
theorem dX6_windows_145 : decode cX6_windows 145 = .ok (.getfield 63, 3) := by decide +kernel
theorem dX6_windows_148 : decode cX6_windows 148 = .ok (.iload 7, 2) := by decide +kernel
theorem dX6_windows_150 : decode cX6_windows 150 = .ok (.iaload, 1) := by decide +kernel
theorem dX6_windows_151 : decode cX6_windows 151 = .ok (.ifCond .le 7, 3) := by decide +kernel
theorem dX6_windows_154 : decode cX6_windows 154 = .ok (.iconst 1, 1) := by decide +kernel
theorem dX6_windows_155 : decode cX6_windows 155 = .ok (.goto 4, 3) := by decide +kernel
theorem dX6_windows_158 : decode cX6_windows 158 = .ok (.iconst 0, 1) := by decide +kernel
theorem dX6_windows_159 : decode cX6_windows 159 = .ok (.iadd, 1) := by decide +kernel
theorem dX6_windows_160 : decode cX6_windows 160 = .ok (.istore 5, 2) := by decide +kernel
theorem dX6_windows_162 : decode cX6_windows 162 = .ok (.aload_n 0, 1) := by decide +kernel
theorem dX6_windows_163 : decode cX6_windows 163 = .ok (.getfield 63, 3) := by decide +kernel
theorem dX6_windows_166 : decode cX6_windows 166 = .ok (.iload 7, 2) := by decide +kernel
theorem dX6_windows_168 : decode cX6_windows 168 = .ok (.iaload, 1) := by decide +kernel
theorem dX6_windows_169 : decode cX6_windows 169 = .ok (.iload 6, 2) := by decide +kernel
theorem dX6_windows_171 : decode cX6_windows 171 = .ok (.iconst (-1), 1) := by decide +kernel
theorem dX6_windows_172 : decode cX6_windows 172 = .ok (.if_icmp .ne 7, 3) := by decide +kernel
theorem dX6_windows_175 : decode cX6_windows 175 = .ok (.iconst 0, 1) := by decide +kernel
theorem dX6_windows_176 : decode cX6_windows 176 = .ok (.goto 10, 3) := by decide +kernel
theorem dX6_windows_179 : decode cX6_windows 179 = .ok (.aload_n 0, 1) := by decide +kernel
theorem dX6_windows_180 : decode cX6_windows 180 = .ok (.getfield 63, 3) := by decide +kernel
theorem dX6_windows_183 : decode cX6_windows 183 = .ok (.iload 6, 2) := by decide +kernel
theorem dX6_windows_185 : decode cX6_windows 185 = .ok (.iaload, 1) := by decide +kernel
theorem dX6_windows_186 : decode cX6_windows 186 = .ok (.if_icmp .le 7, 3) := by decide +kernel
theorem dX6_windows_189 : decode cX6_windows 189 = .ok (.iload 7, 2) := by decide +kernel
theorem dX6_windows_191 : decode cX6_windows 191 = .ok (.istore 6, 2) := by decide +kernel
theorem dX6_windows_193 : decode cX6_windows 193 = .ok (.iinc 7 1, 3) := by decide +kernel
theorem dX6_windows_196 : decode cX6_windows 196 = .ok (.goto (-62), 3) := by decide +kernel
theorem dX6_windows_199 : decode cX6_windows 199 = .ok (.iload_n 2, 1) := by decide +kernel
theorem dX6_windows_200 : decode cX6_windows 200 = .ok (.ifCond .ne 7, 3) := by decide +kernel
theorem dX6_windows_203 : decode cX6_windows 203 = .ok (.iload_n 3, 1) := by decide +kernel
theorem dX6_windows_204 : decode cX6_windows 204 = .ok (.goto 15, 3) := by decide +kernel
theorem dX6_windows_207 : decode cX6_windows 207 = .ok (.iload_n 2, 1) := by decide +kernel
theorem dX6_windows_208 : decode cX6_windows 208 = .ok (.iconst 1, 1) := by decide +kernel
theorem dX6_windows_209 : decode cX6_windows 209 = .ok (.if_icmp .ne 8, 3) := by decide +kernel
theorem dX6_windows_212 : decode cX6_windows 212 = .ok (.iload 5, 2) := by decide +kernel
theorem dX6_windows_214 : decode cX6_windows 214 = .ok (.goto 5, 3) := by decide +kernel
theorem dX6_windows_217 : decode cX6_windows 217 = .ok (.iload 6, 2) := by decide +kernel
theorem dX6_windows_219 : decode cX6_windows 219 = .ok (.ireturn, 1) := by decide +kernel
set_option maxRecDepth 20000 in
theorem ggX6_longer_X6_counts : GoodIn wsX6_longer wsX6_counts := goodIn_r _ [7, 8, 9, 1, 10, 11, 12, 25, 26, 27, 28, 29, 30, 31, 32, 33, 34, 35, 36, 37, 38, 39, 40, 41, 42, 43, 44, 45, 46, 47, 48, 49, 50, 51, 52, 53, 54, 55, 56, 57, 58, 59, 60, 61, 62, 63, 64, 65, 66] rfl (by decide +kernel)
set_option maxRecDepth 20000 in
theorem gX6_longer_X6_counts : GoodIn wsX6_longer (wsV RX6 252 RX6 yX6_counts wsX6_counts) := goodIn_app (goodIn_r _ [3, 4, 5, 6] rfl (by decide +kernel)) ggX6_longer_X6_counts
set_option maxRecDepth 20000 in
theorem ggX6_longer_X6_stands : GoodIn wsX6_longer wsX6_stands := goodIn_r _ [16, 8, 10, 11, 9, 12, 25, 26, 27, 28, 29, 30, 31, 32, 33, 34, 35, 36, 37, 38, 39, 40, 41, 42, 43, 44, 45, 46, 47, 48, 49, 50, 51, 52, 53, 54, 55, 56, 57, 58, 59, 60, 61, 62, 63, 64, 65, 66] rfl (by decide +kernel)
set_option maxRecDepth 20000 in
theorem gX6_longer_X6_stands : GoodIn wsX6_longer (wsV RX6 281 RX6 yX6_stands wsX6_stands) := goodIn_app (goodIn_r _ [13, 14, 15, 6] rfl (by decide +kernel)) ggX6_longer_X6_stands
set_option maxRecDepth 20000 in
theorem ggX6_longer_X6_modeBy : GoodIn wsX6_longer wsX6_modeBy := goodIn_r _ [20, 9, 11, 21, 22, 23, 6, 24, 8, 10, 12, 25, 26, 27, 28, 29, 30, 31, 32, 33, 34, 35, 36, 37, 38, 39, 40, 41, 42, 43, 44, 45, 46, 47, 48, 49, 50, 51, 52, 53, 54, 55, 56, 57, 58, 59, 60, 61, 62, 63, 64, 65, 66] rfl (by decide +kernel)
set_option maxRecDepth 20000 in
theorem gX6_longer_X6_modeBy : GoodIn wsX6_longer (wsV RX6 256 RX6 yX6_modeBy wsX6_modeBy) := goodIn_app (goodIn_r _ [17, 18, 19, 6] rfl (by decide +kernel)) ggX6_longer_X6_modeBy
theorem dX6_longer_0 : decode cX6_longer 0 = .ok (.iload_n 1, 1) := by decide +kernel
theorem dX6_longer_1 : decode cX6_longer 1 = .ok (.iload_n 2, 1) := by decide +kernel
theorem dX6_longer_2 : decode cX6_longer 2 = .ok (.if_icmp .ne 13, 3) := by decide +kernel
theorem dX6_longer_5 : decode cX6_longer 5 = .ok (.aload_n 0, 1) := by decide +kernel
theorem dX6_longer_6 : decode cX6_longer 6 = .ok (.iload_n 1, 1) := by decide +kernel
theorem dX6_longer_7 : decode cX6_longer 7 = .ok (.iload_n 2, 1) := by decide +kernel
theorem dX6_longer_8 : decode cX6_longer 8 = .ok (.iconst (-1), 1) := by decide +kernel
theorem dX6_longer_9 : decode cX6_longer 9 = .ok (.invokevirtual 252, 3) := by decide +kernel
theorem dX6_longer_12 : decode cX6_longer 12 = .ok (.goto 14, 3) := by decide +kernel
theorem dX6_longer_15 : decode cX6_longer 15 = .ok (.aload_n 0, 1) := by decide +kernel
theorem dX6_longer_16 : decode cX6_longer 16 = .ok (.aload_n 0, 1) := by decide +kernel
theorem dX6_longer_17 : decode cX6_longer 17 = .ok (.getfield 13, 3) := by decide +kernel
theorem dX6_longer_20 : decode cX6_longer 20 = .ok (.iload_n 2, 1) := by decide +kernel
theorem dX6_longer_21 : decode cX6_longer 21 = .ok (.iaload, 1) := by decide +kernel
theorem dX6_longer_22 : decode cX6_longer 22 = .ok (.iload_n 2, 1) := by decide +kernel
theorem dX6_longer_23 : decode cX6_longer 23 = .ok (.invokevirtual 281, 3) := by decide +kernel
theorem dX6_longer_26 : decode cX6_longer 26 = .ok (.aload_n 0, 1) := by decide +kernel
theorem dX6_longer_27 : decode cX6_longer 27 = .ok (.aload_n 0, 1) := by decide +kernel
theorem dX6_longer_28 : decode cX6_longer 28 = .ok (.getfield 178, 3) := by decide +kernel
theorem dX6_longer_31 : decode cX6_longer 31 = .ok (.invokevirtual 256, 3) := by decide +kernel
theorem dX6_longer_34 : decode cX6_longer 34 = .ok (.ireturn, 1) := by decide +kernel
set_option maxRecDepth 20000 in
theorem ggX6_spans_X6_isValue : GoodIn wsX6_spans wsX6_isValue := goodIn_r _ [6] rfl (by decide +kernel)
set_option maxRecDepth 20000 in
theorem gX6_spans_X6_isValue : GoodIn wsX6_spans (va_wsS RX6 220 yX6_isValue wsX6_isValue) := goodIn_app (goodIn_r _ [3, 4, 5] rfl (by decide +kernel)) ggX6_spans_X6_isValue
set_option maxRecDepth 20000 in
theorem ggX6_spans_X6_longer : GoodIn wsX6_spans wsX6_longer := goodIn_r _ [10, 11, 12, 13, 14, 15, 5, 16, 17, 18, 19, 20, 21, 22, 23, 24, 25, 26, 27, 28, 29, 30, 31, 32, 33, 34, 35, 36, 37, 38, 39, 40, 41, 42, 43, 44, 45, 46, 47, 48, 49, 50, 51, 52, 53, 54, 55, 56, 57, 58, 59, 60, 61, 62, 63, 64, 65, 66, 67, 68, 69, 70, 71, 72, 73, 74, 75] rfl (by decide +kernel)
set_option maxRecDepth 20000 in
theorem gX6_spans_X6_longer : GoodIn wsX6_spans (wsV RX6 284 RX6 yX6_longer wsX6_longer) := goodIn_app (goodIn_r _ [7, 8, 9, 5] rfl (by decide +kernel)) ggX6_spans_X6_longer
theorem dX6_spans_0 : decode cX6_spans 0 = .ok (.aload_n 0, 1) := by decide +kernel
theorem dX6_spans_1 : decode cX6_spans 1 = .ok (.iconst 0, 1) := by decide +kernel
theorem dX6_spans_2 : decode cX6_spans 2 = .ok (.putfield 72, 3) := by decide +kernel
theorem dX6_spans_5 : decode cX6_spans 5 = .ok (.iload_n 1, 1) := by decide +kernel
theorem dX6_spans_6 : decode cX6_spans 6 = .ok (.invokestatic 220, 3) := by decide +kernel
theorem dX6_spans_9 : decode cX6_spans 9 = .ok (.ifCond .ne 5, 3) := by decide +kernel
theorem dX6_spans_12 : decode cX6_spans 12 = .ok (.iconst (-1), 1) := by decide +kernel
theorem dX6_spans_13 : decode cX6_spans 13 = .ok (.ireturn, 1) := by decide +kernel
theorem dX6_spans_14 : decode cX6_spans 14 = .ok (.iconst 0, 1) := by decide +kernel
theorem dX6_spans_15 : decode cX6_spans 15 = .ok (.istore_n 2, 1) := by decide +kernel
theorem dX6_spans_16 : decode cX6_spans 16 = .ok (.iconst 0, 1) := by decide +kernel
theorem dX6_spans_17 : decode cX6_spans 17 = .ok (.istore_n 3, 1) := by decide +kernel
theorem dX6_spans_18 : decode cX6_spans 18 = .ok (.iload_n 3, 1) := by decide +kernel
theorem dX6_spans_19 : decode cX6_spans 19 = .ok (.aload_n 0, 1) := by decide +kernel
theorem dX6_spans_20 : decode cX6_spans 20 = .ok (.getfield 175, 3) := by decide +kernel
theorem dX6_spans_23 : decode cX6_spans 23 = .ok (.if_icmp .ge 46, 3) := by decide +kernel
theorem dX6_spans_26 : decode cX6_spans 26 = .ok (.iload_n 3, 1) := by decide +kernel
theorem dX6_spans_27 : decode cX6_spans 27 = .ok (.istore 4, 2) := by decide +kernel
theorem dX6_spans_29 : decode cX6_spans 29 = .ok (.iload 4, 2) := by decide +kernel
theorem dX6_spans_31 : decode cX6_spans 31 = .ok (.aload_n 0, 1) := by decide +kernel
theorem dX6_spans_32 : decode cX6_spans 32 = .ok (.getfield 175, 3) := by decide +kernel
theorem dX6_spans_35 : decode cX6_spans 35 = .ok (.if_icmp .ge 28, 3) := by decide +kernel
theorem dX6_spans_38 : decode cX6_spans 38 = .ok (.iload_n 2, 1) := by decide +kernel
theorem dX6_spans_39 : decode cX6_spans 39 = .ok (.aload_n 0, 1) := by decide +kernel
theorem dX6_spans_40 : decode cX6_spans 40 = .ok (.iload_n 3, 1) := by decide +kernel
theorem dX6_spans_41 : decode cX6_spans 41 = .ok (.iload 4, 2) := by decide +kernel
theorem dX6_spans_43 : decode cX6_spans 43 = .ok (.invokevirtual 284, 3) := by decide +kernel
theorem dX6_spans_46 : decode cX6_spans 46 = .ok (.iload_n 1, 1) := by decide +kernel
theorem dX6_spans_47 : decode cX6_spans 47 = .ok (.if_icmp .ne 7, 3) := by decide +kernel
theorem dX6_spans_50 : decode cX6_spans 50 = .ok (.iconst 1, 1) := by decide +kernel
theorem dX6_spans_51 : decode cX6_spans 51 = .ok (.goto 4, 3) := by decide +kernel
theorem dX6_spans_54 : decode cX6_spans 54 = .ok (.iconst 0, 1) := by decide +kernel
theorem dX6_spans_55 : decode cX6_spans 55 = .ok (.iadd, 1) := by decide +kernel
theorem dX6_spans_56 : decode cX6_spans 56 = .ok (.istore_n 2, 1) := by decide +kernel
theorem dX6_spans_57 : decode cX6_spans 57 = .ok (.iinc 4 1, 3) := by decide +kernel
theorem dX6_spans_60 : decode cX6_spans 60 = .ok (.goto (-31), 3) := by decide +kernel
theorem dX6_spans_63 : decode cX6_spans 63 = .ok (.iinc 3 1, 3) := by decide +kernel
theorem dX6_spans_66 : decode cX6_spans 66 = .ok (.goto (-48), 3) := by decide +kernel
theorem dX6_spans_69 : decode cX6_spans 69 = .ok (.iload_n 2, 1) := by decide +kernel
theorem dX6_spans_70 : decode cX6_spans 70 = .ok (.ireturn, 1) := by decide +kernel
set_option maxRecDepth 20000 in
theorem ggX6_longest_X6_isValue : GoodIn wsX6_longest wsX6_isValue := goodIn_r _ [6] rfl (by decide +kernel)
set_option maxRecDepth 20000 in
theorem gX6_longest_X6_isValue : GoodIn wsX6_longest (va_wsS RX6 220 yX6_isValue wsX6_isValue) := goodIn_app (goodIn_r _ [3, 4, 5] rfl (by decide +kernel)) ggX6_longest_X6_isValue
set_option maxRecDepth 20000 in
theorem ggX6_longest_X6_longer : GoodIn wsX6_longest wsX6_longer := goodIn_r _ [10, 11, 12, 13, 14, 15, 5, 16, 17, 18, 19, 20, 21, 22, 23, 24, 25, 26, 27, 28, 29, 30, 31, 32, 33, 34, 35, 36, 37, 38, 39, 40, 41, 42, 43, 44, 45, 46, 47, 48, 49, 50, 51, 52, 53, 54, 55, 56, 57, 58, 59, 60, 61, 62, 63, 64, 65, 66, 67, 68, 69, 70, 71, 72, 73, 74, 75] rfl (by decide +kernel)
set_option maxRecDepth 20000 in
theorem gX6_longest_X6_longer : GoodIn wsX6_longest (wsV RX6 284 RX6 yX6_longer wsX6_longer) := goodIn_app (goodIn_r _ [7, 8, 9, 5] rfl (by decide +kernel)) ggX6_longest_X6_longer
theorem dX6_longest_0 : decode cX6_longest 0 = .ok (.aload_n 0, 1) := by decide +kernel
theorem dX6_longest_1 : decode cX6_longest 1 = .ok (.iconst 0, 1) := by decide +kernel
theorem dX6_longest_2 : decode cX6_longest 2 = .ok (.putfield 72, 3) := by decide +kernel
theorem dX6_longest_5 : decode cX6_longest 5 = .ok (.iload_n 1, 1) := by decide +kernel
theorem dX6_longest_6 : decode cX6_longest 6 = .ok (.invokestatic 220, 3) := by decide +kernel
theorem dX6_longest_9 : decode cX6_longest 9 = .ok (.ifCond .eq 12, 3) := by decide +kernel
theorem dX6_longest_12 : decode cX6_longest 12 = .ok (.iload_n 2, 1) := by decide +kernel
theorem dX6_longest_13 : decode cX6_longest 13 = .ok (.ifCond .lt 8, 3) := by decide +kernel
theorem dX6_longest_16 : decode cX6_longest 16 = .ok (.iload_n 2, 1) := by decide +kernel
theorem dX6_longest_17 : decode cX6_longest 17 = .ok (.iconst 1, 1) := by decide +kernel
theorem dX6_longest_18 : decode cX6_longest 18 = .ok (.if_icmp .le 5, 3) := by decide +kernel
theorem dX6_longest_21 : decode cX6_longest 21 = .ok (.iconst (-1), 1) := by decide +kernel
theorem dX6_longest_22 : decode cX6_longest 22 = .ok (.ireturn, 1) := by decide +kernel
theorem dX6_longest_23 : decode cX6_longest 23 = .ok (.bipush (-2), 2) := by decide +kernel
theorem dX6_longest_25 : decode cX6_longest 25 = .ok (.istore_n 3, 1) := by decide +kernel
theorem dX6_longest_26 : decode cX6_longest 26 = .ok (.iconst 0, 1) := by decide +kernel
theorem dX6_longest_27 : decode cX6_longest 27 = .ok (.istore 4, 2) := by decide +kernel
theorem dX6_longest_29 : decode cX6_longest 29 = .ok (.iconst 0, 1) := by decide +kernel
theorem dX6_longest_30 : decode cX6_longest 30 = .ok (.istore 5, 2) := by decide +kernel
theorem dX6_longest_32 : decode cX6_longest 32 = .ok (.iload 5, 2) := by decide +kernel
theorem dX6_longest_34 : decode cX6_longest 34 = .ok (.aload_n 0, 1) := by decide +kernel
theorem dX6_longest_35 : decode cX6_longest 35 = .ok (.getfield 175, 3) := by decide +kernel
theorem dX6_longest_38 : decode cX6_longest 38 = .ok (.if_icmp .ge 67, 3) := by decide +kernel
theorem dX6_longest_41 : decode cX6_longest 41 = .ok (.iload 5, 2) := by decide +kernel
theorem dX6_longest_43 : decode cX6_longest 43 = .ok (.istore 6, 2) := by decide +kernel
theorem dX6_longest_45 : decode cX6_longest 45 = .ok (.iload 6, 2) := by decide +kernel
theorem dX6_longest_47 : decode cX6_longest 47 = .ok (.aload_n 0, 1) := by decide +kernel
theorem dX6_longest_48 : decode cX6_longest 48 = .ok (.getfield 175, 3) := by decide +kernel
theorem dX6_longest_51 : decode cX6_longest 51 = .ok (.if_icmp .ge 48, 3) := by decide +kernel
theorem dX6_longest_54 : decode cX6_longest 54 = .ok (.aload_n 0, 1) := by decide +kernel
theorem dX6_longest_55 : decode cX6_longest 55 = .ok (.iload 5, 2) := by decide +kernel
theorem dX6_longest_57 : decode cX6_longest 57 = .ok (.iload 6, 2) := by decide +kernel
theorem dX6_longest_59 : decode cX6_longest 59 = .ok (.invokevirtual 284, 3) := by decide +kernel
theorem dX6_longest_62 : decode cX6_longest 62 = .ok (.iload_n 1, 1) := by decide +kernel
theorem dX6_longest_63 : decode cX6_longest 63 = .ok (.if_icmp .ne 30, 3) := by decide +kernel
theorem dX6_longest_66 : decode cX6_longest 66 = .ok (.iload 6, 2) := by decide +kernel
theorem dX6_longest_68 : decode cX6_longest 68 = .ok (.iload 5, 2) := by decide +kernel
theorem dX6_longest_70 : decode cX6_longest 70 = .ok (.isub, 1) := by decide +kernel
theorem dX6_longest_71 : decode cX6_longest 71 = .ok (.iconst 1, 1) := by decide +kernel
theorem dX6_longest_72 : decode cX6_longest 72 = .ok (.iadd, 1) := by decide +kernel
theorem dX6_longest_73 : decode cX6_longest 73 = .ok (.iload 4, 2) := by decide +kernel
theorem dX6_longest_75 : decode cX6_longest 75 = .ok (.if_icmp .gt 6, 3) := by decide +kernel
theorem dX6_longest_78 : decode cX6_longest 78 = .ok (.goto 15, 3) := by decide +kernel
theorem dX6_longest_81 : decode cX6_longest 81 = .ok (.iload 5, 2) := by decide +kernel
theorem dX6_longest_83 : decode cX6_longest 83 = .ok (.istore_n 3, 1) := by decide +kernel
theorem dX6_longest_84 : decode cX6_longest 84 = .ok (.iload 6, 2) := by decide +kernel
theorem dX6_longest_86 : decode cX6_longest 86 = .ok (.iload 5, 2) := by decide +kernel
theorem dX6_longest_88 : decode cX6_longest 88 = .ok (.isub, 1) := by decide +kernel
theorem dX6_longest_89 : decode cX6_longest 89 = .ok (.iconst 1, 1) := by decide +kernel
theorem dX6_longest_90 : decode cX6_longest 90 = .ok (.iadd, 1) := by decide +kernel
theorem dX6_longest_91 : decode cX6_longest 91 = .ok (.istore 4, 2) := by decide +kernel
theorem dX6_longest_93 : decode cX6_longest 93 = .ok (.iinc 6 1, 3) := by decide +kernel
theorem dX6_longest_96 : decode cX6_longest 96 = .ok (.goto (-51), 3) := by decide +kernel
theorem dX6_longest_99 : decode cX6_longest 99 = .ok (.iinc 5 1, 3) := by decide +kernel
theorem dX6_longest_102 : decode cX6_longest 102 = .ok (.goto (-70), 3) := by decide +kernel
theorem dX6_longest_105 : decode cX6_longest 105 = .ok (.iload_n 3, 1) := by decide +kernel
theorem dX6_longest_106 : decode cX6_longest 106 = .ok (.bipush (-2), 2) := by decide +kernel
theorem dX6_longest_108 : decode cX6_longest 108 = .ok (.if_icmp .eq 7, 3) := by decide +kernel
theorem dX6_longest_111 : decode cX6_longest 111 = .ok (.iload_n 2, 1) := by decide +kernel
theorem dX6_longest_112 : decode cX6_longest 112 = .ok (.ifCond .ne 7, 3) := by decide +kernel
theorem dX6_longest_115 : decode cX6_longest 115 = .ok (.iload_n 3, 1) := by decide +kernel
theorem dX6_longest_116 : decode cX6_longest 116 = .ok (.goto 9, 3) := by decide +kernel
theorem dX6_longest_119 : decode cX6_longest 119 = .ok (.iload_n 3, 1) := by decide +kernel
theorem dX6_longest_120 : decode cX6_longest 120 = .ok (.iload 4, 2) := by decide +kernel
theorem dX6_longest_122 : decode cX6_longest 122 = .ok (.iadd, 1) := by decide +kernel
theorem dX6_longest_123 : decode cX6_longest 123 = .ok (.iconst 1, 1) := by decide +kernel
theorem dX6_longest_124 : decode cX6_longest 124 = .ok (.isub, 1) := by decide +kernel
theorem dX6_longest_125 : decode cX6_longest 125 = .ok (.ireturn, 1) := by decide +kernel
theorem dX6_tightest_0 : decode cX6_tightest 0 = .ok (.aload_n 0, 1) := by decide +kernel
theorem dX6_tightest_1 : decode cX6_tightest 1 = .ok (.iconst 0, 1) := by decide +kernel
theorem dX6_tightest_2 : decode cX6_tightest 2 = .ok (.putfield 72, 3) := by decide +kernel
theorem dX6_tightest_5 : decode cX6_tightest 5 = .ok (.iload_n 1, 1) := by decide +kernel
theorem dX6_tightest_6 : decode cX6_tightest 6 = .ok (.iconst 1, 1) := by decide +kernel
theorem dX6_tightest_7 : decode cX6_tightest 7 = .ok (.if_icmp .lt 12, 3) := by decide +kernel
theorem dX6_tightest_10 : decode cX6_tightest 10 = .ok (.iload_n 2, 1) := by decide +kernel
theorem dX6_tightest_11 : decode cX6_tightest 11 = .ok (.ifCond .lt 8, 3) := by decide +kernel
theorem dX6_tightest_14 : decode cX6_tightest 14 = .ok (.iload_n 2, 1) := by decide +kernel
theorem dX6_tightest_15 : decode cX6_tightest 15 = .ok (.iconst 2, 1) := by decide +kernel
theorem dX6_tightest_16 : decode cX6_tightest 16 = .ok (.if_icmp .le 5, 3) := by decide +kernel
theorem dX6_tightest_19 : decode cX6_tightest 19 = .ok (.iconst (-1), 1) := by decide +kernel
theorem dX6_tightest_20 : decode cX6_tightest 20 = .ok (.ireturn, 1) := by decide +kernel
theorem dX6_tightest_21 : decode cX6_tightest 21 = .ok (.bipush (-2), 2) := by decide +kernel
theorem dX6_tightest_23 : decode cX6_tightest 23 = .ok (.istore_n 3, 1) := by decide +kernel
theorem dX6_tightest_24 : decode cX6_tightest 24 = .ok (.bipush 121, 2) := by decide +kernel
theorem dX6_tightest_26 : decode cX6_tightest 26 = .ok (.istore 4, 2) := by decide +kernel
theorem dX6_tightest_28 : decode cX6_tightest 28 = .ok (.iconst 0, 1) := by decide +kernel
theorem dX6_tightest_29 : decode cX6_tightest 29 = .ok (.istore 5, 2) := by decide +kernel
theorem dX6_tightest_31 : decode cX6_tightest 31 = .ok (.iload 5, 2) := by decide +kernel
theorem dX6_tightest_33 : decode cX6_tightest 33 = .ok (.aload_n 0, 1) := by decide +kernel
theorem dX6_tightest_34 : decode cX6_tightest 34 = .ok (.getfield 175, 3) := by decide +kernel
theorem dX6_tightest_37 : decode cX6_tightest 37 = .ok (.if_icmp .ge 93, 3) := by decide +kernel
theorem dX6_tightest_40 : decode cX6_tightest 40 = .ok (.iconst 0, 1) := by decide +kernel
theorem dX6_tightest_41 : decode cX6_tightest 41 = .ok (.istore 6, 2) := by decide +kernel
theorem dX6_tightest_43 : decode cX6_tightest 43 = .ok (.iload 5, 2) := by decide +kernel
theorem dX6_tightest_45 : decode cX6_tightest 45 = .ok (.istore 7, 2) := by decide +kernel
theorem dX6_tightest_47 : decode cX6_tightest 47 = .ok (.iload 7, 2) := by decide +kernel
theorem dX6_tightest_49 : decode cX6_tightest 49 = .ok (.aload_n 0, 1) := by decide +kernel
theorem dX6_tightest_50 : decode cX6_tightest 50 = .ok (.getfield 175, 3) := by decide +kernel
theorem dX6_tightest_53 : decode cX6_tightest 53 = .ok (.if_icmp .ge 42, 3) := by decide +kernel
theorem dX6_tightest_56 : decode cX6_tightest 56 = .ok (.iload 6, 2) := by decide +kernel
theorem dX6_tightest_58 : decode cX6_tightest 58 = .ok (.iload_n 1, 1) := by decide +kernel
theorem dX6_tightest_59 : decode cX6_tightest 59 = .ok (.if_icmp .ge 36, 3) := by decide +kernel
theorem dX6_tightest_62 : decode cX6_tightest 62 = .ok (.iload 6, 2) := by decide +kernel
theorem dX6_tightest_64 : decode cX6_tightest 64 = .ok (.aload_n 0, 1) := by decide +kernel
theorem dX6_tightest_65 : decode cX6_tightest 65 = .ok (.getfield 13, 3) := by decide +kernel
theorem dX6_tightest_68 : decode cX6_tightest 68 = .ok (.iload 7, 2) := by decide +kernel
theorem dX6_tightest_70 : decode cX6_tightest 70 = .ok (.iaload, 1) := by decide +kernel
theorem dX6_tightest_71 : decode cX6_tightest 71 = .ok (.aload_n 0, 1) := by decide +kernel
theorem dX6_tightest_72 : decode cX6_tightest 72 = .ok (.getfield 13, 3) := by decide +kernel
theorem dX6_tightest_75 : decode cX6_tightest 75 = .ok (.iload 5, 2) := by decide +kernel
theorem dX6_tightest_77 : decode cX6_tightest 77 = .ok (.iaload, 1) := by decide +kernel
theorem dX6_tightest_78 : decode cX6_tightest 78 = .ok (.if_icmp .ne 7, 3) := by decide +kernel
theorem dX6_tightest_81 : decode cX6_tightest 81 = .ok (.iconst 1, 1) := by decide +kernel
theorem dX6_tightest_82 : decode cX6_tightest 82 = .ok (.goto 4, 3) := by decide +kernel
theorem dX6_tightest_85 : decode cX6_tightest 85 = .ok (.iconst 0, 1) := by decide +kernel
theorem dX6_tightest_86 : decode cX6_tightest 86 = .ok (.iadd, 1) := by decide +kernel
theorem dX6_tightest_87 : decode cX6_tightest 87 = .ok (.istore 6, 2) := by decide +kernel
theorem dX6_tightest_89 : decode cX6_tightest 89 = .ok (.iinc 7 1, 3) := by decide +kernel
theorem dX6_tightest_92 : decode cX6_tightest 92 = .ok (.goto (-45), 3) := by decide +kernel
theorem dX6_tightest_95 : decode cX6_tightest 95 = .ok (.iload 6, 2) := by decide +kernel
theorem dX6_tightest_97 : decode cX6_tightest 97 = .ok (.iload_n 1, 1) := by decide +kernel
theorem dX6_tightest_98 : decode cX6_tightest 98 = .ok (.if_icmp .lt 26, 3) := by decide +kernel
theorem dX6_tightest_101 : decode cX6_tightest 101 = .ok (.iload 7, 2) := by decide +kernel
theorem dX6_tightest_103 : decode cX6_tightest 103 = .ok (.iload 5, 2) := by decide +kernel
theorem dX6_tightest_105 : decode cX6_tightest 105 = .ok (.isub, 1) := by decide +kernel
theorem dX6_tightest_106 : decode cX6_tightest 106 = .ok (.iload 4, 2) := by decide +kernel
theorem dX6_tightest_108 : decode cX6_tightest 108 = .ok (.if_icmp .lt 6, 3) := by decide +kernel
theorem dX6_tightest_111 : decode cX6_tightest 111 = .ok (.goto 13, 3) := by decide +kernel
theorem dX6_tightest_114 : decode cX6_tightest 114 = .ok (.iload 5, 2) := by decide +kernel
theorem dX6_tightest_116 : decode cX6_tightest 116 = .ok (.istore_n 3, 1) := by decide +kernel
theorem dX6_tightest_117 : decode cX6_tightest 117 = .ok (.iload 7, 2) := by decide +kernel
theorem dX6_tightest_119 : decode cX6_tightest 119 = .ok (.iload 5, 2) := by decide +kernel
theorem dX6_tightest_121 : decode cX6_tightest 121 = .ok (.isub, 1) := by decide +kernel
theorem dX6_tightest_122 : decode cX6_tightest 122 = .ok (.istore 4, 2) := by decide +kernel
theorem dX6_tightest_124 : decode cX6_tightest 124 = .ok (.iinc 5 1, 3) := by decide +kernel
theorem dX6_tightest_127 : decode cX6_tightest 127 = .ok (.goto (-96), 3) := by decide +kernel
theorem dX6_tightest_130 : decode cX6_tightest 130 = .ok (.iload_n 3, 1) := by decide +kernel
theorem dX6_tightest_131 : decode cX6_tightest 131 = .ok (.bipush (-2), 2) := by decide +kernel
theorem dX6_tightest_133 : decode cX6_tightest 133 = .ok (.if_icmp .eq 7, 3) := by decide +kernel
theorem dX6_tightest_136 : decode cX6_tightest 136 = .ok (.iload_n 2, 1) := by decide +kernel
theorem dX6_tightest_137 : decode cX6_tightest 137 = .ok (.ifCond .ne 7, 3) := by decide +kernel
theorem dX6_tightest_140 : decode cX6_tightest 140 = .ok (.iload_n 3, 1) := by decide +kernel
theorem dX6_tightest_141 : decode cX6_tightest 141 = .ok (.goto 23, 3) := by decide +kernel
theorem dX6_tightest_144 : decode cX6_tightest 144 = .ok (.iload_n 2, 1) := by decide +kernel
theorem dX6_tightest_145 : decode cX6_tightest 145 = .ok (.iconst 1, 1) := by decide +kernel
theorem dX6_tightest_146 : decode cX6_tightest 146 = .ok (.if_icmp .ne 12, 3) := by decide +kernel
theorem dX6_tightest_149 : decode cX6_tightest 149 = .ok (.iload_n 3, 1) := by decide +kernel
theorem dX6_tightest_150 : decode cX6_tightest 150 = .ok (.iload 4, 2) := by decide +kernel
theorem dX6_tightest_152 : decode cX6_tightest 152 = .ok (.iadd, 1) := by decide +kernel
theorem dX6_tightest_153 : decode cX6_tightest 153 = .ok (.iconst 1, 1) := by decide +kernel
theorem dX6_tightest_154 : decode cX6_tightest 154 = .ok (.isub, 1) := by decide +kernel
theorem dX6_tightest_155 : decode cX6_tightest 155 = .ok (.goto 9, 3) := by decide +kernel
theorem dX6_tightest_158 : decode cX6_tightest 158 = .ok (.aload_n 0, 1) := by decide +kernel
theorem dX6_tightest_159 : decode cX6_tightest 159 = .ok (.getfield 13, 3) := by decide +kernel
theorem dX6_tightest_162 : decode cX6_tightest 162 = .ok (.iload_n 3, 1) := by decide +kernel
theorem dX6_tightest_163 : decode cX6_tightest 163 = .ok (.iaload, 1) := by decide +kernel
theorem dX6_tightest_164 : decode cX6_tightest 164 = .ok (.ireturn, 1) := by decide +kernel
set_option maxRecDepth 20000 in
theorem ggX6_needed_X6_isSpan : GoodIn wsX6_needed wsX6_isSpan := goodIn_r _ [7, 8, 25, 26, 27, 28, 29, 30, 31, 32, 33, 34, 35, 36, 37, 38, 39, 40, 41, 42, 43, 44, 45, 46, 47, 48, 49, 50, 51, 52, 53, 54, 55, 56, 57, 58, 59, 60, 61, 62, 63, 64, 65, 66] rfl (by decide +kernel)
set_option maxRecDepth 20000 in
theorem gX6_needed_X6_isSpan : GoodIn wsX6_needed (wsV RX6 232 RX6 yX6_isSpan wsX6_isSpan) := goodIn_app (goodIn_r _ [3, 4, 5, 6] rfl (by decide +kernel)) ggX6_needed_X6_isSpan
set_option maxRecDepth 20000 in
theorem ggX6_needed_X6_isValue : GoodIn wsX6_needed wsX6_isValue := goodIn_r _ [11] rfl (by decide +kernel)
set_option maxRecDepth 20000 in
theorem gX6_needed_X6_isValue : GoodIn wsX6_needed (va_wsS RX6 220 yX6_isValue wsX6_isValue) := goodIn_app (goodIn_r _ [9, 10, 6] rfl (by decide +kernel)) ggX6_needed_X6_isValue
set_option maxRecDepth 20000 in
theorem ggX6_needed_X6_counts : GoodIn wsX6_needed wsX6_counts := goodIn_r _ [15, 2, 16, 17, 18, 19, 20, 25, 26, 27, 28, 29, 30, 31, 32, 33, 34, 35, 36, 37, 38, 39, 40, 41, 42, 43, 44, 45, 46, 47, 48, 49, 50, 51, 52, 53, 54, 55, 56, 57, 58, 59, 60, 61, 62, 63, 64, 65, 66] rfl (by decide +kernel)
set_option maxRecDepth 20000 in
theorem gX6_needed_X6_counts : GoodIn wsX6_needed (wsV RX6 252 RX6 yX6_counts wsX6_counts) := goodIn_app (goodIn_r _ [12, 13, 14, 6] rfl (by decide +kernel)) ggX6_needed_X6_counts
set_option maxRecDepth 20000 in
theorem ggX6_needed_X6_over : GoodIn wsX6_needed wsX6_over := goodIn_r _ [24, 16, 19, 2, 25, 26, 27, 28, 29, 30, 31, 32, 33, 34, 35, 36, 37, 38, 39, 40, 41, 42, 43, 44, 45, 46, 47, 48, 49, 50, 51, 52, 53, 54, 55, 56, 57, 58, 59, 60, 61, 62, 63, 64, 65, 66] rfl (by decide +kernel)
set_option maxRecDepth 20000 in
theorem gX6_needed_X6_over : GoodIn wsX6_needed (wsV RX6 287 RX6 yX6_over wsX6_over) := goodIn_app (goodIn_r _ [21, 22, 23, 6] rfl (by decide +kernel)) ggX6_needed_X6_over
theorem dX6_needed_0 : decode cX6_needed 0 = .ok (.aload_n 0, 1) := by decide +kernel
theorem dX6_needed_1 : decode cX6_needed 1 = .ok (.iconst 0, 1) := by decide +kernel
theorem dX6_needed_2 : decode cX6_needed 2 = .ok (.putfield 72, 3) := by decide +kernel
theorem dX6_needed_5 : decode cX6_needed 5 = .ok (.aload_n 0, 1) := by decide +kernel
theorem dX6_needed_6 : decode cX6_needed 6 = .ok (.iload_n 1, 1) := by decide +kernel
theorem dX6_needed_7 : decode cX6_needed 7 = .ok (.iload_n 2, 1) := by decide +kernel
theorem dX6_needed_8 : decode cX6_needed 8 = .ok (.invokevirtual 232, 3) := by decide +kernel
theorem dX6_needed_11 : decode cX6_needed 11 = .ok (.ifCond .eq 10, 3) := by decide +kernel
theorem dX6_needed_14 : decode cX6_needed 14 = .ok (.iload_n 3, 1) := by decide +kernel
theorem dX6_needed_15 : decode cX6_needed 15 = .ok (.invokestatic 220, 3) := by decide +kernel
theorem dX6_needed_18 : decode cX6_needed 18 = .ok (.ifCond .ne 5, 3) := by decide +kernel
theorem dX6_needed_21 : decode cX6_needed 21 = .ok (.iconst (-1), 1) := by decide +kernel
theorem dX6_needed_22 : decode cX6_needed 22 = .ok (.ireturn, 1) := by decide +kernel
theorem dX6_needed_23 : decode cX6_needed 23 = .ok (.aload_n 0, 1) := by decide +kernel
theorem dX6_needed_24 : decode cX6_needed 24 = .ok (.iload_n 1, 1) := by decide +kernel
theorem dX6_needed_25 : decode cX6_needed 25 = .ok (.iload_n 2, 1) := by decide +kernel
theorem dX6_needed_26 : decode cX6_needed 26 = .ok (.iconst (-1), 1) := by decide +kernel
theorem dX6_needed_27 : decode cX6_needed 27 = .ok (.invokevirtual 252, 3) := by decide +kernel
theorem dX6_needed_30 : decode cX6_needed 30 = .ok (.iconst 0, 1) := by decide +kernel
theorem dX6_needed_31 : decode cX6_needed 31 = .ok (.istore 4, 2) := by decide +kernel
theorem dX6_needed_33 : decode cX6_needed 33 = .ok (.aload_n 0, 1) := by decide +kernel
theorem dX6_needed_34 : decode cX6_needed 34 = .ok (.aload_n 0, 1) := by decide +kernel
theorem dX6_needed_35 : decode cX6_needed 35 = .ok (.getfield 47, 3) := by decide +kernel
theorem dX6_needed_38 : decode cX6_needed 38 = .ok (.iload_n 3, 1) := by decide +kernel
theorem dX6_needed_39 : decode cX6_needed 39 = .ok (.iaload, 1) := by decide +kernel
theorem dX6_needed_40 : decode cX6_needed 40 = .ok (.iload 4, 2) := by decide +kernel
theorem dX6_needed_42 : decode cX6_needed 42 = .ok (.iadd, 1) := by decide +kernel
theorem dX6_needed_43 : decode cX6_needed 43 = .ok (.iconst 1, 1) := by decide +kernel
theorem dX6_needed_44 : decode cX6_needed 44 = .ok (.isub, 1) := by decide +kernel
theorem dX6_needed_45 : decode cX6_needed 45 = .ok (.iload_n 3, 1) := by decide +kernel
theorem dX6_needed_46 : decode cX6_needed 46 = .ok (.invokevirtual 287, 3) := by decide +kernel
theorem dX6_needed_49 : decode cX6_needed 49 = .ok (.iload 4, 2) := by decide +kernel
theorem dX6_needed_51 : decode cX6_needed 51 = .ok (.if_icmp .le 9, 3) := by decide +kernel
theorem dX6_needed_54 : decode cX6_needed 54 = .ok (.iinc 4 1, 3) := by decide +kernel
theorem dX6_needed_57 : decode cX6_needed 57 = .ok (.goto (-24), 3) := by decide +kernel
theorem dX6_needed_60 : decode cX6_needed 60 = .ok (.iload 4, 2) := by decide +kernel
theorem dX6_needed_62 : decode cX6_needed 62 = .ok (.ireturn, 1) := by decide +kernel
theorem dX6_over_0 : decode cX6_over 0 = .ok (.iconst 0, 1) := by decide +kernel
theorem dX6_over_1 : decode cX6_over 1 = .ok (.istore_n 3, 1) := by decide +kernel
theorem dX6_over_2 : decode cX6_over 2 = .ok (.iconst 0, 1) := by decide +kernel
theorem dX6_over_3 : decode cX6_over 3 = .ok (.istore 4, 2) := by decide +kernel
theorem dX6_over_5 : decode cX6_over 5 = .ok (.iload 4, 2) := by decide +kernel
theorem dX6_over_7 : decode cX6_over 7 = .ok (.aload_n 0, 1) := by decide +kernel
theorem dX6_over_8 : decode cX6_over 8 = .ok (.getfield 242, 3) := by decide +kernel
theorem dX6_over_11 : decode cX6_over 11 = .ok (.if_icmp .ge 51, 3) := by decide +kernel
theorem dX6_over_14 : decode cX6_over 14 = .ok (.aload_n 0, 1) := by decide +kernel
theorem dX6_over_15 : decode cX6_over 15 = .ok (.getfield 56, 3) := by decide +kernel
theorem dX6_over_18 : decode cX6_over 18 = .ok (.iload 4, 2) := by decide +kernel
theorem dX6_over_20 : decode cX6_over 20 = .ok (.iaload, 1) := by decide +kernel
theorem dX6_over_21 : decode cX6_over 21 = .ok (.istore 5, 2) := by decide +kernel
theorem dX6_over_23 : decode cX6_over 23 = .ok (.iload_n 3, 1) := by decide +kernel
theorem dX6_over_24 : decode cX6_over 24 = .ok (.iload 5, 2) := by decide +kernel
theorem dX6_over_26 : decode cX6_over 26 = .ok (.iload_n 2, 1) := by decide +kernel
theorem dX6_over_27 : decode cX6_over 27 = .ok (.if_icmp .eq 26, 3) := by decide +kernel
theorem dX6_over_30 : decode cX6_over 30 = .ok (.aload_n 0, 1) := by decide +kernel
theorem dX6_over_31 : decode cX6_over 31 = .ok (.getfield 47, 3) := by decide +kernel
theorem dX6_over_34 : decode cX6_over 34 = .ok (.iload 5, 2) := by decide +kernel
theorem dX6_over_36 : decode cX6_over 36 = .ok (.iaload, 1) := by decide +kernel
theorem dX6_over_37 : decode cX6_over 37 = .ok (.iload_n 1, 1) := by decide +kernel
theorem dX6_over_38 : decode cX6_over 38 = .ok (.if_icmp .le 15, 3) := by decide +kernel
theorem dX6_over_41 : decode cX6_over 41 = .ok (.aload_n 0, 1) := by decide +kernel
theorem dX6_over_42 : decode cX6_over 42 = .ok (.getfield 47, 3) := by decide +kernel
theorem dX6_over_45 : decode cX6_over 45 = .ok (.iload 5, 2) := by decide +kernel
theorem dX6_over_47 : decode cX6_over 47 = .ok (.iaload, 1) := by decide +kernel
theorem dX6_over_48 : decode cX6_over 48 = .ok (.iload_n 1, 1) := by decide +kernel
theorem dX6_over_49 : decode cX6_over 49 = .ok (.isub, 1) := by decide +kernel
theorem dX6_over_50 : decode cX6_over 50 = .ok (.goto 4, 3) := by decide +kernel
theorem dX6_over_53 : decode cX6_over 53 = .ok (.iconst 0, 1) := by decide +kernel
theorem dX6_over_54 : decode cX6_over 54 = .ok (.iadd, 1) := by decide +kernel
theorem dX6_over_55 : decode cX6_over 55 = .ok (.istore_n 3, 1) := by decide +kernel
theorem dX6_over_56 : decode cX6_over 56 = .ok (.iinc 4 1, 3) := by decide +kernel
theorem dX6_over_59 : decode cX6_over 59 = .ok (.goto (-54), 3) := by decide +kernel
theorem dX6_over_62 : decode cX6_over 62 = .ok (.iload_n 3, 1) := by decide +kernel
theorem dX6_over_63 : decode cX6_over 63 = .ok (.ireturn, 1) := by decide +kernel
set_option maxRecDepth 20000 in
theorem ggX6_lead_X6_isSpan : GoodIn wsX6_lead wsX6_isSpan := goodIn_r _ [8, 9, 31, 32, 33, 34, 35, 36, 37, 38, 39, 40, 41, 42, 43, 44, 45, 46, 47, 48, 49, 50, 51, 52, 53, 54, 55, 56, 57, 58, 59, 60, 61, 62, 63, 64, 65, 66, 67, 68, 69, 70, 71, 72] rfl (by decide +kernel)
set_option maxRecDepth 20000 in
theorem gX6_lead_X6_isSpan : GoodIn wsX6_lead (wsV RX6 232 RX6 yX6_isSpan wsX6_isSpan) := goodIn_app (goodIn_r _ [4, 5, 6, 7] rfl (by decide +kernel)) ggX6_lead_X6_isSpan
set_option maxRecDepth 20000 in
theorem ggX6_lead_X6_counts : GoodIn wsX6_lead wsX6_counts := goodIn_r _ [13, 3, 14, 15, 16, 17, 18, 31, 32, 33, 34, 35, 36, 37, 38, 39, 40, 41, 42, 43, 44, 45, 46, 47, 48, 49, 50, 51, 52, 53, 54, 55, 56, 57, 58, 59, 60, 61, 62, 63, 64, 65, 66, 67, 68, 69, 70, 71, 72] rfl (by decide +kernel)
set_option maxRecDepth 20000 in
theorem gX6_lead_X6_counts : GoodIn wsX6_lead (wsV RX6 252 RX6 yX6_counts wsX6_counts) := goodIn_app (goodIn_r _ [10, 11, 12, 7] rfl (by decide +kernel)) ggX6_lead_X6_counts
set_option maxRecDepth 20000 in
theorem ggX6_lead_X6_ofRank : GoodIn wsX6_lead wsX6_ofRank := goodIn_r _ [22, 14, 17, 23, 24, 25, 7, 26, 27, 28, 29, 30, 3, 16, 18, 31, 32, 33, 34, 35, 36, 37, 38, 39, 40, 41, 42, 43, 44, 45, 46, 47, 48, 49, 50, 51, 52, 53, 54, 55, 56, 57, 58, 59, 60, 61, 62, 63, 64, 65, 66, 67, 68, 69, 70, 71, 72] rfl (by decide +kernel)
set_option maxRecDepth 20000 in
theorem gX6_lead_X6_ofRank : GoodIn wsX6_lead (wsV RX6 266 RX6 yX6_ofRank wsX6_ofRank) := goodIn_app (goodIn_r _ [19, 20, 21, 7] rfl (by decide +kernel)) ggX6_lead_X6_ofRank
theorem dX6_lead_0 : decode cX6_lead 0 = .ok (.aload_n 0, 1) := by decide +kernel
theorem dX6_lead_1 : decode cX6_lead 1 = .ok (.iconst 0, 1) := by decide +kernel
theorem dX6_lead_2 : decode cX6_lead 2 = .ok (.putfield 72, 3) := by decide +kernel
theorem dX6_lead_5 : decode cX6_lead 5 = .ok (.aload_n 0, 1) := by decide +kernel
theorem dX6_lead_6 : decode cX6_lead 6 = .ok (.iload_n 1, 1) := by decide +kernel
theorem dX6_lead_7 : decode cX6_lead 7 = .ok (.iload_n 2, 1) := by decide +kernel
theorem dX6_lead_8 : decode cX6_lead 8 = .ok (.invokevirtual 232, 3) := by decide +kernel
theorem dX6_lead_11 : decode cX6_lead 11 = .ok (.ifCond .ne 5, 3) := by decide +kernel
theorem dX6_lead_14 : decode cX6_lead 14 = .ok (.iconst (-1), 1) := by decide +kernel
theorem dX6_lead_15 : decode cX6_lead 15 = .ok (.ireturn, 1) := by decide +kernel
theorem dX6_lead_16 : decode cX6_lead 16 = .ok (.aload_n 0, 1) := by decide +kernel
theorem dX6_lead_17 : decode cX6_lead 17 = .ok (.iload_n 1, 1) := by decide +kernel
theorem dX6_lead_18 : decode cX6_lead 18 = .ok (.iload_n 2, 1) := by decide +kernel
theorem dX6_lead_19 : decode cX6_lead 19 = .ok (.iconst (-1), 1) := by decide +kernel
theorem dX6_lead_20 : decode cX6_lead 20 = .ok (.invokevirtual 252, 3) := by decide +kernel
theorem dX6_lead_23 : decode cX6_lead 23 = .ok (.aload_n 0, 1) := by decide +kernel
theorem dX6_lead_24 : decode cX6_lead 24 = .ok (.iconst 1, 1) := by decide +kernel
theorem dX6_lead_25 : decode cX6_lead 25 = .ok (.aload_n 0, 1) := by decide +kernel
theorem dX6_lead_26 : decode cX6_lead 26 = .ok (.getfield 178, 3) := by decide +kernel
theorem dX6_lead_29 : decode cX6_lead 29 = .ok (.invokevirtual 266, 3) := by decide +kernel
theorem dX6_lead_32 : decode cX6_lead 32 = .ok (.istore_n 3, 1) := by decide +kernel
theorem dX6_lead_33 : decode cX6_lead 33 = .ok (.aload_n 0, 1) := by decide +kernel
theorem dX6_lead_34 : decode cX6_lead 34 = .ok (.getfield 47, 3) := by decide +kernel
theorem dX6_lead_37 : decode cX6_lead 37 = .ok (.aload_n 0, 1) := by decide +kernel
theorem dX6_lead_38 : decode cX6_lead 38 = .ok (.iconst 0, 1) := by decide +kernel
theorem dX6_lead_39 : decode cX6_lead 39 = .ok (.aload_n 0, 1) := by decide +kernel
theorem dX6_lead_40 : decode cX6_lead 40 = .ok (.getfield 178, 3) := by decide +kernel
theorem dX6_lead_43 : decode cX6_lead 43 = .ok (.invokevirtual 266, 3) := by decide +kernel
theorem dX6_lead_46 : decode cX6_lead 46 = .ok (.iaload, 1) := by decide +kernel
theorem dX6_lead_47 : decode cX6_lead 47 = .ok (.iload_n 3, 1) := by decide +kernel
theorem dX6_lead_48 : decode cX6_lead 48 = .ok (.iconst (-1), 1) := by decide +kernel
theorem dX6_lead_49 : decode cX6_lead 49 = .ok (.if_icmp .ne 7, 3) := by decide +kernel
theorem dX6_lead_52 : decode cX6_lead 52 = .ok (.iconst 0, 1) := by decide +kernel
theorem dX6_lead_53 : decode cX6_lead 53 = .ok (.goto 9, 3) := by decide +kernel
theorem dX6_lead_56 : decode cX6_lead 56 = .ok (.aload_n 0, 1) := by decide +kernel
theorem dX6_lead_57 : decode cX6_lead 57 = .ok (.getfield 47, 3) := by decide +kernel
theorem dX6_lead_60 : decode cX6_lead 60 = .ok (.iload_n 3, 1) := by decide +kernel
theorem dX6_lead_61 : decode cX6_lead 61 = .ok (.iaload, 1) := by decide +kernel
theorem dX6_lead_62 : decode cX6_lead 62 = .ok (.isub, 1) := by decide +kernel
theorem dX6_lead_63 : decode cX6_lead 63 = .ok (.ireturn, 1) := by decide +kernel
set_option maxRecDepth 20000 in
theorem ggX6_rarest_X6_isSpan : GoodIn wsX6_rarest wsX6_isSpan := goodIn_r _ [8, 9, 35, 36, 37, 38, 39, 40, 41, 42, 43, 44, 45, 46, 47, 48, 49, 50, 51, 52, 53, 54, 55, 56, 57, 58, 59, 60, 61, 62, 63, 64, 65, 66, 67, 68, 69, 70, 71, 72, 73, 74, 75, 76] rfl (by decide +kernel)
set_option maxRecDepth 20000 in
theorem gX6_rarest_X6_isSpan : GoodIn wsX6_rarest (wsV RX6 232 RX6 yX6_isSpan wsX6_isSpan) := goodIn_app (goodIn_r _ [4, 5, 6, 7] rfl (by decide +kernel)) ggX6_rarest_X6_isSpan
set_option maxRecDepth 20000 in
theorem ggX6_rarest_X6_counts : GoodIn wsX6_rarest wsX6_counts := goodIn_r _ [13, 14, 2, 15, 16, 17, 18, 35, 36, 37, 38, 39, 40, 41, 42, 43, 44, 45, 46, 47, 48, 49, 50, 51, 52, 53, 54, 55, 56, 57, 58, 59, 60, 61, 62, 63, 64, 65, 66, 67, 68, 69, 70, 71, 72, 73, 74, 75, 76] rfl (by decide +kernel)
set_option maxRecDepth 20000 in
theorem gX6_rarest_X6_counts : GoodIn wsX6_rarest (wsV RX6 252 RX6 yX6_counts wsX6_counts) := goodIn_app (goodIn_r _ [10, 11, 12, 7] rfl (by decide +kernel)) ggX6_rarest_X6_counts
set_option maxRecDepth 20000 in
theorem ggX6_rarest_X6_ofRank : GoodIn wsX6_rarest wsX6_ofRank := goodIn_r _ [22, 2, 17, 23, 24, 25, 7, 26, 27, 28, 29, 30, 14, 16, 18, 35, 36, 37, 38, 39, 40, 41, 42, 43, 44, 45, 46, 47, 48, 49, 50, 51, 52, 53, 54, 55, 56, 57, 58, 59, 60, 61, 62, 63, 64, 65, 66, 67, 68, 69, 70, 71, 72, 73, 74, 75, 76] rfl (by decide +kernel)
set_option maxRecDepth 20000 in
theorem gX6_rarest_X6_ofRank : GoodIn wsX6_rarest (wsV RX6 266 RX6 yX6_ofRank wsX6_ofRank) := goodIn_app (goodIn_r _ [19, 20, 21, 7] rfl (by decide +kernel)) ggX6_rarest_X6_ofRank
set_option maxRecDepth 20000 in
theorem ggX6_rarest_X6_told : GoodIn wsX6_rarest wsX6_told := goodIn_r _ [34, 14, 16, 18, 35, 36, 37, 38, 39, 40, 41, 42, 43, 44, 45, 46, 47, 48, 49, 50, 51, 52, 53, 54, 55, 56, 57, 58, 59, 60, 61, 62, 63, 64, 65, 66, 67, 68, 69, 70, 71, 72, 73, 74, 75, 76] rfl (by decide +kernel)
set_option maxRecDepth 20000 in
theorem gX6_rarest_X6_told : GoodIn wsX6_rarest (wsV RX6 263 RX6 yX6_told wsX6_told) := goodIn_app (goodIn_r _ [31, 32, 33, 7] rfl (by decide +kernel)) ggX6_rarest_X6_told
theorem dX6_rarest_0 : decode cX6_rarest 0 = .ok (.aload_n 0, 1) := by decide +kernel
theorem dX6_rarest_1 : decode cX6_rarest 1 = .ok (.iconst 0, 1) := by decide +kernel
theorem dX6_rarest_2 : decode cX6_rarest 2 = .ok (.putfield 72, 3) := by decide +kernel
theorem dX6_rarest_5 : decode cX6_rarest 5 = .ok (.aload_n 0, 1) := by decide +kernel
theorem dX6_rarest_6 : decode cX6_rarest 6 = .ok (.iload_n 1, 1) := by decide +kernel
theorem dX6_rarest_7 : decode cX6_rarest 7 = .ok (.iload_n 2, 1) := by decide +kernel
theorem dX6_rarest_8 : decode cX6_rarest 8 = .ok (.invokevirtual 232, 3) := by decide +kernel
theorem dX6_rarest_11 : decode cX6_rarest 11 = .ok (.ifCond .eq 12, 3) := by decide +kernel
theorem dX6_rarest_14 : decode cX6_rarest 14 = .ok (.iload_n 3, 1) := by decide +kernel
theorem dX6_rarest_15 : decode cX6_rarest 15 = .ok (.ifCond .lt 8, 3) := by decide +kernel
theorem dX6_rarest_18 : decode cX6_rarest 18 = .ok (.iload_n 3, 1) := by decide +kernel
theorem dX6_rarest_19 : decode cX6_rarest 19 = .ok (.iconst 3, 1) := by decide +kernel
theorem dX6_rarest_20 : decode cX6_rarest 20 = .ok (.if_icmp .le 5, 3) := by decide +kernel
theorem dX6_rarest_23 : decode cX6_rarest 23 = .ok (.iconst (-1), 1) := by decide +kernel
theorem dX6_rarest_24 : decode cX6_rarest 24 = .ok (.ireturn, 1) := by decide +kernel
theorem dX6_rarest_25 : decode cX6_rarest 25 = .ok (.aload_n 0, 1) := by decide +kernel
theorem dX6_rarest_26 : decode cX6_rarest 26 = .ok (.iload_n 1, 1) := by decide +kernel
theorem dX6_rarest_27 : decode cX6_rarest 27 = .ok (.iload_n 2, 1) := by decide +kernel
theorem dX6_rarest_28 : decode cX6_rarest 28 = .ok (.iconst (-1), 1) := by decide +kernel
theorem dX6_rarest_29 : decode cX6_rarest 29 = .ok (.invokevirtual 252, 3) := by decide +kernel
theorem dX6_rarest_32 : decode cX6_rarest 32 = .ok (.aload_n 0, 1) := by decide +kernel
theorem dX6_rarest_33 : decode cX6_rarest 33 = .ok (.aload_n 0, 1) := by decide +kernel
theorem dX6_rarest_34 : decode cX6_rarest 34 = .ok (.aload_n 0, 1) := by decide +kernel
theorem dX6_rarest_35 : decode cX6_rarest 35 = .ok (.getfield 242, 3) := by decide +kernel
theorem dX6_rarest_38 : decode cX6_rarest 38 = .ok (.iconst 1, 1) := by decide +kernel
theorem dX6_rarest_39 : decode cX6_rarest 39 = .ok (.isub, 1) := by decide +kernel
theorem dX6_rarest_40 : decode cX6_rarest 40 = .ok (.aload_n 0, 1) := by decide +kernel
theorem dX6_rarest_41 : decode cX6_rarest 41 = .ok (.getfield 178, 3) := by decide +kernel
theorem dX6_rarest_44 : decode cX6_rarest 44 = .ok (.invokevirtual 266, 3) := by decide +kernel
theorem dX6_rarest_47 : decode cX6_rarest 47 = .ok (.iload_n 3, 1) := by decide +kernel
theorem dX6_rarest_48 : decode cX6_rarest 48 = .ok (.invokevirtual 263, 3) := by decide +kernel
theorem dX6_rarest_51 : decode cX6_rarest 51 = .ok (.ireturn, 1) := by decide +kernel
set_option maxRecDepth 20000 in
theorem ggX6_follow_X6_isValue : GoodIn wsX6_follow wsX6_isValue := goodIn_r _ [6] rfl (by decide +kernel)
set_option maxRecDepth 20000 in
theorem gX6_follow_X6_isValue : GoodIn wsX6_follow (va_wsS RX6 220 yX6_isValue wsX6_isValue) := goodIn_app (goodIn_r _ [3, 4, 5] rfl (by decide +kernel)) ggX6_follow_X6_isValue
set_option maxRecDepth 20000 in
theorem ggX6_follow_X6_isPlace : GoodIn wsX6_follow wsX6_isPlace := goodIn_r _ [10, 11, 12, 13, 14, 15, 16, 17, 18, 19, 20, 21, 22, 23, 24, 25, 26, 27, 28, 29, 30, 31, 32, 33, 34, 35, 36, 37, 38, 39, 40, 41, 42, 43, 44, 45, 46, 47, 48, 49, 50, 51, 52, 53] rfl (by decide +kernel)
set_option maxRecDepth 20000 in
theorem gX6_follow_X6_isPlace : GoodIn wsX6_follow (wsV RX6 187 RX6 yX6_isPlace wsX6_isPlace) := goodIn_app (goodIn_r _ [7, 8, 9, 5] rfl (by decide +kernel)) ggX6_follow_X6_isPlace
theorem dX6_follow_0 : decode cX6_follow 0 = .ok (.aload_n 0, 1) := by decide +kernel
theorem dX6_follow_1 : decode cX6_follow 1 = .ok (.iconst 0, 1) := by decide +kernel
theorem dX6_follow_2 : decode cX6_follow 2 = .ok (.putfield 72, 3) := by decide +kernel
theorem dX6_follow_5 : decode cX6_follow 5 = .ok (.iload_n 1, 1) := by decide +kernel
theorem dX6_follow_6 : decode cX6_follow 6 = .ok (.invokestatic 220, 3) := by decide +kernel
theorem dX6_follow_9 : decode cX6_follow 9 = .ok (.ifCond .eq 11, 3) := by decide +kernel
theorem dX6_follow_12 : decode cX6_follow 12 = .ok (.aload_n 0, 1) := by decide +kernel
theorem dX6_follow_13 : decode cX6_follow 13 = .ok (.iload_n 2, 1) := by decide +kernel
theorem dX6_follow_14 : decode cX6_follow 14 = .ok (.invokevirtual 187, 3) := by decide +kernel
theorem dX6_follow_17 : decode cX6_follow 17 = .ok (.ifCond .ne 5, 3) := by decide +kernel
theorem dX6_follow_20 : decode cX6_follow 20 = .ok (.iconst (-1), 1) := by decide +kernel
theorem dX6_follow_21 : decode cX6_follow 21 = .ok (.ireturn, 1) := by decide +kernel
theorem dX6_follow_22 : decode cX6_follow 22 = .ok (.iload_n 2, 1) := by decide +kernel
theorem dX6_follow_23 : decode cX6_follow 23 = .ok (.istore 4, 2) := by decide +kernel
theorem dX6_follow_25 : decode cX6_follow 25 = .ok (.aload_n 0, 1) := by decide +kernel
theorem dX6_follow_26 : decode cX6_follow 26 = .ok (.iload 4, 2) := by decide +kernel
theorem dX6_follow_28 : decode cX6_follow 28 = .ok (.invokevirtual 187, 3) := by decide +kernel
theorem dX6_follow_31 : decode cX6_follow 31 = .ok (.ifCond .eq 31, 3) := by decide +kernel
theorem dX6_follow_34 : decode cX6_follow 34 = .ok (.aload_n 0, 1) := by decide +kernel
theorem dX6_follow_35 : decode cX6_follow 35 = .ok (.getfield 13, 3) := by decide +kernel
theorem dX6_follow_38 : decode cX6_follow 38 = .ok (.iload 4, 2) := by decide +kernel
theorem dX6_follow_40 : decode cX6_follow 40 = .ok (.iaload, 1) := by decide +kernel
theorem dX6_follow_41 : decode cX6_follow 41 = .ok (.iload_n 1, 1) := by decide +kernel
theorem dX6_follow_42 : decode cX6_follow 42 = .ok (.if_icmp .eq 20, 3) := by decide +kernel
theorem dX6_follow_45 : decode cX6_follow 45 = .ok (.iload 4, 2) := by decide +kernel
theorem dX6_follow_47 : decode cX6_follow 47 = .ok (.iload_n 3, 1) := by decide +kernel
theorem dX6_follow_48 : decode cX6_follow 48 = .ok (.ifCond .eq 7, 3) := by decide +kernel
theorem dX6_follow_51 : decode cX6_follow 51 = .ok (.iconst (-1), 1) := by decide +kernel
theorem dX6_follow_52 : decode cX6_follow 52 = .ok (.goto 4, 3) := by decide +kernel
theorem dX6_follow_55 : decode cX6_follow 55 = .ok (.iconst 1, 1) := by decide +kernel
theorem dX6_follow_56 : decode cX6_follow 56 = .ok (.iadd, 1) := by decide +kernel
theorem dX6_follow_57 : decode cX6_follow 57 = .ok (.istore 4, 2) := by decide +kernel
theorem dX6_follow_59 : decode cX6_follow 59 = .ok (.goto (-34), 3) := by decide +kernel
theorem dX6_follow_62 : decode cX6_follow 62 = .ok (.aload_n 0, 1) := by decide +kernel
theorem dX6_follow_63 : decode cX6_follow 63 = .ok (.iload 4, 2) := by decide +kernel
theorem dX6_follow_65 : decode cX6_follow 65 = .ok (.invokevirtual 187, 3) := by decide +kernel
theorem dX6_follow_68 : decode cX6_follow 68 = .ok (.ifCond .eq 8, 3) := by decide +kernel
theorem dX6_follow_71 : decode cX6_follow 71 = .ok (.iload 4, 2) := by decide +kernel
theorem dX6_follow_73 : decode cX6_follow 73 = .ok (.goto 5, 3) := by decide +kernel
theorem dX6_follow_76 : decode cX6_follow 76 = .ok (.bipush (-2), 2) := by decide +kernel
theorem dX6_follow_78 : decode cX6_follow 78 = .ok (.ireturn, 1) := by decide +kernel
set_option maxRecDepth 20000 in
theorem ggX6_split_X6_isSpan : GoodIn wsX6_split wsX6_isSpan := goodIn_r _ [7, 8, 31, 32, 33, 34, 35, 36, 37, 38, 39, 40, 41, 42, 43, 44, 45, 46, 47, 48, 49, 50, 51, 52, 53, 54, 55, 56, 57, 58, 59, 60, 61, 62, 63, 64, 65, 66, 67, 68, 69, 70, 71, 72] rfl (by decide +kernel)
set_option maxRecDepth 20000 in
theorem gX6_split_X6_isSpan : GoodIn wsX6_split (wsV RX6 232 RX6 yX6_isSpan wsX6_isSpan) := goodIn_app (goodIn_r _ [3, 4, 5, 6] rfl (by decide +kernel)) ggX6_split_X6_isSpan
set_option maxRecDepth 20000 in
theorem ggX6_split_X6_modeOf : GoodIn wsX6_split wsX6_modeOf := goodIn_r _ [12, 13, 14, 15, 16, 6, 17, 2, 18, 19, 20, 21, 22, 23, 24, 25, 26, 27, 28, 29, 30, 31, 32, 33, 34, 35, 36, 37, 38, 39, 40, 41, 42, 43, 44, 45, 46, 47, 48, 49, 50, 51, 52, 53, 54, 55, 56, 57, 58, 59, 60, 61, 62, 63, 64, 65, 66, 67, 68, 69, 70, 71, 72] rfl (by decide +kernel)
set_option maxRecDepth 20000 in
theorem gX6_split_X6_modeOf : GoodIn wsX6_split (wsV RX6 260 RX6 yX6_modeOf wsX6_modeOf) := goodIn_app (goodIn_r _ [9, 10, 11, 6] rfl (by decide +kernel)) ggX6_split_X6_modeOf
theorem dX6_split_0 : decode cX6_split 0 = .ok (.aload_n 0, 1) := by decide +kernel
theorem dX6_split_1 : decode cX6_split 1 = .ok (.iconst 0, 1) := by decide +kernel
theorem dX6_split_2 : decode cX6_split 2 = .ok (.putfield 72, 3) := by decide +kernel
theorem dX6_split_5 : decode cX6_split 5 = .ok (.aload_n 0, 1) := by decide +kernel
theorem dX6_split_6 : decode cX6_split 6 = .ok (.iload_n 1, 1) := by decide +kernel
theorem dX6_split_7 : decode cX6_split 7 = .ok (.iload_n 2, 1) := by decide +kernel
theorem dX6_split_8 : decode cX6_split 8 = .ok (.invokevirtual 232, 3) := by decide +kernel
theorem dX6_split_11 : decode cX6_split 11 = .ok (.ifCond .eq 17, 3) := by decide +kernel
theorem dX6_split_14 : decode cX6_split 14 = .ok (.iload_n 1, 1) := by decide +kernel
theorem dX6_split_15 : decode cX6_split 15 = .ok (.iload_n 2, 1) := by decide +kernel
theorem dX6_split_16 : decode cX6_split 16 = .ok (.if_icmp .eq 12, 3) := by decide +kernel
theorem dX6_split_19 : decode cX6_split 19 = .ok (.iload_n 3, 1) := by decide +kernel
theorem dX6_split_20 : decode cX6_split 20 = .ok (.ifCond .lt 8, 3) := by decide +kernel
theorem dX6_split_23 : decode cX6_split 23 = .ok (.iload_n 3, 1) := by decide +kernel
theorem dX6_split_24 : decode cX6_split 24 = .ok (.iconst 1, 1) := by decide +kernel
theorem dX6_split_25 : decode cX6_split 25 = .ok (.if_icmp .le 5, 3) := by decide +kernel
theorem dX6_split_28 : decode cX6_split 28 = .ok (.iconst (-1), 1) := by decide +kernel
theorem dX6_split_29 : decode cX6_split 29 = .ok (.ireturn, 1) := by decide +kernel
theorem dX6_split_30 : decode cX6_split 30 = .ok (.iload_n 1, 1) := by decide +kernel
theorem dX6_split_31 : decode cX6_split 31 = .ok (.istore 4, 2) := by decide +kernel
theorem dX6_split_33 : decode cX6_split 33 = .ok (.iconst (-1), 1) := by decide +kernel
theorem dX6_split_34 : decode cX6_split 34 = .ok (.istore 5, 2) := by decide +kernel
theorem dX6_split_36 : decode cX6_split 36 = .ok (.iload_n 1, 1) := by decide +kernel
theorem dX6_split_37 : decode cX6_split 37 = .ok (.istore 6, 2) := by decide +kernel
theorem dX6_split_39 : decode cX6_split 39 = .ok (.iload 6, 2) := by decide +kernel
theorem dX6_split_41 : decode cX6_split 41 = .ok (.iload_n 2, 1) := by decide +kernel
theorem dX6_split_42 : decode cX6_split 42 = .ok (.if_icmp .ge 60, 3) := by decide +kernel
theorem dX6_split_45 : decode cX6_split 45 = .ok (.aload_n 0, 1) := by decide +kernel
theorem dX6_split_46 : decode cX6_split 46 = .ok (.getfield 47, 3) := by decide +kernel
theorem dX6_split_49 : decode cX6_split 49 = .ok (.aload_n 0, 1) := by decide +kernel
theorem dX6_split_50 : decode cX6_split 50 = .ok (.iload_n 1, 1) := by decide +kernel
theorem dX6_split_51 : decode cX6_split 51 = .ok (.iload 6, 2) := by decide +kernel
theorem dX6_split_53 : decode cX6_split 53 = .ok (.invokevirtual 260, 3) := by decide +kernel
theorem dX6_split_56 : decode cX6_split 56 = .ok (.iaload, 1) := by decide +kernel
theorem dX6_split_57 : decode cX6_split 57 = .ok (.istore 7, 2) := by decide +kernel
theorem dX6_split_59 : decode cX6_split 59 = .ok (.iload 7, 2) := by decide +kernel
theorem dX6_split_61 : decode cX6_split 61 = .ok (.aload_n 0, 1) := by decide +kernel
theorem dX6_split_62 : decode cX6_split 62 = .ok (.getfield 47, 3) := by decide +kernel
theorem dX6_split_65 : decode cX6_split 65 = .ok (.aload_n 0, 1) := by decide +kernel
theorem dX6_split_66 : decode cX6_split 66 = .ok (.iload 6, 2) := by decide +kernel
theorem dX6_split_68 : decode cX6_split 68 = .ok (.iconst 1, 1) := by decide +kernel
theorem dX6_split_69 : decode cX6_split 69 = .ok (.iadd, 1) := by decide +kernel
theorem dX6_split_70 : decode cX6_split 70 = .ok (.iload_n 2, 1) := by decide +kernel
theorem dX6_split_71 : decode cX6_split 71 = .ok (.invokevirtual 260, 3) := by decide +kernel
theorem dX6_split_74 : decode cX6_split 74 = .ok (.iaload, 1) := by decide +kernel
theorem dX6_split_75 : decode cX6_split 75 = .ok (.iadd, 1) := by decide +kernel
theorem dX6_split_76 : decode cX6_split 76 = .ok (.istore 7, 2) := by decide +kernel
theorem dX6_split_78 : decode cX6_split 78 = .ok (.iload 7, 2) := by decide +kernel
theorem dX6_split_80 : decode cX6_split 80 = .ok (.iload 5, 2) := by decide +kernel
theorem dX6_split_82 : decode cX6_split 82 = .ok (.if_icmp .gt 6, 3) := by decide +kernel
theorem dX6_split_85 : decode cX6_split 85 = .ok (.goto 11, 3) := by decide +kernel
theorem dX6_split_88 : decode cX6_split 88 = .ok (.iload 6, 2) := by decide +kernel
theorem dX6_split_90 : decode cX6_split 90 = .ok (.istore 4, 2) := by decide +kernel
theorem dX6_split_92 : decode cX6_split 92 = .ok (.iload 7, 2) := by decide +kernel
theorem dX6_split_94 : decode cX6_split 94 = .ok (.istore 5, 2) := by decide +kernel
theorem dX6_split_96 : decode cX6_split 96 = .ok (.iinc 6 1, 3) := by decide +kernel
theorem dX6_split_99 : decode cX6_split 99 = .ok (.goto (-60), 3) := by decide +kernel
theorem dX6_split_102 : decode cX6_split 102 = .ok (.iload_n 3, 1) := by decide +kernel
theorem dX6_split_103 : decode cX6_split 103 = .ok (.ifCond .ne 8, 3) := by decide +kernel
theorem dX6_split_106 : decode cX6_split 106 = .ok (.iload 4, 2) := by decide +kernel
theorem dX6_split_108 : decode cX6_split 108 = .ok (.goto 5, 3) := by decide +kernel
theorem dX6_split_111 : decode cX6_split 111 = .ok (.iload 5, 2) := by decide +kernel
theorem dX6_split_113 : decode cX6_split 113 = .ok (.ireturn, 1) := by decide +kernel
theorem dX6_stands_0 : decode cX6_stands 0 = .ok (.aload_n 0, 1) := by decide +kernel
theorem dX6_stands_1 : decode cX6_stands 1 = .ok (.getfield 47, 3) := by decide +kernel
theorem dX6_stands_4 : decode cX6_stands 4 = .ok (.iload_n 1, 1) := by decide +kernel
theorem dX6_stands_5 : decode cX6_stands 5 = .ok (.iaload, 1) := by decide +kernel
theorem dX6_stands_6 : decode cX6_stands 6 = .ok (.ifCond .ne 30, 3) := by decide +kernel
theorem dX6_stands_9 : decode cX6_stands 9 = .ok (.aload_n 0, 1) := by decide +kernel
theorem dX6_stands_10 : decode cX6_stands 10 = .ok (.getfield 50, 3) := by decide +kernel
theorem dX6_stands_13 : decode cX6_stands 13 = .ok (.iload_n 1, 1) := by decide +kernel
theorem dX6_stands_14 : decode cX6_stands 14 = .ok (.iload_n 2, 1) := by decide +kernel
theorem dX6_stands_15 : decode cX6_stands 15 = .ok (.iastore, 1) := by decide +kernel
theorem dX6_stands_16 : decode cX6_stands 16 = .ok (.aload_n 0, 1) := by decide +kernel
theorem dX6_stands_17 : decode cX6_stands 17 = .ok (.getfield 56, 3) := by decide +kernel
theorem dX6_stands_20 : decode cX6_stands 20 = .ok (.aload_n 0, 1) := by decide +kernel
theorem dX6_stands_21 : decode cX6_stands 21 = .ok (.getfield 242, 3) := by decide +kernel
theorem dX6_stands_24 : decode cX6_stands 24 = .ok (.iload_n 1, 1) := by decide +kernel
theorem dX6_stands_25 : decode cX6_stands 25 = .ok (.iastore, 1) := by decide +kernel
theorem dX6_stands_26 : decode cX6_stands 26 = .ok (.aload_n 0, 1) := by decide +kernel
theorem dX6_stands_27 : decode cX6_stands 27 = .ok (.dup, 1) := by decide +kernel
theorem dX6_stands_28 : decode cX6_stands 28 = .ok (.getfield 242, 3) := by decide +kernel
theorem dX6_stands_31 : decode cX6_stands 31 = .ok (.iconst 1, 1) := by decide +kernel
theorem dX6_stands_32 : decode cX6_stands 32 = .ok (.iadd, 1) := by decide +kernel
theorem dX6_stands_33 : decode cX6_stands 33 = .ok (.putfield 242, 3) := by decide +kernel
theorem dX6_stands_36 : decode cX6_stands 36 = .ok (.aload_n 0, 1) := by decide +kernel
theorem dX6_stands_37 : decode cX6_stands 37 = .ok (.getfield 53, 3) := by decide +kernel
theorem dX6_stands_40 : decode cX6_stands 40 = .ok (.iload_n 1, 1) := by decide +kernel
theorem dX6_stands_41 : decode cX6_stands 41 = .ok (.iload_n 2, 1) := by decide +kernel
theorem dX6_stands_42 : decode cX6_stands 42 = .ok (.iastore, 1) := by decide +kernel
theorem dX6_stands_43 : decode cX6_stands 43 = .ok (.aload_n 0, 1) := by decide +kernel
theorem dX6_stands_44 : decode cX6_stands 44 = .ok (.getfield 47, 3) := by decide +kernel
theorem dX6_stands_47 : decode cX6_stands 47 = .ok (.iload_n 1, 1) := by decide +kernel
theorem dX6_stands_48 : decode cX6_stands 48 = .ok (.dup2, 1) := by decide +kernel
theorem dX6_stands_49 : decode cX6_stands 49 = .ok (.iaload, 1) := by decide +kernel
theorem dX6_stands_50 : decode cX6_stands 50 = .ok (.iconst 1, 1) := by decide +kernel
theorem dX6_stands_51 : decode cX6_stands 51 = .ok (.iadd, 1) := by decide +kernel
theorem dX6_stands_52 : decode cX6_stands 52 = .ok (.iastore, 1) := by decide +kernel
theorem dX6_stands_53 : decode cX6_stands 53 = .ok (.return_, 1) := by decide +kernel
set_option maxRecDepth 20000 in
theorem ggX6_together_X6_isSpan : GoodIn wsX6_together wsX6_isSpan := goodIn_r _ [8, 9, 35, 36, 37, 38, 39, 40, 41, 42, 43, 44, 45, 46, 47, 48, 49, 50, 51, 52, 53, 54, 55, 56, 57, 58, 59, 60, 61, 62, 63, 64, 65, 66, 67, 68, 69, 70, 71, 72, 73, 74, 75, 76] rfl (by decide +kernel)
set_option maxRecDepth 20000 in
theorem gX6_together_X6_isSpan : GoodIn wsX6_together (wsV RX6 232 RX6 yX6_isSpan wsX6_isSpan) := goodIn_app (goodIn_r _ [4, 5, 6, 7] rfl (by decide +kernel)) ggX6_together_X6_isSpan
set_option maxRecDepth 20000 in
theorem ggX6_together_X6_counts : GoodIn wsX6_together wsX6_counts := goodIn_r _ [13, 14, 15, 2, 16, 17, 18, 35, 36, 37, 38, 39, 40, 41, 42, 43, 44, 45, 46, 47, 48, 49, 50, 51, 52, 53, 54, 55, 56, 57, 58, 59, 60, 61, 62, 63, 64, 65, 66, 67, 68, 69, 70, 71, 72, 73, 74, 75, 76] rfl (by decide +kernel)
set_option maxRecDepth 20000 in
theorem gX6_together_X6_counts : GoodIn wsX6_together (wsV RX6 252 RX6 yX6_counts wsX6_counts) := goodIn_app (goodIn_r _ [10, 11, 12, 7] rfl (by decide +kernel)) ggX6_together_X6_counts
set_option maxRecDepth 20000 in
theorem ggX6_together_X6_stands : GoodIn wsX6_together wsX6_stands := goodIn_r _ [22, 14, 16, 17, 15, 18, 35, 36, 37, 38, 39, 40, 41, 42, 43, 44, 45, 46, 47, 48, 49, 50, 51, 52, 53, 54, 55, 56, 57, 58, 59, 60, 61, 62, 63, 64, 65, 66, 67, 68, 69, 70, 71, 72, 73, 74, 75, 76] rfl (by decide +kernel)
set_option maxRecDepth 20000 in
theorem gX6_together_X6_stands : GoodIn wsX6_together (wsV RX6 281 RX6 yX6_stands wsX6_stands) := goodIn_app (goodIn_r _ [19, 20, 21, 7] rfl (by decide +kernel)) ggX6_together_X6_stands
set_option maxRecDepth 20000 in
theorem ggX6_together_X6_modeBy : GoodIn wsX6_together wsX6_modeBy := goodIn_r _ [26, 15, 17, 27, 28, 29, 7, 30, 14, 16, 18, 35, 36, 37, 38, 39, 40, 41, 42, 43, 44, 45, 46, 47, 48, 49, 50, 51, 52, 53, 54, 55, 56, 57, 58, 59, 60, 61, 62, 63, 64, 65, 66, 67, 68, 69, 70, 71, 72, 73, 74, 75, 76] rfl (by decide +kernel)
set_option maxRecDepth 20000 in
theorem gX6_together_X6_modeBy : GoodIn wsX6_together (wsV RX6 256 RX6 yX6_modeBy wsX6_modeBy) := goodIn_app (goodIn_r _ [23, 24, 25, 7] rfl (by decide +kernel)) ggX6_together_X6_modeBy
set_option maxRecDepth 20000 in
theorem ggX6_together_X6_told : GoodIn wsX6_together wsX6_told := goodIn_r _ [34, 14, 16, 18, 35, 36, 37, 38, 39, 40, 41, 42, 43, 44, 45, 46, 47, 48, 49, 50, 51, 52, 53, 54, 55, 56, 57, 58, 59, 60, 61, 62, 63, 64, 65, 66, 67, 68, 69, 70, 71, 72, 73, 74, 75, 76] rfl (by decide +kernel)
set_option maxRecDepth 20000 in
theorem gX6_together_X6_told : GoodIn wsX6_together (wsV RX6 263 RX6 yX6_told wsX6_told) := goodIn_app (goodIn_r _ [31, 32, 33, 7] rfl (by decide +kernel)) ggX6_together_X6_told
theorem dX6_together_0 : decode cX6_together 0 = .ok (.aload_n 0, 1) := by decide +kernel
theorem dX6_together_1 : decode cX6_together 1 = .ok (.iconst 0, 1) := by decide +kernel
theorem dX6_together_2 : decode cX6_together 2 = .ok (.putfield 72, 3) := by decide +kernel
theorem dX6_together_5 : decode cX6_together 5 = .ok (.aload_n 0, 1) := by decide +kernel
theorem dX6_together_6 : decode cX6_together 6 = .ok (.iload_n 1, 1) := by decide +kernel
theorem dX6_together_7 : decode cX6_together 7 = .ok (.iload_n 2, 1) := by decide +kernel
theorem dX6_together_8 : decode cX6_together 8 = .ok (.invokevirtual 232, 3) := by decide +kernel
theorem dX6_together_11 : decode cX6_together 11 = .ok (.ifCond .eq 24, 3) := by decide +kernel
theorem dX6_together_14 : decode cX6_together 14 = .ok (.aload_n 0, 1) := by decide +kernel
theorem dX6_together_15 : decode cX6_together 15 = .ok (.iload_n 3, 1) := by decide +kernel
theorem dX6_together_16 : decode cX6_together 16 = .ok (.iload 4, 2) := by decide +kernel
theorem dX6_together_18 : decode cX6_together 18 = .ok (.invokevirtual 232, 3) := by decide +kernel
theorem dX6_together_21 : decode cX6_together 21 = .ok (.ifCond .eq 14, 3) := by decide +kernel
theorem dX6_together_24 : decode cX6_together 24 = .ok (.iload 5, 2) := by decide +kernel
theorem dX6_together_26 : decode cX6_together 26 = .ok (.ifCond .lt 9, 3) := by decide +kernel
theorem dX6_together_29 : decode cX6_together 29 = .ok (.iload 5, 2) := by decide +kernel
theorem dX6_together_31 : decode cX6_together 31 = .ok (.iconst 1, 1) := by decide +kernel
theorem dX6_together_32 : decode cX6_together 32 = .ok (.if_icmp .le 5, 3) := by decide +kernel
theorem dX6_together_35 : decode cX6_together 35 = .ok (.iconst (-1), 1) := by decide +kernel
theorem dX6_together_36 : decode cX6_together 36 = .ok (.ireturn, 1) := by decide +kernel
theorem dX6_together_37 : decode cX6_together 37 = .ok (.aload_n 0, 1) := by decide +kernel
theorem dX6_together_38 : decode cX6_together 38 = .ok (.iconst 0, 1) := by decide +kernel
theorem dX6_together_39 : decode cX6_together 39 = .ok (.iconst (-1), 1) := by decide +kernel
theorem dX6_together_40 : decode cX6_together 40 = .ok (.iconst (-1), 1) := by decide +kernel
theorem dX6_together_41 : decode cX6_together 41 = .ok (.invokevirtual 252, 3) := by decide +kernel
theorem dX6_together_44 : decode cX6_together 44 = .ok (.iconst 0, 1) := by decide +kernel
theorem dX6_together_45 : decode cX6_together 45 = .ok (.istore 6, 2) := by decide +kernel
theorem dX6_together_47 : decode cX6_together 47 = .ok (.iload_n 1, 1) := by decide +kernel
theorem dX6_together_48 : decode cX6_together 48 = .ok (.istore 7, 2) := by decide +kernel
theorem dX6_together_50 : decode cX6_together 50 = .ok (.iload 7, 2) := by decide +kernel
theorem dX6_together_52 : decode cX6_together 52 = .ok (.iload_n 2, 1) := by decide +kernel
theorem dX6_together_53 : decode cX6_together 53 = .ok (.if_icmp .gt 25, 3) := by decide +kernel
theorem dX6_together_56 : decode cX6_together 56 = .ok (.aload_n 0, 1) := by decide +kernel
theorem dX6_together_57 : decode cX6_together 57 = .ok (.aload_n 0, 1) := by decide +kernel
theorem dX6_together_58 : decode cX6_together 58 = .ok (.getfield 13, 3) := by decide +kernel
theorem dX6_together_61 : decode cX6_together 61 = .ok (.iload 7, 2) := by decide +kernel
theorem dX6_together_63 : decode cX6_together 63 = .ok (.iaload, 1) := by decide +kernel
theorem dX6_together_64 : decode cX6_together 64 = .ok (.iload 6, 2) := by decide +kernel
theorem dX6_together_66 : decode cX6_together 66 = .ok (.invokevirtual 281, 3) := by decide +kernel
theorem dX6_together_69 : decode cX6_together 69 = .ok (.iinc 6 1, 3) := by decide +kernel
theorem dX6_together_72 : decode cX6_together 72 = .ok (.iinc 7 1, 3) := by decide +kernel
theorem dX6_together_75 : decode cX6_together 75 = .ok (.goto (-25), 3) := by decide +kernel
theorem dX6_together_78 : decode cX6_together 78 = .ok (.iload_n 3, 1) := by decide +kernel
theorem dX6_together_79 : decode cX6_together 79 = .ok (.istore 7, 2) := by decide +kernel
theorem dX6_together_81 : decode cX6_together 81 = .ok (.iload 7, 2) := by decide +kernel
theorem dX6_together_83 : decode cX6_together 83 = .ok (.iload 4, 2) := by decide +kernel
theorem dX6_together_85 : decode cX6_together 85 = .ok (.if_icmp .gt 40, 3) := by decide +kernel
theorem dX6_together_88 : decode cX6_together 88 = .ok (.iload 7, 2) := by decide +kernel
theorem dX6_together_90 : decode cX6_together 90 = .ok (.iload_n 1, 1) := by decide +kernel
theorem dX6_together_91 : decode cX6_together 91 = .ok (.if_icmp .lt 12, 3) := by decide +kernel
theorem dX6_together_94 : decode cX6_together 94 = .ok (.iload 7, 2) := by decide +kernel
theorem dX6_together_96 : decode cX6_together 96 = .ok (.iload_n 2, 1) := by decide +kernel
theorem dX6_together_97 : decode cX6_together 97 = .ok (.if_icmp .gt 6, 3) := by decide +kernel
theorem dX6_together_100 : decode cX6_together 100 = .ok (.goto 19, 3) := by decide +kernel
theorem dX6_together_103 : decode cX6_together 103 = .ok (.aload_n 0, 1) := by decide +kernel
theorem dX6_together_104 : decode cX6_together 104 = .ok (.aload_n 0, 1) := by decide +kernel
theorem dX6_together_105 : decode cX6_together 105 = .ok (.getfield 13, 3) := by decide +kernel
theorem dX6_together_108 : decode cX6_together 108 = .ok (.iload 7, 2) := by decide +kernel
theorem dX6_together_110 : decode cX6_together 110 = .ok (.iaload, 1) := by decide +kernel
theorem dX6_together_111 : decode cX6_together 111 = .ok (.iload 6, 2) := by decide +kernel
theorem dX6_together_113 : decode cX6_together 113 = .ok (.invokevirtual 281, 3) := by decide +kernel
theorem dX6_together_116 : decode cX6_together 116 = .ok (.iinc 6 1, 3) := by decide +kernel
theorem dX6_together_119 : decode cX6_together 119 = .ok (.iinc 7 1, 3) := by decide +kernel
theorem dX6_together_122 : decode cX6_together 122 = .ok (.goto (-41), 3) := by decide +kernel
theorem dX6_together_125 : decode cX6_together 125 = .ok (.aload_n 0, 1) := by decide +kernel
theorem dX6_together_126 : decode cX6_together 126 = .ok (.aload_n 0, 1) := by decide +kernel
theorem dX6_together_127 : decode cX6_together 127 = .ok (.aload_n 0, 1) := by decide +kernel
theorem dX6_together_128 : decode cX6_together 128 = .ok (.getfield 178, 3) := by decide +kernel
theorem dX6_together_131 : decode cX6_together 131 = .ok (.invokevirtual 256, 3) := by decide +kernel
theorem dX6_together_134 : decode cX6_together 134 = .ok (.iload 5, 2) := by decide +kernel
theorem dX6_together_136 : decode cX6_together 136 = .ok (.invokevirtual 263, 3) := by decide +kernel
theorem dX6_together_139 : decode cX6_together 139 = .ok (.ireturn, 1) := by decide +kernel
set_option maxRecDepth 20000 in
theorem ggX6_agree_X6_isSpan : GoodIn wsX6_agree wsX6_isSpan := goodIn_r _ [6, 7, 31, 32, 33, 34, 35, 36, 37, 38, 39, 40, 41, 42, 43, 44, 45, 46, 47, 48, 49, 50, 51, 52, 53, 54, 55, 56, 57, 58, 59, 60, 61, 62, 63, 64, 65, 66, 67, 68, 69, 70, 71, 72] rfl (by decide +kernel)
set_option maxRecDepth 20000 in
theorem gX6_agree_X6_isSpan : GoodIn wsX6_agree (wsV RX6 232 RX6 yX6_isSpan wsX6_isSpan) := goodIn_app (goodIn_r _ [2, 3, 4, 5] rfl (by decide +kernel)) ggX6_agree_X6_isSpan
set_option maxRecDepth 20000 in
theorem ggX6_agree_X6_modeOf : GoodIn wsX6_agree wsX6_modeOf := goodIn_r _ [11, 12, 13, 14, 15, 5, 16, 17, 18, 19, 20, 21, 22, 23, 24, 25, 26, 27, 28, 29, 30, 31, 32, 33, 34, 35, 36, 37, 38, 39, 40, 41, 42, 43, 44, 45, 46, 47, 48, 49, 50, 51, 52, 53, 54, 55, 56, 57, 58, 59, 60, 61, 62, 63, 64, 65, 66, 67, 68, 69, 70, 71, 72] rfl (by decide +kernel)
set_option maxRecDepth 20000 in
theorem gX6_agree_X6_modeOf : GoodIn wsX6_agree (wsV RX6 260 RX6 yX6_modeOf wsX6_modeOf) := goodIn_app (goodIn_r _ [8, 9, 10, 5] rfl (by decide +kernel)) ggX6_agree_X6_modeOf
theorem dX6_agree_0 : decode cX6_agree 0 = .ok (.aload_n 0, 1) := by decide +kernel
theorem dX6_agree_1 : decode cX6_agree 1 = .ok (.iconst 0, 1) := by decide +kernel
theorem dX6_agree_2 : decode cX6_agree 2 = .ok (.putfield 72, 3) := by decide +kernel
theorem dX6_agree_5 : decode cX6_agree 5 = .ok (.aload_n 0, 1) := by decide +kernel
theorem dX6_agree_6 : decode cX6_agree 6 = .ok (.iload_n 1, 1) := by decide +kernel
theorem dX6_agree_7 : decode cX6_agree 7 = .ok (.iload_n 2, 1) := by decide +kernel
theorem dX6_agree_8 : decode cX6_agree 8 = .ok (.invokevirtual 232, 3) := by decide +kernel
theorem dX6_agree_11 : decode cX6_agree 11 = .ok (.ifCond .eq 14, 3) := by decide +kernel
theorem dX6_agree_14 : decode cX6_agree 14 = .ok (.aload_n 0, 1) := by decide +kernel
theorem dX6_agree_15 : decode cX6_agree 15 = .ok (.iload_n 2, 1) := by decide +kernel
theorem dX6_agree_16 : decode cX6_agree 16 = .ok (.iconst 1, 1) := by decide +kernel
theorem dX6_agree_17 : decode cX6_agree 17 = .ok (.iadd, 1) := by decide +kernel
theorem dX6_agree_18 : decode cX6_agree 18 = .ok (.iload_n 3, 1) := by decide +kernel
theorem dX6_agree_19 : decode cX6_agree 19 = .ok (.invokevirtual 232, 3) := by decide +kernel
theorem dX6_agree_22 : decode cX6_agree 22 = .ok (.ifCond .ne 5, 3) := by decide +kernel
theorem dX6_agree_25 : decode cX6_agree 25 = .ok (.iconst (-1), 1) := by decide +kernel
theorem dX6_agree_26 : decode cX6_agree 26 = .ok (.ireturn, 1) := by decide +kernel
theorem dX6_agree_27 : decode cX6_agree 27 = .ok (.aload_n 0, 1) := by decide +kernel
theorem dX6_agree_28 : decode cX6_agree 28 = .ok (.iload_n 1, 1) := by decide +kernel
theorem dX6_agree_29 : decode cX6_agree 29 = .ok (.iload_n 2, 1) := by decide +kernel
theorem dX6_agree_30 : decode cX6_agree 30 = .ok (.invokevirtual 260, 3) := by decide +kernel
theorem dX6_agree_33 : decode cX6_agree 33 = .ok (.istore 4, 2) := by decide +kernel
theorem dX6_agree_35 : decode cX6_agree 35 = .ok (.aload_n 0, 1) := by decide +kernel
theorem dX6_agree_36 : decode cX6_agree 36 = .ok (.iload_n 2, 1) := by decide +kernel
theorem dX6_agree_37 : decode cX6_agree 37 = .ok (.iconst 1, 1) := by decide +kernel
theorem dX6_agree_38 : decode cX6_agree 38 = .ok (.iadd, 1) := by decide +kernel
theorem dX6_agree_39 : decode cX6_agree 39 = .ok (.iload_n 3, 1) := by decide +kernel
theorem dX6_agree_40 : decode cX6_agree 40 = .ok (.invokevirtual 260, 3) := by decide +kernel
theorem dX6_agree_43 : decode cX6_agree 43 = .ok (.iload 4, 2) := by decide +kernel
theorem dX6_agree_45 : decode cX6_agree 45 = .ok (.if_icmp .ne 7, 3) := by decide +kernel
theorem dX6_agree_48 : decode cX6_agree 48 = .ok (.iconst 1, 1) := by decide +kernel
theorem dX6_agree_49 : decode cX6_agree 49 = .ok (.goto 4, 3) := by decide +kernel
theorem dX6_agree_52 : decode cX6_agree 52 = .ok (.iconst 0, 1) := by decide +kernel
theorem dX6_agree_53 : decode cX6_agree 53 = .ok (.ireturn, 1) := by decide +kernel
set_option maxRecDepth 20000 in
theorem ggX6_peeled_X6_isSpan : GoodIn wsX6_peeled wsX6_isSpan := goodIn_r _ [9, 10, 31, 32, 33, 34, 35, 36, 37, 38, 39, 40, 41, 42, 43, 44, 45, 46, 47, 48, 49, 50, 51, 52, 53, 54, 55, 56, 57, 58, 59, 60, 61, 62, 63, 64, 65, 66, 67, 68, 69, 70, 71, 72] rfl (by decide +kernel)
set_option maxRecDepth 20000 in
theorem gX6_peeled_X6_isSpan : GoodIn wsX6_peeled (wsV RX6 232 RX6 yX6_isSpan wsX6_isSpan) := goodIn_app (goodIn_r _ [5, 6, 7, 8] rfl (by decide +kernel)) ggX6_peeled_X6_isSpan
set_option maxRecDepth 20000 in
theorem ggX6_peeled_X6_counts : GoodIn wsX6_peeled wsX6_counts := goodIn_r _ [14, 3, 2, 15, 16, 17, 18, 31, 32, 33, 34, 35, 36, 37, 38, 39, 40, 41, 42, 43, 44, 45, 46, 47, 48, 49, 50, 51, 52, 53, 54, 55, 56, 57, 58, 59, 60, 61, 62, 63, 64, 65, 66, 67, 68, 69, 70, 71, 72] rfl (by decide +kernel)
set_option maxRecDepth 20000 in
theorem gX6_peeled_X6_counts : GoodIn wsX6_peeled (wsV RX6 252 RX6 yX6_counts wsX6_counts) := goodIn_app (goodIn_r _ [11, 12, 13, 8] rfl (by decide +kernel)) ggX6_peeled_X6_counts
set_option maxRecDepth 20000 in
theorem ggX6_peeled_X6_ofRank : GoodIn wsX6_peeled wsX6_ofRank := goodIn_r _ [22, 2, 17, 23, 24, 25, 8, 26, 27, 28, 29, 30, 3, 16, 18, 31, 32, 33, 34, 35, 36, 37, 38, 39, 40, 41, 42, 43, 44, 45, 46, 47, 48, 49, 50, 51, 52, 53, 54, 55, 56, 57, 58, 59, 60, 61, 62, 63, 64, 65, 66, 67, 68, 69, 70, 71, 72] rfl (by decide +kernel)
set_option maxRecDepth 20000 in
theorem gX6_peeled_X6_ofRank : GoodIn wsX6_peeled (wsV RX6 266 RX6 yX6_ofRank wsX6_ofRank) := goodIn_app (goodIn_r _ [19, 20, 21, 8] rfl (by decide +kernel)) ggX6_peeled_X6_ofRank
theorem dX6_peeled_0 : decode cX6_peeled 0 = .ok (.aload_n 0, 1) := by decide +kernel
theorem dX6_peeled_1 : decode cX6_peeled 1 = .ok (.iconst 0, 1) := by decide +kernel
theorem dX6_peeled_2 : decode cX6_peeled 2 = .ok (.putfield 72, 3) := by decide +kernel
theorem dX6_peeled_5 : decode cX6_peeled 5 = .ok (.aload_n 0, 1) := by decide +kernel
theorem dX6_peeled_6 : decode cX6_peeled 6 = .ok (.iload_n 1, 1) := by decide +kernel
theorem dX6_peeled_7 : decode cX6_peeled 7 = .ok (.iload_n 2, 1) := by decide +kernel
theorem dX6_peeled_8 : decode cX6_peeled 8 = .ok (.invokevirtual 232, 3) := by decide +kernel
theorem dX6_peeled_11 : decode cX6_peeled 11 = .ok (.ifCond .eq 7, 3) := by decide +kernel
theorem dX6_peeled_14 : decode cX6_peeled 14 = .ok (.iload_n 3, 1) := by decide +kernel
theorem dX6_peeled_15 : decode cX6_peeled 15 = .ok (.ifCond .ge 5, 3) := by decide +kernel
theorem dX6_peeled_18 : decode cX6_peeled 18 = .ok (.iconst (-1), 1) := by decide +kernel
theorem dX6_peeled_19 : decode cX6_peeled 19 = .ok (.ireturn, 1) := by decide +kernel
theorem dX6_peeled_20 : decode cX6_peeled 20 = .ok (.aload_n 0, 1) := by decide +kernel
theorem dX6_peeled_21 : decode cX6_peeled 21 = .ok (.iload_n 1, 1) := by decide +kernel
theorem dX6_peeled_22 : decode cX6_peeled 22 = .ok (.iload_n 2, 1) := by decide +kernel
theorem dX6_peeled_23 : decode cX6_peeled 23 = .ok (.iconst (-1), 1) := by decide +kernel
theorem dX6_peeled_24 : decode cX6_peeled 24 = .ok (.invokevirtual 252, 3) := by decide +kernel
theorem dX6_peeled_27 : decode cX6_peeled 27 = .ok (.iload_n 3, 1) := by decide +kernel
theorem dX6_peeled_28 : decode cX6_peeled 28 = .ok (.aload_n 0, 1) := by decide +kernel
theorem dX6_peeled_29 : decode cX6_peeled 29 = .ok (.getfield 242, 3) := by decide +kernel
theorem dX6_peeled_32 : decode cX6_peeled 32 = .ok (.if_icmp .le 6, 3) := by decide +kernel
theorem dX6_peeled_35 : decode cX6_peeled 35 = .ok (.bipush (-2), 2) := by decide +kernel
theorem dX6_peeled_37 : decode cX6_peeled 37 = .ok (.ireturn, 1) := by decide +kernel
theorem dX6_peeled_38 : decode cX6_peeled 38 = .ok (.iload_n 2, 1) := by decide +kernel
theorem dX6_peeled_39 : decode cX6_peeled 39 = .ok (.iload_n 1, 1) := by decide +kernel
theorem dX6_peeled_40 : decode cX6_peeled 40 = .ok (.isub, 1) := by decide +kernel
theorem dX6_peeled_41 : decode cX6_peeled 41 = .ok (.iconst 1, 1) := by decide +kernel
theorem dX6_peeled_42 : decode cX6_peeled 42 = .ok (.iadd, 1) := by decide +kernel
theorem dX6_peeled_43 : decode cX6_peeled 43 = .ok (.istore 4, 2) := by decide +kernel
theorem dX6_peeled_45 : decode cX6_peeled 45 = .ok (.iconst 0, 1) := by decide +kernel
theorem dX6_peeled_46 : decode cX6_peeled 46 = .ok (.istore 5, 2) := by decide +kernel
theorem dX6_peeled_48 : decode cX6_peeled 48 = .ok (.iload 5, 2) := by decide +kernel
theorem dX6_peeled_50 : decode cX6_peeled 50 = .ok (.iload_n 3, 1) := by decide +kernel
theorem dX6_peeled_51 : decode cX6_peeled 51 = .ok (.if_icmp .ge 29, 3) := by decide +kernel
theorem dX6_peeled_54 : decode cX6_peeled 54 = .ok (.iload 4, 2) := by decide +kernel
theorem dX6_peeled_56 : decode cX6_peeled 56 = .ok (.aload_n 0, 1) := by decide +kernel
theorem dX6_peeled_57 : decode cX6_peeled 57 = .ok (.getfield 47, 3) := by decide +kernel
theorem dX6_peeled_60 : decode cX6_peeled 60 = .ok (.aload_n 0, 1) := by decide +kernel
theorem dX6_peeled_61 : decode cX6_peeled 61 = .ok (.iload 5, 2) := by decide +kernel
theorem dX6_peeled_63 : decode cX6_peeled 63 = .ok (.aload_n 0, 1) := by decide +kernel
theorem dX6_peeled_64 : decode cX6_peeled 64 = .ok (.getfield 178, 3) := by decide +kernel
theorem dX6_peeled_67 : decode cX6_peeled 67 = .ok (.invokevirtual 266, 3) := by decide +kernel
theorem dX6_peeled_70 : decode cX6_peeled 70 = .ok (.iaload, 1) := by decide +kernel
theorem dX6_peeled_71 : decode cX6_peeled 71 = .ok (.isub, 1) := by decide +kernel
theorem dX6_peeled_72 : decode cX6_peeled 72 = .ok (.istore 4, 2) := by decide +kernel
theorem dX6_peeled_74 : decode cX6_peeled 74 = .ok (.iinc 5 1, 3) := by decide +kernel
theorem dX6_peeled_77 : decode cX6_peeled 77 = .ok (.goto (-29), 3) := by decide +kernel
theorem dX6_peeled_80 : decode cX6_peeled 80 = .ok (.iload 4, 2) := by decide +kernel
theorem dX6_peeled_82 : decode cX6_peeled 82 = .ok (.ireturn, 1) := by decide +kernel
set_option maxRecDepth 20000 in
theorem ggX6_gap_X6_isValue : GoodIn wsX6_gap wsX6_isValue := goodIn_r _ [7] rfl (by decide +kernel)
set_option maxRecDepth 20000 in
theorem gX6_gap_X6_isValue : GoodIn wsX6_gap (va_wsS RX6 220 yX6_isValue wsX6_isValue) := goodIn_app (goodIn_r _ [4, 5, 6] rfl (by decide +kernel)) ggX6_gap_X6_isValue
theorem dX6_gap_0 : decode cX6_gap 0 = .ok (.aload_n 0, 1) := by decide +kernel
theorem dX6_gap_1 : decode cX6_gap 1 = .ok (.iconst 0, 1) := by decide +kernel
theorem dX6_gap_2 : decode cX6_gap 2 = .ok (.putfield 72, 3) := by decide +kernel
theorem dX6_gap_5 : decode cX6_gap 5 = .ok (.iload_n 1, 1) := by decide +kernel
theorem dX6_gap_6 : decode cX6_gap 6 = .ok (.invokestatic 220, 3) := by decide +kernel
theorem dX6_gap_9 : decode cX6_gap 9 = .ok (.ifCond .ne 5, 3) := by decide +kernel
theorem dX6_gap_12 : decode cX6_gap 12 = .ok (.iconst (-1), 1) := by decide +kernel
theorem dX6_gap_13 : decode cX6_gap 13 = .ok (.ireturn, 1) := by decide +kernel
theorem dX6_gap_14 : decode cX6_gap 14 = .ok (.bipush (-2), 2) := by decide +kernel
theorem dX6_gap_16 : decode cX6_gap 16 = .ok (.istore_n 2, 1) := by decide +kernel
theorem dX6_gap_17 : decode cX6_gap 17 = .ok (.iconst (-1), 1) := by decide +kernel
theorem dX6_gap_18 : decode cX6_gap 18 = .ok (.istore_n 3, 1) := by decide +kernel
theorem dX6_gap_19 : decode cX6_gap 19 = .ok (.iconst 0, 1) := by decide +kernel
theorem dX6_gap_20 : decode cX6_gap 20 = .ok (.istore 4, 2) := by decide +kernel
theorem dX6_gap_22 : decode cX6_gap 22 = .ok (.iload 4, 2) := by decide +kernel
theorem dX6_gap_24 : decode cX6_gap 24 = .ok (.aload_n 0, 1) := by decide +kernel
theorem dX6_gap_25 : decode cX6_gap 25 = .ok (.getfield 175, 3) := by decide +kernel
theorem dX6_gap_28 : decode cX6_gap 28 = .ok (.if_icmp .ge 44, 3) := by decide +kernel
theorem dX6_gap_31 : decode cX6_gap 31 = .ok (.aload_n 0, 1) := by decide +kernel
theorem dX6_gap_32 : decode cX6_gap 32 = .ok (.getfield 13, 3) := by decide +kernel
theorem dX6_gap_35 : decode cX6_gap 35 = .ok (.iload 4, 2) := by decide +kernel
theorem dX6_gap_37 : decode cX6_gap 37 = .ok (.iaload, 1) := by decide +kernel
theorem dX6_gap_38 : decode cX6_gap 38 = .ok (.iload_n 1, 1) := by decide +kernel
theorem dX6_gap_39 : decode cX6_gap 39 = .ok (.if_icmp .eq 6, 3) := by decide +kernel
theorem dX6_gap_42 : decode cX6_gap 42 = .ok (.goto 24, 3) := by decide +kernel
theorem dX6_gap_45 : decode cX6_gap 45 = .ok (.iload_n 3, 1) := by decide +kernel
theorem dX6_gap_46 : decode cX6_gap 46 = .ok (.iconst (-1), 1) := by decide +kernel
theorem dX6_gap_47 : decode cX6_gap 47 = .ok (.if_icmp .eq 16, 3) := by decide +kernel
theorem dX6_gap_50 : decode cX6_gap 50 = .ok (.iload 4, 2) := by decide +kernel
theorem dX6_gap_52 : decode cX6_gap 52 = .ok (.iload_n 3, 1) := by decide +kernel
theorem dX6_gap_53 : decode cX6_gap 53 = .ok (.isub, 1) := by decide +kernel
theorem dX6_gap_54 : decode cX6_gap 54 = .ok (.iload_n 2, 1) := by decide +kernel
theorem dX6_gap_55 : decode cX6_gap 55 = .ok (.if_icmp .le 8, 3) := by decide +kernel
theorem dX6_gap_58 : decode cX6_gap 58 = .ok (.iload 4, 2) := by decide +kernel
theorem dX6_gap_60 : decode cX6_gap 60 = .ok (.iload_n 3, 1) := by decide +kernel
theorem dX6_gap_61 : decode cX6_gap 61 = .ok (.isub, 1) := by decide +kernel
theorem dX6_gap_62 : decode cX6_gap 62 = .ok (.istore_n 2, 1) := by decide +kernel
theorem dX6_gap_63 : decode cX6_gap 63 = .ok (.iload 4, 2) := by decide +kernel
theorem dX6_gap_65 : decode cX6_gap 65 = .ok (.istore_n 3, 1) := by decide +kernel
theorem dX6_gap_66 : decode cX6_gap 66 = .ok (.iinc 4 1, 3) := by decide +kernel
theorem dX6_gap_69 : decode cX6_gap 69 = .ok (.goto (-47), 3) := by decide +kernel
theorem dX6_gap_72 : decode cX6_gap 72 = .ok (.iload_n 2, 1) := by decide +kernel
theorem dX6_gap_73 : decode cX6_gap 73 = .ok (.ireturn, 1) := by decide +kernel
set_option maxRecDepth 20000 in
theorem ggX6_wide_X6_modeOf : GoodIn wsX6_wide wsX6_modeOf := goodIn_r _ [8, 9, 10, 11, 12, 7, 13, 3, 14, 15, 16, 17, 18, 19, 20, 21, 22, 23, 24, 25, 26, 27, 28, 29, 30, 31, 32, 33, 34, 35, 36, 37, 38, 39, 40, 41, 42, 43, 44, 45, 46, 47, 48, 49, 50, 51, 52, 53, 54, 55, 56, 57, 58, 59, 60, 61, 62, 63, 64, 65, 66, 67, 68] rfl (by decide +kernel)
set_option maxRecDepth 20000 in
theorem gX6_wide_X6_modeOf : GoodIn wsX6_wide (wsV RX6 260 RX6 yX6_modeOf wsX6_modeOf) := goodIn_app (goodIn_r _ [4, 5, 6, 7] rfl (by decide +kernel)) ggX6_wide_X6_modeOf
theorem dX6_wide_0 : decode cX6_wide 0 = .ok (.aload_n 0, 1) := by decide +kernel
theorem dX6_wide_1 : decode cX6_wide 1 = .ok (.iconst 0, 1) := by decide +kernel
theorem dX6_wide_2 : decode cX6_wide 2 = .ok (.putfield 72, 3) := by decide +kernel
theorem dX6_wide_5 : decode cX6_wide 5 = .ok (.iload_n 1, 1) := by decide +kernel
theorem dX6_wide_6 : decode cX6_wide 6 = .ok (.iconst 1, 1) := by decide +kernel
theorem dX6_wide_7 : decode cX6_wide 7 = .ok (.if_icmp .ge 5, 3) := by decide +kernel
theorem dX6_wide_10 : decode cX6_wide 10 = .ok (.iconst (-1), 1) := by decide +kernel
theorem dX6_wide_11 : decode cX6_wide 11 = .ok (.ireturn, 1) := by decide +kernel
theorem dX6_wide_12 : decode cX6_wide 12 = .ok (.iconst 1, 1) := by decide +kernel
theorem dX6_wide_13 : decode cX6_wide 13 = .ok (.istore_n 2, 1) := by decide +kernel
theorem dX6_wide_14 : decode cX6_wide 14 = .ok (.iload_n 2, 1) := by decide +kernel
theorem dX6_wide_15 : decode cX6_wide 15 = .ok (.aload_n 0, 1) := by decide +kernel
theorem dX6_wide_16 : decode cX6_wide 16 = .ok (.getfield 175, 3) := by decide +kernel
theorem dX6_wide_19 : decode cX6_wide 19 = .ok (.if_icmp .gt 68, 3) := by decide +kernel
theorem dX6_wide_22 : decode cX6_wide 22 = .ok (.iconst 1, 1) := by decide +kernel
theorem dX6_wide_23 : decode cX6_wide 23 = .ok (.istore_n 3, 1) := by decide +kernel
theorem dX6_wide_24 : decode cX6_wide 24 = .ok (.iconst 0, 1) := by decide +kernel
theorem dX6_wide_25 : decode cX6_wide 25 = .ok (.istore 4, 2) := by decide +kernel
theorem dX6_wide_27 : decode cX6_wide 27 = .ok (.iload 4, 2) := by decide +kernel
theorem dX6_wide_29 : decode cX6_wide 29 = .ok (.iload_n 2, 1) := by decide +kernel
theorem dX6_wide_30 : decode cX6_wide 30 = .ok (.iadd, 1) := by decide +kernel
theorem dX6_wide_31 : decode cX6_wide 31 = .ok (.aload_n 0, 1) := by decide +kernel
theorem dX6_wide_32 : decode cX6_wide 32 = .ok (.getfield 175, 3) := by decide +kernel
theorem dX6_wide_35 : decode cX6_wide 35 = .ok (.if_icmp .gt 40, 3) := by decide +kernel
theorem dX6_wide_38 : decode cX6_wide 38 = .ok (.iload_n 3, 1) := by decide +kernel
theorem dX6_wide_39 : decode cX6_wide 39 = .ok (.ifCond .eq 36, 3) := by decide +kernel
theorem dX6_wide_42 : decode cX6_wide 42 = .ok (.aload_n 0, 1) := by decide +kernel
theorem dX6_wide_43 : decode cX6_wide 43 = .ok (.getfield 47, 3) := by decide +kernel
theorem dX6_wide_46 : decode cX6_wide 46 = .ok (.aload_n 0, 1) := by decide +kernel
theorem dX6_wide_47 : decode cX6_wide 47 = .ok (.iload 4, 2) := by decide +kernel
theorem dX6_wide_49 : decode cX6_wide 49 = .ok (.iload 4, 2) := by decide +kernel
theorem dX6_wide_51 : decode cX6_wide 51 = .ok (.iload_n 2, 1) := by decide +kernel
theorem dX6_wide_52 : decode cX6_wide 52 = .ok (.iadd, 1) := by decide +kernel
theorem dX6_wide_53 : decode cX6_wide 53 = .ok (.iconst 1, 1) := by decide +kernel
theorem dX6_wide_54 : decode cX6_wide 54 = .ok (.isub, 1) := by decide +kernel
theorem dX6_wide_55 : decode cX6_wide 55 = .ok (.invokevirtual 260, 3) := by decide +kernel
theorem dX6_wide_58 : decode cX6_wide 58 = .ok (.iaload, 1) := by decide +kernel
theorem dX6_wide_59 : decode cX6_wide 59 = .ok (.iload_n 1, 1) := by decide +kernel
theorem dX6_wide_60 : decode cX6_wide 60 = .ok (.if_icmp .lt 7, 3) := by decide +kernel
theorem dX6_wide_63 : decode cX6_wide 63 = .ok (.iconst 1, 1) := by decide +kernel
theorem dX6_wide_64 : decode cX6_wide 64 = .ok (.goto 4, 3) := by decide +kernel
theorem dX6_wide_67 : decode cX6_wide 67 = .ok (.iconst 0, 1) := by decide +kernel
theorem dX6_wide_68 : decode cX6_wide 68 = .ok (.istore_n 3, 1) := by decide +kernel
theorem dX6_wide_69 : decode cX6_wide 69 = .ok (.iinc 4 1, 3) := by decide +kernel
theorem dX6_wide_72 : decode cX6_wide 72 = .ok (.goto (-45), 3) := by decide +kernel
theorem dX6_wide_75 : decode cX6_wide 75 = .ok (.iload_n 3, 1) := by decide +kernel
theorem dX6_wide_76 : decode cX6_wide 76 = .ok (.ifCond .eq 5, 3) := by decide +kernel
theorem dX6_wide_79 : decode cX6_wide 79 = .ok (.iload_n 2, 1) := by decide +kernel
theorem dX6_wide_80 : decode cX6_wide 80 = .ok (.ireturn, 1) := by decide +kernel
theorem dX6_wide_81 : decode cX6_wide 81 = .ok (.iinc 2 1, 3) := by decide +kernel
theorem dX6_wide_84 : decode cX6_wide 84 = .ok (.goto (-70), 3) := by decide +kernel
theorem dX6_wide_87 : decode cX6_wide 87 = .ok (.bipush (-2), 2) := by decide +kernel
theorem dX6_wide_89 : decode cX6_wide 89 = .ok (.ireturn, 1) := by decide +kernel
set_option maxRecDepth 20000 in
theorem ggX6_reign_X6_isValue : GoodIn wsX6_reign wsX6_isValue := goodIn_r _ [7] rfl (by decide +kernel)
set_option maxRecDepth 20000 in
theorem gX6_reign_X6_isValue : GoodIn wsX6_reign (va_wsS RX6 220 yX6_isValue wsX6_isValue) := goodIn_app (goodIn_r _ [4, 5, 6] rfl (by decide +kernel)) ggX6_reign_X6_isValue
theorem dX6_reign_0 : decode cX6_reign 0 = .ok (.aload_n 0, 1) := by decide +kernel
theorem dX6_reign_1 : decode cX6_reign 1 = .ok (.iconst 0, 1) := by decide +kernel
theorem dX6_reign_2 : decode cX6_reign 2 = .ok (.putfield 72, 3) := by decide +kernel
theorem dX6_reign_5 : decode cX6_reign 5 = .ok (.iload_n 1, 1) := by decide +kernel
theorem dX6_reign_6 : decode cX6_reign 6 = .ok (.invokestatic 220, 3) := by decide +kernel
theorem dX6_reign_9 : decode cX6_reign 9 = .ok (.ifCond .eq 12, 3) := by decide +kernel
theorem dX6_reign_12 : decode cX6_reign 12 = .ok (.iload_n 2, 1) := by decide +kernel
theorem dX6_reign_13 : decode cX6_reign 13 = .ok (.ifCond .lt 8, 3) := by decide +kernel
theorem dX6_reign_16 : decode cX6_reign 16 = .ok (.iload_n 2, 1) := by decide +kernel
theorem dX6_reign_17 : decode cX6_reign 17 = .ok (.iconst 1, 1) := by decide +kernel
theorem dX6_reign_18 : decode cX6_reign 18 = .ok (.if_icmp .le 5, 3) := by decide +kernel
theorem dX6_reign_21 : decode cX6_reign 21 = .ok (.iconst (-1), 1) := by decide +kernel
theorem dX6_reign_22 : decode cX6_reign 22 = .ok (.ireturn, 1) := by decide +kernel
theorem dX6_reign_23 : decode cX6_reign 23 = .ok (.bipush (-2), 2) := by decide +kernel
theorem dX6_reign_25 : decode cX6_reign 25 = .ok (.istore_n 3, 1) := by decide +kernel
theorem dX6_reign_26 : decode cX6_reign 26 = .ok (.iconst 0, 1) := by decide +kernel
theorem dX6_reign_27 : decode cX6_reign 27 = .ok (.istore 4, 2) := by decide +kernel
theorem dX6_reign_29 : decode cX6_reign 29 = .ok (.iconst 0, 1) := by decide +kernel
theorem dX6_reign_30 : decode cX6_reign 30 = .ok (.istore 5, 2) := by decide +kernel
theorem dX6_reign_32 : decode cX6_reign 32 = .ok (.iload 5, 2) := by decide +kernel
theorem dX6_reign_34 : decode cX6_reign 34 = .ok (.aload_n 0, 1) := by decide +kernel
theorem dX6_reign_35 : decode cX6_reign 35 = .ok (.getfield 175, 3) := by decide +kernel
theorem dX6_reign_38 : decode cX6_reign 38 = .ok (.if_icmp .ge 93, 3) := by decide +kernel
theorem dX6_reign_41 : decode cX6_reign 41 = .ok (.iconst 0, 1) := by decide +kernel
theorem dX6_reign_42 : decode cX6_reign 42 = .ok (.istore 6, 2) := by decide +kernel
theorem dX6_reign_44 : decode cX6_reign 44 = .ok (.iload 5, 2) := by decide +kernel
theorem dX6_reign_46 : decode cX6_reign 46 = .ok (.istore 7, 2) := by decide +kernel
theorem dX6_reign_48 : decode cX6_reign 48 = .ok (.iload 7, 2) := by decide +kernel
theorem dX6_reign_50 : decode cX6_reign 50 = .ok (.aload_n 0, 1) := by decide +kernel
theorem dX6_reign_51 : decode cX6_reign 51 = .ok (.getfield 175, 3) := by decide +kernel
theorem dX6_reign_54 : decode cX6_reign 54 = .ok (.if_icmp .ge 71, 3) := by decide +kernel
theorem dX6_reign_57 : decode cX6_reign 57 = .ok (.iload 6, 2) := by decide +kernel
theorem dX6_reign_59 : decode cX6_reign 59 = .ok (.aload_n 0, 1) := by decide +kernel
theorem dX6_reign_60 : decode cX6_reign 60 = .ok (.getfield 13, 3) := by decide +kernel
theorem dX6_reign_63 : decode cX6_reign 63 = .ok (.iload 7, 2) := by decide +kernel
theorem dX6_reign_65 : decode cX6_reign 65 = .ok (.iaload, 1) := by decide +kernel
theorem dX6_reign_66 : decode cX6_reign 66 = .ok (.iload_n 1, 1) := by decide +kernel
theorem dX6_reign_67 : decode cX6_reign 67 = .ok (.if_icmp .ne 7, 3) := by decide +kernel
theorem dX6_reign_70 : decode cX6_reign 70 = .ok (.iconst 1, 1) := by decide +kernel
theorem dX6_reign_71 : decode cX6_reign 71 = .ok (.goto 4, 3) := by decide +kernel
theorem dX6_reign_74 : decode cX6_reign 74 = .ok (.iconst 0, 1) := by decide +kernel
theorem dX6_reign_75 : decode cX6_reign 75 = .ok (.iadd, 1) := by decide +kernel
theorem dX6_reign_76 : decode cX6_reign 76 = .ok (.istore 6, 2) := by decide +kernel
theorem dX6_reign_78 : decode cX6_reign 78 = .ok (.iconst 2, 1) := by decide +kernel
theorem dX6_reign_79 : decode cX6_reign 79 = .ok (.iload 6, 2) := by decide +kernel
theorem dX6_reign_81 : decode cX6_reign 81 = .ok (.imul, 1) := by decide +kernel
theorem dX6_reign_82 : decode cX6_reign 82 = .ok (.iload 7, 2) := by decide +kernel
theorem dX6_reign_84 : decode cX6_reign 84 = .ok (.iload 5, 2) := by decide +kernel
theorem dX6_reign_86 : decode cX6_reign 86 = .ok (.isub, 1) := by decide +kernel
theorem dX6_reign_87 : decode cX6_reign 87 = .ok (.iconst 1, 1) := by decide +kernel
theorem dX6_reign_88 : decode cX6_reign 88 = .ok (.iadd, 1) := by decide +kernel
theorem dX6_reign_89 : decode cX6_reign 89 = .ok (.if_icmp .le 30, 3) := by decide +kernel
theorem dX6_reign_92 : decode cX6_reign 92 = .ok (.iload 7, 2) := by decide +kernel
theorem dX6_reign_94 : decode cX6_reign 94 = .ok (.iload 5, 2) := by decide +kernel
theorem dX6_reign_96 : decode cX6_reign 96 = .ok (.isub, 1) := by decide +kernel
theorem dX6_reign_97 : decode cX6_reign 97 = .ok (.iconst 1, 1) := by decide +kernel
theorem dX6_reign_98 : decode cX6_reign 98 = .ok (.iadd, 1) := by decide +kernel
theorem dX6_reign_99 : decode cX6_reign 99 = .ok (.iload 4, 2) := by decide +kernel
theorem dX6_reign_101 : decode cX6_reign 101 = .ok (.if_icmp .gt 6, 3) := by decide +kernel
theorem dX6_reign_104 : decode cX6_reign 104 = .ok (.goto 15, 3) := by decide +kernel
theorem dX6_reign_107 : decode cX6_reign 107 = .ok (.iload 5, 2) := by decide +kernel
theorem dX6_reign_109 : decode cX6_reign 109 = .ok (.istore_n 3, 1) := by decide +kernel
theorem dX6_reign_110 : decode cX6_reign 110 = .ok (.iload 7, 2) := by decide +kernel
theorem dX6_reign_112 : decode cX6_reign 112 = .ok (.iload 5, 2) := by decide +kernel
theorem dX6_reign_114 : decode cX6_reign 114 = .ok (.isub, 1) := by decide +kernel
theorem dX6_reign_115 : decode cX6_reign 115 = .ok (.iconst 1, 1) := by decide +kernel
theorem dX6_reign_116 : decode cX6_reign 116 = .ok (.iadd, 1) := by decide +kernel
theorem dX6_reign_117 : decode cX6_reign 117 = .ok (.istore 4, 2) := by decide +kernel
theorem dX6_reign_119 : decode cX6_reign 119 = .ok (.iinc 7 1, 3) := by decide +kernel
theorem dX6_reign_122 : decode cX6_reign 122 = .ok (.goto (-74), 3) := by decide +kernel
theorem dX6_reign_125 : decode cX6_reign 125 = .ok (.iinc 5 1, 3) := by decide +kernel
theorem dX6_reign_128 : decode cX6_reign 128 = .ok (.goto (-96), 3) := by decide +kernel
theorem dX6_reign_131 : decode cX6_reign 131 = .ok (.iload_n 3, 1) := by decide +kernel
theorem dX6_reign_132 : decode cX6_reign 132 = .ok (.bipush (-2), 2) := by decide +kernel
theorem dX6_reign_134 : decode cX6_reign 134 = .ok (.if_icmp .eq 7, 3) := by decide +kernel
theorem dX6_reign_137 : decode cX6_reign 137 = .ok (.iload_n 2, 1) := by decide +kernel
theorem dX6_reign_138 : decode cX6_reign 138 = .ok (.ifCond .ne 7, 3) := by decide +kernel
theorem dX6_reign_141 : decode cX6_reign 141 = .ok (.iload_n 3, 1) := by decide +kernel
theorem dX6_reign_142 : decode cX6_reign 142 = .ok (.goto 9, 3) := by decide +kernel
theorem dX6_reign_145 : decode cX6_reign 145 = .ok (.iload_n 3, 1) := by decide +kernel
theorem dX6_reign_146 : decode cX6_reign 146 = .ok (.iload 4, 2) := by decide +kernel
theorem dX6_reign_148 : decode cX6_reign 148 = .ok (.iadd, 1) := by decide +kernel
theorem dX6_reign_149 : decode cX6_reign 149 = .ok (.iconst 1, 1) := by decide +kernel
theorem dX6_reign_150 : decode cX6_reign 150 = .ok (.isub, 1) := by decide +kernel
theorem dX6_reign_151 : decode cX6_reign 151 = .ok (.ireturn, 1) := by decide +kernel
set_option maxRecDepth 20000 in
theorem ggX6_beginnings_X6_longer : GoodIn wsX6_beginnings wsX6_longer := goodIn_r _ [8, 9, 10, 11, 12, 13, 7, 14, 15, 16, 17, 18, 19, 20, 21, 22, 23, 24, 25, 26, 27, 28, 29, 30, 31, 32, 33, 34, 35, 36, 37, 38, 39, 40, 41, 42, 43, 44, 45, 46, 47, 48, 49, 50, 51, 52, 53, 54, 55, 56, 57, 58, 59, 60, 61, 62, 63, 64, 65, 66, 67, 68, 69, 70, 71, 72, 73] rfl (by decide +kernel)
set_option maxRecDepth 20000 in
theorem gX6_beginnings_X6_longer : GoodIn wsX6_beginnings (wsV RX6 284 RX6 yX6_longer wsX6_longer) := goodIn_app (goodIn_r _ [4, 5, 6, 7] rfl (by decide +kernel)) ggX6_beginnings_X6_longer
theorem dX6_beginnings_0 : decode cX6_beginnings 0 = .ok (.aload_n 0, 1) := by decide +kernel
theorem dX6_beginnings_1 : decode cX6_beginnings 1 = .ok (.iconst 0, 1) := by decide +kernel
theorem dX6_beginnings_2 : decode cX6_beginnings 2 = .ok (.putfield 72, 3) := by decide +kernel
theorem dX6_beginnings_5 : decode cX6_beginnings 5 = .ok (.iload_n 1, 1) := by decide +kernel
theorem dX6_beginnings_6 : decode cX6_beginnings 6 = .ok (.ifCond .lt 8, 3) := by decide +kernel
theorem dX6_beginnings_9 : decode cX6_beginnings 9 = .ok (.iload_n 1, 1) := by decide +kernel
theorem dX6_beginnings_10 : decode cX6_beginnings 10 = .ok (.iconst 3, 1) := by decide +kernel
theorem dX6_beginnings_11 : decode cX6_beginnings 11 = .ok (.if_icmp .le 5, 3) := by decide +kernel
theorem dX6_beginnings_14 : decode cX6_beginnings 14 = .ok (.iconst (-1), 1) := by decide +kernel
theorem dX6_beginnings_15 : decode cX6_beginnings 15 = .ok (.ireturn, 1) := by decide +kernel
theorem dX6_beginnings_16 : decode cX6_beginnings 16 = .ok (.iconst 0, 1) := by decide +kernel
theorem dX6_beginnings_17 : decode cX6_beginnings 17 = .ok (.istore_n 2, 1) := by decide +kernel
theorem dX6_beginnings_18 : decode cX6_beginnings 18 = .ok (.iload_n 2, 1) := by decide +kernel
theorem dX6_beginnings_19 : decode cX6_beginnings 19 = .ok (.sipush 1000, 3) := by decide +kernel
theorem dX6_beginnings_22 : decode cX6_beginnings 22 = .ok (.if_icmp .ge 16, 3) := by decide +kernel
theorem dX6_beginnings_25 : decode cX6_beginnings 25 = .ok (.aload_n 0, 1) := by decide +kernel
theorem dX6_beginnings_26 : decode cX6_beginnings 26 = .ok (.getfield 63, 3) := by decide +kernel
theorem dX6_beginnings_29 : decode cX6_beginnings 29 = .ok (.iload_n 2, 1) := by decide +kernel
theorem dX6_beginnings_30 : decode cX6_beginnings 30 = .ok (.iconst 0, 1) := by decide +kernel
theorem dX6_beginnings_31 : decode cX6_beginnings 31 = .ok (.iastore, 1) := by decide +kernel
theorem dX6_beginnings_32 : decode cX6_beginnings 32 = .ok (.iinc 2 1, 3) := by decide +kernel
theorem dX6_beginnings_35 : decode cX6_beginnings 35 = .ok (.goto (-17), 3) := by decide +kernel
theorem dX6_beginnings_38 : decode cX6_beginnings 38 = .ok (.iconst 0, 1) := by decide +kernel
theorem dX6_beginnings_39 : decode cX6_beginnings 39 = .ok (.istore_n 2, 1) := by decide +kernel
theorem dX6_beginnings_40 : decode cX6_beginnings 40 = .ok (.bipush (-2), 2) := by decide +kernel
theorem dX6_beginnings_42 : decode cX6_beginnings 42 = .ok (.istore_n 3, 1) := by decide +kernel
theorem dX6_beginnings_43 : decode cX6_beginnings 43 = .ok (.iconst 0, 1) := by decide +kernel
theorem dX6_beginnings_44 : decode cX6_beginnings 44 = .ok (.istore 4, 2) := by decide +kernel
theorem dX6_beginnings_46 : decode cX6_beginnings 46 = .ok (.iconst 0, 1) := by decide +kernel
theorem dX6_beginnings_47 : decode cX6_beginnings 47 = .ok (.istore 5, 2) := by decide +kernel
theorem dX6_beginnings_49 : decode cX6_beginnings 49 = .ok (.iconst (-1), 1) := by decide +kernel
theorem dX6_beginnings_50 : decode cX6_beginnings 50 = .ok (.istore 6, 2) := by decide +kernel
theorem dX6_beginnings_52 : decode cX6_beginnings 52 = .ok (.iconst (-1), 1) := by decide +kernel
theorem dX6_beginnings_53 : decode cX6_beginnings 53 = .ok (.istore 7, 2) := by decide +kernel
theorem dX6_beginnings_55 : decode cX6_beginnings 55 = .ok (.iconst 0, 1) := by decide +kernel
theorem dX6_beginnings_56 : decode cX6_beginnings 56 = .ok (.istore 8, 2) := by decide +kernel
theorem dX6_beginnings_58 : decode cX6_beginnings 58 = .ok (.iload 8, 2) := by decide +kernel
theorem dX6_beginnings_60 : decode cX6_beginnings 60 = .ok (.aload_n 0, 1) := by decide +kernel
theorem dX6_beginnings_61 : decode cX6_beginnings 61 = .ok (.getfield 175, 3) := by decide +kernel
theorem dX6_beginnings_64 : decode cX6_beginnings 64 = .ok (.if_icmp .ge 137, 3) := by decide +kernel
theorem dX6_beginnings_67 : decode cX6_beginnings 67 = .ok (.aload_n 0, 1) := by decide +kernel
theorem dX6_beginnings_68 : decode cX6_beginnings 68 = .ok (.iconst 0, 1) := by decide +kernel
theorem dX6_beginnings_69 : decode cX6_beginnings 69 = .ok (.iload 8, 2) := by decide +kernel
theorem dX6_beginnings_71 : decode cX6_beginnings 71 = .ok (.invokevirtual 284, 3) := by decide +kernel
theorem dX6_beginnings_74 : decode cX6_beginnings 74 = .ok (.istore 9, 2) := by decide +kernel
theorem dX6_beginnings_76 : decode cX6_beginnings 76 = .ok (.iload 8, 2) := by decide +kernel
theorem dX6_beginnings_78 : decode cX6_beginnings 78 = .ok (.ifCond .le 14, 3) := by decide +kernel
theorem dX6_beginnings_81 : decode cX6_beginnings 81 = .ok (.iload 9, 2) := by decide +kernel
theorem dX6_beginnings_83 : decode cX6_beginnings 83 = .ok (.iload 7, 2) := by decide +kernel
theorem dX6_beginnings_85 : decode cX6_beginnings 85 = .ok (.if_icmp .eq 7, 3) := by decide +kernel
theorem dX6_beginnings_88 : decode cX6_beginnings 88 = .ok (.iconst 1, 1) := by decide +kernel
theorem dX6_beginnings_89 : decode cX6_beginnings 89 = .ok (.goto 4, 3) := by decide +kernel
theorem dX6_beginnings_92 : decode cX6_beginnings 92 = .ok (.iconst 0, 1) := by decide +kernel
theorem dX6_beginnings_93 : decode cX6_beginnings 93 = .ok (.istore 10, 2) := by decide +kernel
theorem dX6_beginnings_95 : decode cX6_beginnings 95 = .ok (.iload_n 2, 1) := by decide +kernel
theorem dX6_beginnings_96 : decode cX6_beginnings 96 = .ok (.iload 10, 2) := by decide +kernel
theorem dX6_beginnings_98 : decode cX6_beginnings 98 = .ok (.ifCond .eq 7, 3) := by decide +kernel
theorem dX6_beginnings_101 : decode cX6_beginnings 101 = .ok (.iconst 1, 1) := by decide +kernel
theorem dX6_beginnings_102 : decode cX6_beginnings 102 = .ok (.goto 4, 3) := by decide +kernel
theorem dX6_beginnings_105 : decode cX6_beginnings 105 = .ok (.iconst 0, 1) := by decide +kernel
theorem dX6_beginnings_106 : decode cX6_beginnings 106 = .ok (.iadd, 1) := by decide +kernel
theorem dX6_beginnings_107 : decode cX6_beginnings 107 = .ok (.istore_n 2, 1) := by decide +kernel
theorem dX6_beginnings_108 : decode cX6_beginnings 108 = .ok (.iload 10, 2) := by decide +kernel
theorem dX6_beginnings_110 : decode cX6_beginnings 110 = .ok (.ifCond .eq 8, 3) := by decide +kernel
theorem dX6_beginnings_113 : decode cX6_beginnings 113 = .ok (.iload 8, 2) := by decide +kernel
theorem dX6_beginnings_115 : decode cX6_beginnings 115 = .ok (.goto 4, 3) := by decide +kernel
theorem dX6_beginnings_118 : decode cX6_beginnings 118 = .ok (.iload_n 3, 1) := by decide +kernel
theorem dX6_beginnings_119 : decode cX6_beginnings 119 = .ok (.istore_n 3, 1) := by decide +kernel
theorem dX6_beginnings_120 : decode cX6_beginnings 120 = .ok (.iload 4, 2) := by decide +kernel
theorem dX6_beginnings_122 : decode cX6_beginnings 122 = .ok (.aload_n 0, 1) := by decide +kernel
theorem dX6_beginnings_123 : decode cX6_beginnings 123 = .ok (.getfield 63, 3) := by decide +kernel
theorem dX6_beginnings_126 : decode cX6_beginnings 126 = .ok (.iload 9, 2) := by decide +kernel
theorem dX6_beginnings_128 : decode cX6_beginnings 128 = .ok (.iaload, 1) := by decide +kernel
theorem dX6_beginnings_129 : decode cX6_beginnings 129 = .ok (.ifCond .ne 7, 3) := by decide +kernel
theorem dX6_beginnings_132 : decode cX6_beginnings 132 = .ok (.iconst 1, 1) := by decide +kernel
theorem dX6_beginnings_133 : decode cX6_beginnings 133 = .ok (.goto 4, 3) := by decide +kernel
theorem dX6_beginnings_136 : decode cX6_beginnings 136 = .ok (.iconst 0, 1) := by decide +kernel
theorem dX6_beginnings_137 : decode cX6_beginnings 137 = .ok (.iadd, 1) := by decide +kernel
theorem dX6_beginnings_138 : decode cX6_beginnings 138 = .ok (.istore 4, 2) := by decide +kernel
theorem dX6_beginnings_140 : decode cX6_beginnings 140 = .ok (.aload_n 0, 1) := by decide +kernel
theorem dX6_beginnings_141 : decode cX6_beginnings 141 = .ok (.getfield 63, 3) := by decide +kernel
theorem dX6_beginnings_144 : decode cX6_beginnings 144 = .ok (.iload 9, 2) := by decide +kernel
theorem dX6_beginnings_146 : decode cX6_beginnings 146 = .ok (.dup2, 1) := by decide +kernel
theorem dX6_beginnings_147 : decode cX6_beginnings 147 = .ok (.iaload, 1) := by decide +kernel
theorem dX6_beginnings_148 : decode cX6_beginnings 148 = .ok (.iconst 1, 1) := by decide +kernel
theorem dX6_beginnings_149 : decode cX6_beginnings 149 = .ok (.iadd, 1) := by decide +kernel
theorem dX6_beginnings_150 : decode cX6_beginnings 150 = .ok (.iastore, 1) := by decide +kernel
theorem dX6_beginnings_151 : decode cX6_beginnings 151 = .ok (.iload 10, 2) := by decide +kernel
theorem dX6_beginnings_153 : decode cX6_beginnings 153 = .ok (.ifCond .eq 7, 3) := by decide +kernel
theorem dX6_beginnings_156 : decode cX6_beginnings 156 = .ok (.iconst 0, 1) := by decide +kernel
theorem dX6_beginnings_157 : decode cX6_beginnings 157 = .ok (.goto 16, 3) := by decide +kernel
theorem dX6_beginnings_160 : decode cX6_beginnings 160 = .ok (.iload 8, 2) := by decide +kernel
theorem dX6_beginnings_162 : decode cX6_beginnings 162 = .ok (.ifCond .ne 7, 3) := by decide +kernel
theorem dX6_beginnings_165 : decode cX6_beginnings 165 = .ok (.iconst 0, 1) := by decide +kernel
theorem dX6_beginnings_166 : decode cX6_beginnings 166 = .ok (.goto 7, 3) := by decide +kernel
theorem dX6_beginnings_169 : decode cX6_beginnings 169 = .ok (.iload 5, 2) := by decide +kernel
theorem dX6_beginnings_171 : decode cX6_beginnings 171 = .ok (.iconst 1, 1) := by decide +kernel
theorem dX6_beginnings_172 : decode cX6_beginnings 172 = .ok (.iadd, 1) := by decide +kernel
theorem dX6_beginnings_173 : decode cX6_beginnings 173 = .ok (.istore 5, 2) := by decide +kernel
theorem dX6_beginnings_175 : decode cX6_beginnings 175 = .ok (.iload 5, 2) := by decide +kernel
theorem dX6_beginnings_177 : decode cX6_beginnings 177 = .ok (.iload 6, 2) := by decide +kernel
theorem dX6_beginnings_179 : decode cX6_beginnings 179 = .ok (.if_icmp .le 8, 3) := by decide +kernel
theorem dX6_beginnings_182 : decode cX6_beginnings 182 = .ok (.iload 5, 2) := by decide +kernel
theorem dX6_beginnings_184 : decode cX6_beginnings 184 = .ok (.goto 5, 3) := by decide +kernel
theorem dX6_beginnings_187 : decode cX6_beginnings 187 = .ok (.iload 6, 2) := by decide +kernel
theorem dX6_beginnings_189 : decode cX6_beginnings 189 = .ok (.istore 6, 2) := by decide +kernel
theorem dX6_beginnings_191 : decode cX6_beginnings 191 = .ok (.iload 9, 2) := by decide +kernel
theorem dX6_beginnings_193 : decode cX6_beginnings 193 = .ok (.istore 7, 2) := by decide +kernel
theorem dX6_beginnings_195 : decode cX6_beginnings 195 = .ok (.iinc 8 1, 3) := by decide +kernel
theorem dX6_beginnings_198 : decode cX6_beginnings 198 = .ok (.goto (-140), 3) := by decide +kernel
theorem dX6_beginnings_201 : decode cX6_beginnings 201 = .ok (.iload_n 1, 1) := by decide +kernel
theorem dX6_beginnings_202 : decode cX6_beginnings 202 = .ok (.ifCond .ne 7, 3) := by decide +kernel
theorem dX6_beginnings_205 : decode cX6_beginnings 205 = .ok (.iload_n 2, 1) := by decide +kernel
theorem dX6_beginnings_206 : decode cX6_beginnings 206 = .ok (.goto 36, 3) := by decide +kernel
theorem dX6_beginnings_209 : decode cX6_beginnings 209 = .ok (.iload_n 1, 1) := by decide +kernel
theorem dX6_beginnings_210 : decode cX6_beginnings 210 = .ok (.iconst 1, 1) := by decide +kernel
theorem dX6_beginnings_211 : decode cX6_beginnings 211 = .ok (.if_icmp .ne 7, 3) := by decide +kernel
theorem dX6_beginnings_214 : decode cX6_beginnings 214 = .ok (.iload_n 3, 1) := by decide +kernel
theorem dX6_beginnings_215 : decode cX6_beginnings 215 = .ok (.goto 27, 3) := by decide +kernel
theorem dX6_beginnings_218 : decode cX6_beginnings 218 = .ok (.iload_n 1, 1) := by decide +kernel
theorem dX6_beginnings_219 : decode cX6_beginnings 219 = .ok (.iconst 2, 1) := by decide +kernel
theorem dX6_beginnings_220 : decode cX6_beginnings 220 = .ok (.if_icmp .ne 8, 3) := by decide +kernel
theorem dX6_beginnings_223 : decode cX6_beginnings 223 = .ok (.iload 4, 2) := by decide +kernel
theorem dX6_beginnings_225 : decode cX6_beginnings 225 = .ok (.goto 17, 3) := by decide +kernel
theorem dX6_beginnings_228 : decode cX6_beginnings 228 = .ok (.aload_n 0, 1) := by decide +kernel
theorem dX6_beginnings_229 : decode cX6_beginnings 229 = .ok (.getfield 175, 3) := by decide +kernel
theorem dX6_beginnings_232 : decode cX6_beginnings 232 = .ok (.ifCond .ne 8, 3) := by decide +kernel
theorem dX6_beginnings_235 : decode cX6_beginnings 235 = .ok (.bipush (-2), 2) := by decide +kernel
theorem dX6_beginnings_237 : decode cX6_beginnings 237 = .ok (.goto 5, 3) := by decide +kernel
theorem dX6_beginnings_240 : decode cX6_beginnings 240 = .ok (.iload 6, 2) := by decide +kernel
theorem dX6_beginnings_242 : decode cX6_beginnings 242 = .ok (.ireturn, 1) := by decide +kernel
set_option maxRecDepth 20000 in
theorem ggX6_since_X6_isPlace : GoodIn wsX6_since wsX6_isPlace := goodIn_r _ [10, 11, 12, 13, 14, 15, 16, 17, 18, 19, 20, 21, 22, 23, 24, 25, 26, 27, 28, 29, 30, 31, 32, 33, 34, 35, 36, 37, 38, 39, 40, 41, 42, 43, 44, 45, 46, 47, 48, 49, 50, 51, 52, 53] rfl (by decide +kernel)
set_option maxRecDepth 20000 in
theorem gX6_since_X6_isPlace : GoodIn wsX6_since (wsV RX6 187 RX6 yX6_isPlace wsX6_isPlace) := goodIn_app (goodIn_r _ [6, 7, 8, 9] rfl (by decide +kernel)) ggX6_since_X6_isPlace
theorem dX6_since_0 : decode cX6_since 0 = .ok (.aload_n 0, 1) := by decide +kernel
theorem dX6_since_1 : decode cX6_since 1 = .ok (.iconst 0, 1) := by decide +kernel
theorem dX6_since_2 : decode cX6_since 2 = .ok (.putfield 72, 3) := by decide +kernel
theorem dX6_since_5 : decode cX6_since 5 = .ok (.aload_n 0, 1) := by decide +kernel
theorem dX6_since_6 : decode cX6_since 6 = .ok (.iload_n 1, 1) := by decide +kernel
theorem dX6_since_7 : decode cX6_since 7 = .ok (.invokevirtual 187, 3) := by decide +kernel
theorem dX6_since_10 : decode cX6_since 10 = .ok (.ifCond .ne 5, 3) := by decide +kernel
theorem dX6_since_13 : decode cX6_since 13 = .ok (.iconst (-1), 1) := by decide +kernel
theorem dX6_since_14 : decode cX6_since 14 = .ok (.ireturn, 1) := by decide +kernel
theorem dX6_since_15 : decode cX6_since 15 = .ok (.iconst 1, 1) := by decide +kernel
theorem dX6_since_16 : decode cX6_since 16 = .ok (.istore_n 2, 1) := by decide +kernel
theorem dX6_since_17 : decode cX6_since 17 = .ok (.iload_n 2, 1) := by decide +kernel
theorem dX6_since_18 : decode cX6_since 18 = .ok (.aload_n 0, 1) := by decide +kernel
theorem dX6_since_19 : decode cX6_since 19 = .ok (.getfield 184, 3) := by decide +kernel
theorem dX6_since_22 : decode cX6_since 22 = .ok (.if_icmp .gt 50, 3) := by decide +kernel
theorem dX6_since_25 : decode cX6_since 25 = .ok (.aload_n 0, 1) := by decide +kernel
theorem dX6_since_26 : decode cX6_since 26 = .ok (.getfield 184, 3) := by decide +kernel
theorem dX6_since_29 : decode cX6_since 29 = .ok (.iload_n 2, 1) := by decide +kernel
theorem dX6_since_30 : decode cX6_since 30 = .ok (.isub, 1) := by decide +kernel
theorem dX6_since_31 : decode cX6_since 31 = .ok (.istore_n 3, 1) := by decide +kernel
theorem dX6_since_32 : decode cX6_since 32 = .ok (.iload_n 1, 1) := by decide +kernel
theorem dX6_since_33 : decode cX6_since 33 = .ok (.aload_n 0, 1) := by decide +kernel
theorem dX6_since_34 : decode cX6_since 34 = .ok (.getfield 25, 3) := by decide +kernel
theorem dX6_since_37 : decode cX6_since 37 = .ok (.iload_n 3, 1) := by decide +kernel
theorem dX6_since_38 : decode cX6_since 38 = .ok (.iaload, 1) := by decide +kernel
theorem dX6_since_39 : decode cX6_since 39 = .ok (.if_icmp .ge 23, 3) := by decide +kernel
theorem dX6_since_42 : decode cX6_since 42 = .ok (.aload_n 0, 1) := by decide +kernel
theorem dX6_since_43 : decode cX6_since 43 = .ok (.getfield 19, 3) := by decide +kernel
theorem dX6_since_46 : decode cX6_since 46 = .ok (.bipush 120, 2) := by decide +kernel
theorem dX6_since_48 : decode cX6_since 48 = .ok (.iload_n 3, 1) := by decide +kernel
theorem dX6_since_49 : decode cX6_since 49 = .ok (.imul, 1) := by decide +kernel
theorem dX6_since_50 : decode cX6_since 50 = .ok (.iload_n 1, 1) := by decide +kernel
theorem dX6_since_51 : decode cX6_since 51 = .ok (.iadd, 1) := by decide +kernel
theorem dX6_since_52 : decode cX6_since 52 = .ok (.iaload, 1) := by decide +kernel
theorem dX6_since_53 : decode cX6_since 53 = .ok (.aload_n 0, 1) := by decide +kernel
theorem dX6_since_54 : decode cX6_since 54 = .ok (.getfield 13, 3) := by decide +kernel
theorem dX6_since_57 : decode cX6_since 57 = .ok (.iload_n 1, 1) := by decide +kernel
theorem dX6_since_58 : decode cX6_since 58 = .ok (.iaload, 1) := by decide +kernel
theorem dX6_since_59 : decode cX6_since 59 = .ok (.if_icmp .eq 7, 3) := by decide +kernel
theorem dX6_since_62 : decode cX6_since 62 = .ok (.iload_n 2, 1) := by decide +kernel
theorem dX6_since_63 : decode cX6_since 63 = .ok (.iconst 1, 1) := by decide +kernel
theorem dX6_since_64 : decode cX6_since 64 = .ok (.isub, 1) := by decide +kernel
theorem dX6_since_65 : decode cX6_since 65 = .ok (.ireturn, 1) := by decide +kernel
theorem dX6_since_66 : decode cX6_since 66 = .ok (.iinc 2 1, 3) := by decide +kernel
theorem dX6_since_69 : decode cX6_since 69 = .ok (.goto (-52), 3) := by decide +kernel
theorem dX6_since_72 : decode cX6_since 72 = .ok (.bipush (-2), 2) := by decide +kernel
theorem dX6_since_74 : decode cX6_since 74 = .ok (.ireturn, 1) := by decide +kernel
set_option maxRecDepth 20000 in
theorem ggX6_ifSet_X6_isPlace : GoodIn wsX6_ifSet wsX6_isPlace := goodIn_r _ [7, 8, 38, 39, 40, 41, 42, 43, 44, 45, 46, 47, 48, 49, 50, 51, 52, 53, 54, 55, 56, 57, 58, 59, 60, 61, 62, 63, 64, 65, 66, 67, 68, 69, 70, 71, 72, 73, 74, 75, 76, 77, 78, 79] rfl (by decide +kernel)
set_option maxRecDepth 20000 in
theorem gX6_ifSet_X6_isPlace : GoodIn wsX6_ifSet (wsV RX6 187 RX6 yX6_isPlace wsX6_isPlace) := goodIn_app (goodIn_r _ [3, 4, 5, 6] rfl (by decide +kernel)) ggX6_ifSet_X6_isPlace
set_option maxRecDepth 20000 in
theorem ggX6_ifSet_X6_isValue : GoodIn wsX6_ifSet wsX6_isValue := goodIn_r _ [11] rfl (by decide +kernel)
set_option maxRecDepth 20000 in
theorem gX6_ifSet_X6_isValue : GoodIn wsX6_ifSet (va_wsS RX6 220 yX6_isValue wsX6_isValue) := goodIn_app (goodIn_r _ [9, 10, 6] rfl (by decide +kernel)) ggX6_ifSet_X6_isValue
set_option maxRecDepth 20000 in
theorem ggX6_ifSet_X6_isSpan : GoodIn wsX6_ifSet wsX6_isSpan := goodIn_r _ [15, 8, 38, 39, 40, 41, 42, 43, 44, 45, 46, 47, 48, 49, 50, 51, 52, 53, 54, 55, 56, 57, 58, 59, 60, 61, 62, 63, 64, 65, 66, 67, 68, 69, 70, 71, 72, 73, 74, 75, 76, 77, 78, 79] rfl (by decide +kernel)
set_option maxRecDepth 20000 in
theorem gX6_ifSet_X6_isSpan : GoodIn wsX6_ifSet (wsV RX6 232 RX6 yX6_isSpan wsX6_isSpan) := goodIn_app (goodIn_r _ [12, 13, 14, 6] rfl (by decide +kernel)) ggX6_ifSet_X6_isSpan
set_option maxRecDepth 20000 in
theorem ggX6_ifSet_X6_modeOf : GoodIn wsX6_ifSet wsX6_modeOf := goodIn_r _ [19, 20, 21, 22, 23, 6, 24, 25, 26, 2, 27, 28, 29, 30, 31, 32, 33, 34, 35, 36, 37, 38, 39, 40, 41, 42, 43, 44, 45, 46, 47, 48, 49, 50, 51, 52, 53, 54, 55, 56, 57, 58, 59, 60, 61, 62, 63, 64, 65, 66, 67, 68, 69, 70, 71, 72, 73, 74, 75, 76, 77, 78, 79] rfl (by decide +kernel)
set_option maxRecDepth 20000 in
theorem gX6_ifSet_X6_modeOf : GoodIn wsX6_ifSet (wsV RX6 260 RX6 yX6_modeOf wsX6_modeOf) := goodIn_app (goodIn_r _ [16, 17, 18, 6] rfl (by decide +kernel)) ggX6_ifSet_X6_modeOf
theorem dX6_ifSet_0 : decode cX6_ifSet 0 = .ok (.aload_n 0, 1) := by decide +kernel
theorem dX6_ifSet_1 : decode cX6_ifSet 1 = .ok (.iconst 0, 1) := by decide +kernel
theorem dX6_ifSet_2 : decode cX6_ifSet 2 = .ok (.putfield 72, 3) := by decide +kernel
theorem dX6_ifSet_5 : decode cX6_ifSet 5 = .ok (.aload_n 0, 1) := by decide +kernel
theorem dX6_ifSet_6 : decode cX6_ifSet 6 = .ok (.iload_n 1, 1) := by decide +kernel
theorem dX6_ifSet_7 : decode cX6_ifSet 7 = .ok (.invokevirtual 187, 3) := by decide +kernel
theorem dX6_ifSet_10 : decode cX6_ifSet 10 = .ok (.ifCond .eq 20, 3) := by decide +kernel
theorem dX6_ifSet_13 : decode cX6_ifSet 13 = .ok (.iload_n 2, 1) := by decide +kernel
theorem dX6_ifSet_14 : decode cX6_ifSet 14 = .ok (.invokestatic 220, 3) := by decide +kernel
theorem dX6_ifSet_17 : decode cX6_ifSet 17 = .ok (.ifCond .eq 13, 3) := by decide +kernel
theorem dX6_ifSet_20 : decode cX6_ifSet 20 = .ok (.aload_n 0, 1) := by decide +kernel
theorem dX6_ifSet_21 : decode cX6_ifSet 21 = .ok (.iload_n 3, 1) := by decide +kernel
theorem dX6_ifSet_22 : decode cX6_ifSet 22 = .ok (.iload 4, 2) := by decide +kernel
theorem dX6_ifSet_24 : decode cX6_ifSet 24 = .ok (.invokevirtual 232, 3) := by decide +kernel
theorem dX6_ifSet_27 : decode cX6_ifSet 27 = .ok (.ifCond .ne 5, 3) := by decide +kernel
theorem dX6_ifSet_30 : decode cX6_ifSet 30 = .ok (.iconst (-1), 1) := by decide +kernel
theorem dX6_ifSet_31 : decode cX6_ifSet 31 = .ok (.ireturn, 1) := by decide +kernel
theorem dX6_ifSet_32 : decode cX6_ifSet 32 = .ok (.aload_n 0, 1) := by decide +kernel
theorem dX6_ifSet_33 : decode cX6_ifSet 33 = .ok (.getfield 13, 3) := by decide +kernel
theorem dX6_ifSet_36 : decode cX6_ifSet 36 = .ok (.iload_n 1, 1) := by decide +kernel
theorem dX6_ifSet_37 : decode cX6_ifSet 37 = .ok (.iaload, 1) := by decide +kernel
theorem dX6_ifSet_38 : decode cX6_ifSet 38 = .ok (.istore 5, 2) := by decide +kernel
theorem dX6_ifSet_40 : decode cX6_ifSet 40 = .ok (.aload_n 0, 1) := by decide +kernel
theorem dX6_ifSet_41 : decode cX6_ifSet 41 = .ok (.getfield 13, 3) := by decide +kernel
theorem dX6_ifSet_44 : decode cX6_ifSet 44 = .ok (.iload_n 1, 1) := by decide +kernel
theorem dX6_ifSet_45 : decode cX6_ifSet 45 = .ok (.iload_n 2, 1) := by decide +kernel
theorem dX6_ifSet_46 : decode cX6_ifSet 46 = .ok (.iastore, 1) := by decide +kernel
theorem dX6_ifSet_47 : decode cX6_ifSet 47 = .ok (.aload_n 0, 1) := by decide +kernel
theorem dX6_ifSet_48 : decode cX6_ifSet 48 = .ok (.iload_n 3, 1) := by decide +kernel
theorem dX6_ifSet_49 : decode cX6_ifSet 49 = .ok (.iload 4, 2) := by decide +kernel
theorem dX6_ifSet_51 : decode cX6_ifSet 51 = .ok (.invokevirtual 260, 3) := by decide +kernel
theorem dX6_ifSet_54 : decode cX6_ifSet 54 = .ok (.istore 6, 2) := by decide +kernel
theorem dX6_ifSet_56 : decode cX6_ifSet 56 = .ok (.aload_n 0, 1) := by decide +kernel
theorem dX6_ifSet_57 : decode cX6_ifSet 57 = .ok (.getfield 13, 3) := by decide +kernel
theorem dX6_ifSet_60 : decode cX6_ifSet 60 = .ok (.iload_n 1, 1) := by decide +kernel
theorem dX6_ifSet_61 : decode cX6_ifSet 61 = .ok (.iload 5, 2) := by decide +kernel
theorem dX6_ifSet_63 : decode cX6_ifSet 63 = .ok (.iastore, 1) := by decide +kernel
theorem dX6_ifSet_64 : decode cX6_ifSet 64 = .ok (.iload 6, 2) := by decide +kernel
theorem dX6_ifSet_66 : decode cX6_ifSet 66 = .ok (.ireturn, 1) := by decide +kernel
set_option maxRecDepth 20000 in
theorem ggX6_ifOut_X6_isSpan : GoodIn wsX6_ifOut wsX6_isSpan := goodIn_r _ [7, 8, 27, 28, 29, 30, 31, 32, 33, 34, 35, 36, 37, 38, 39, 40, 41, 42, 43, 44, 45, 46, 47, 48, 49, 50, 51, 52, 53, 54, 55, 56, 57, 58, 59, 60, 61, 62, 63, 64, 65, 66, 67, 68] rfl (by decide +kernel)
set_option maxRecDepth 20000 in
theorem gX6_ifOut_X6_isSpan : GoodIn wsX6_ifOut (wsV RX6 232 RX6 yX6_isSpan wsX6_isSpan) := goodIn_app (goodIn_r _ [3, 4, 5, 6] rfl (by decide +kernel)) ggX6_ifOut_X6_isSpan
set_option maxRecDepth 20000 in
theorem ggX6_ifOut_X6_counts : GoodIn wsX6_ifOut wsX6_counts := goodIn_r _ [12, 13, 14, 15, 16, 17, 18, 27, 28, 29, 30, 31, 32, 33, 34, 35, 36, 37, 38, 39, 40, 41, 42, 43, 44, 45, 46, 47, 48, 49, 50, 51, 52, 53, 54, 55, 56, 57, 58, 59, 60, 61, 62, 63, 64, 65, 66, 67, 68] rfl (by decide +kernel)
set_option maxRecDepth 20000 in
theorem gX6_ifOut_X6_counts : GoodIn wsX6_ifOut (wsV RX6 252 RX6 yX6_counts wsX6_counts) := goodIn_app (goodIn_r _ [9, 10, 11, 6] rfl (by decide +kernel)) ggX6_ifOut_X6_counts
set_option maxRecDepth 20000 in
theorem ggX6_ifOut_X6_modeBy : GoodIn wsX6_ifOut wsX6_modeBy := goodIn_r _ [22, 14, 17, 23, 24, 25, 6, 26, 13, 16, 18, 27, 28, 29, 30, 31, 32, 33, 34, 35, 36, 37, 38, 39, 40, 41, 42, 43, 44, 45, 46, 47, 48, 49, 50, 51, 52, 53, 54, 55, 56, 57, 58, 59, 60, 61, 62, 63, 64, 65, 66, 67, 68] rfl (by decide +kernel)
set_option maxRecDepth 20000 in
theorem gX6_ifOut_X6_modeBy : GoodIn wsX6_ifOut (wsV RX6 256 RX6 yX6_modeBy wsX6_modeBy) := goodIn_app (goodIn_r _ [19, 20, 21, 6] rfl (by decide +kernel)) ggX6_ifOut_X6_modeBy
theorem dX6_ifOut_0 : decode cX6_ifOut 0 = .ok (.aload_n 0, 1) := by decide +kernel
theorem dX6_ifOut_1 : decode cX6_ifOut 1 = .ok (.iconst 0, 1) := by decide +kernel
theorem dX6_ifOut_2 : decode cX6_ifOut 2 = .ok (.putfield 72, 3) := by decide +kernel
theorem dX6_ifOut_5 : decode cX6_ifOut 5 = .ok (.aload_n 0, 1) := by decide +kernel
theorem dX6_ifOut_6 : decode cX6_ifOut 6 = .ok (.iload_n 2, 1) := by decide +kernel
theorem dX6_ifOut_7 : decode cX6_ifOut 7 = .ok (.iload_n 3, 1) := by decide +kernel
theorem dX6_ifOut_8 : decode cX6_ifOut 8 = .ok (.invokevirtual 232, 3) := by decide +kernel
theorem dX6_ifOut_11 : decode cX6_ifOut 11 = .ok (.ifCond .eq 13, 3) := by decide +kernel
theorem dX6_ifOut_14 : decode cX6_ifOut 14 = .ok (.iload_n 1, 1) := by decide +kernel
theorem dX6_ifOut_15 : decode cX6_ifOut 15 = .ok (.iload_n 2, 1) := by decide +kernel
theorem dX6_ifOut_16 : decode cX6_ifOut 16 = .ok (.if_icmp .lt 8, 3) := by decide +kernel
theorem dX6_ifOut_19 : decode cX6_ifOut 19 = .ok (.iload_n 1, 1) := by decide +kernel
theorem dX6_ifOut_20 : decode cX6_ifOut 20 = .ok (.iload_n 3, 1) := by decide +kernel
theorem dX6_ifOut_21 : decode cX6_ifOut 21 = .ok (.if_icmp .le 5, 3) := by decide +kernel
theorem dX6_ifOut_24 : decode cX6_ifOut 24 = .ok (.iconst (-1), 1) := by decide +kernel
theorem dX6_ifOut_25 : decode cX6_ifOut 25 = .ok (.ireturn, 1) := by decide +kernel
theorem dX6_ifOut_26 : decode cX6_ifOut 26 = .ok (.aload_n 0, 1) := by decide +kernel
theorem dX6_ifOut_27 : decode cX6_ifOut 27 = .ok (.iload_n 2, 1) := by decide +kernel
theorem dX6_ifOut_28 : decode cX6_ifOut 28 = .ok (.iload_n 3, 1) := by decide +kernel
theorem dX6_ifOut_29 : decode cX6_ifOut 29 = .ok (.iload_n 1, 1) := by decide +kernel
theorem dX6_ifOut_30 : decode cX6_ifOut 30 = .ok (.invokevirtual 252, 3) := by decide +kernel
theorem dX6_ifOut_33 : decode cX6_ifOut 33 = .ok (.aload_n 0, 1) := by decide +kernel
theorem dX6_ifOut_34 : decode cX6_ifOut 34 = .ok (.aload_n 0, 1) := by decide +kernel
theorem dX6_ifOut_35 : decode cX6_ifOut 35 = .ok (.getfield 178, 3) := by decide +kernel
theorem dX6_ifOut_38 : decode cX6_ifOut 38 = .ok (.invokevirtual 256, 3) := by decide +kernel
theorem dX6_ifOut_41 : decode cX6_ifOut 41 = .ok (.istore 4, 2) := by decide +kernel
theorem dX6_ifOut_43 : decode cX6_ifOut 43 = .ok (.iload 4, 2) := by decide +kernel
theorem dX6_ifOut_45 : decode cX6_ifOut 45 = .ok (.iconst (-1), 1) := by decide +kernel
theorem dX6_ifOut_46 : decode cX6_ifOut 46 = .ok (.if_icmp .ne 8, 3) := by decide +kernel
theorem dX6_ifOut_49 : decode cX6_ifOut 49 = .ok (.bipush (-2), 2) := by decide +kernel
theorem dX6_ifOut_51 : decode cX6_ifOut 51 = .ok (.goto 5, 3) := by decide +kernel
theorem dX6_ifOut_54 : decode cX6_ifOut 54 = .ok (.iload 4, 2) := by decide +kernel
theorem dX6_ifOut_56 : decode cX6_ifOut 56 = .ok (.ireturn, 1) := by decide +kernel
set_option maxRecDepth 20000 in
theorem ggX6_ifTies_X6_isSpan : GoodIn wsX6_ifTies wsX6_isSpan := goodIn_r _ [6, 7, 26, 27, 28, 29, 30, 31, 32, 33, 34, 35, 36, 37, 38, 39, 40, 41, 42, 43, 44, 45, 46, 47, 48, 49, 50, 51, 52, 53, 54, 55, 56, 57, 58, 59, 60, 61, 62, 63, 64, 65, 66, 67] rfl (by decide +kernel)
set_option maxRecDepth 20000 in
theorem gX6_ifTies_X6_isSpan : GoodIn wsX6_ifTies (wsV RX6 232 RX6 yX6_isSpan wsX6_isSpan) := goodIn_app (goodIn_r _ [2, 3, 4, 5] rfl (by decide +kernel)) ggX6_ifTies_X6_isSpan
set_option maxRecDepth 20000 in
theorem ggX6_ifTies_X6_counts : GoodIn wsX6_ifTies wsX6_counts := goodIn_r _ [11, 12, 13, 14, 15, 16, 17, 26, 27, 28, 29, 30, 31, 32, 33, 34, 35, 36, 37, 38, 39, 40, 41, 42, 43, 44, 45, 46, 47, 48, 49, 50, 51, 52, 53, 54, 55, 56, 57, 58, 59, 60, 61, 62, 63, 64, 65, 66, 67] rfl (by decide +kernel)
set_option maxRecDepth 20000 in
theorem gX6_ifTies_X6_counts : GoodIn wsX6_ifTies (wsV RX6 252 RX6 yX6_counts wsX6_counts) := goodIn_app (goodIn_r _ [8, 9, 10, 5] rfl (by decide +kernel)) ggX6_ifTies_X6_counts
set_option maxRecDepth 20000 in
theorem ggX6_ifTies_X6_modeBy : GoodIn wsX6_ifTies wsX6_modeBy := goodIn_r _ [21, 13, 16, 22, 23, 24, 5, 25, 12, 15, 17, 26, 27, 28, 29, 30, 31, 32, 33, 34, 35, 36, 37, 38, 39, 40, 41, 42, 43, 44, 45, 46, 47, 48, 49, 50, 51, 52, 53, 54, 55, 56, 57, 58, 59, 60, 61, 62, 63, 64, 65, 66, 67] rfl (by decide +kernel)
set_option maxRecDepth 20000 in
theorem gX6_ifTies_X6_modeBy : GoodIn wsX6_ifTies (wsV RX6 256 RX6 yX6_modeBy wsX6_modeBy) := goodIn_app (goodIn_r _ [18, 19, 20, 5] rfl (by decide +kernel)) ggX6_ifTies_X6_modeBy
theorem dX6_ifTies_0 : decode cX6_ifTies 0 = .ok (.aload_n 0, 1) := by decide +kernel
theorem dX6_ifTies_1 : decode cX6_ifTies 1 = .ok (.iconst 0, 1) := by decide +kernel
theorem dX6_ifTies_2 : decode cX6_ifTies 2 = .ok (.putfield 72, 3) := by decide +kernel
theorem dX6_ifTies_5 : decode cX6_ifTies 5 = .ok (.iload_n 1, 1) := by decide +kernel
theorem dX6_ifTies_6 : decode cX6_ifTies 6 = .ok (.ifCond .lt 17, 3) := by decide +kernel
theorem dX6_ifTies_9 : decode cX6_ifTies 9 = .ok (.iload_n 1, 1) := by decide +kernel
theorem dX6_ifTies_10 : decode cX6_ifTies 10 = .ok (.iconst 3, 1) := by decide +kernel
theorem dX6_ifTies_11 : decode cX6_ifTies 11 = .ok (.if_icmp .gt 12, 3) := by decide +kernel
theorem dX6_ifTies_14 : decode cX6_ifTies 14 = .ok (.aload_n 0, 1) := by decide +kernel
theorem dX6_ifTies_15 : decode cX6_ifTies 15 = .ok (.iload_n 2, 1) := by decide +kernel
theorem dX6_ifTies_16 : decode cX6_ifTies 16 = .ok (.iload_n 3, 1) := by decide +kernel
theorem dX6_ifTies_17 : decode cX6_ifTies 17 = .ok (.invokevirtual 232, 3) := by decide +kernel
theorem dX6_ifTies_20 : decode cX6_ifTies 20 = .ok (.ifCond .ne 5, 3) := by decide +kernel
theorem dX6_ifTies_23 : decode cX6_ifTies 23 = .ok (.iconst (-1), 1) := by decide +kernel
theorem dX6_ifTies_24 : decode cX6_ifTies 24 = .ok (.ireturn, 1) := by decide +kernel
theorem dX6_ifTies_25 : decode cX6_ifTies 25 = .ok (.aload_n 0, 1) := by decide +kernel
theorem dX6_ifTies_26 : decode cX6_ifTies 26 = .ok (.iload_n 2, 1) := by decide +kernel
theorem dX6_ifTies_27 : decode cX6_ifTies 27 = .ok (.iload_n 3, 1) := by decide +kernel
theorem dX6_ifTies_28 : decode cX6_ifTies 28 = .ok (.iconst (-1), 1) := by decide +kernel
theorem dX6_ifTies_29 : decode cX6_ifTies 29 = .ok (.invokevirtual 252, 3) := by decide +kernel
theorem dX6_ifTies_32 : decode cX6_ifTies 32 = .ok (.aload_n 0, 1) := by decide +kernel
theorem dX6_ifTies_33 : decode cX6_ifTies 33 = .ok (.iload_n 1, 1) := by decide +kernel
theorem dX6_ifTies_34 : decode cX6_ifTies 34 = .ok (.invokevirtual 256, 3) := by decide +kernel
theorem dX6_ifTies_37 : decode cX6_ifTies 37 = .ok (.ireturn, 1) := by decide +kernel
set_option maxRecDepth 20000 in
theorem ggX6_part_X6_majorityOf : GoodIn wsX6_part wsX6_majorityOf := goodIn_r _ [8, 9, 10, 11, 12, 7, 13, 14, 15, 16, 17, 18, 19, 20, 21, 22, 23, 24, 25, 26, 27, 28, 29, 30, 31, 32, 33, 34, 35, 36, 37, 38, 39, 40, 41, 42, 43, 44, 45, 46, 47, 48, 49, 50, 51, 52, 53, 54, 55, 56, 57, 58, 59, 60, 61, 62, 63, 64, 65, 66, 67, 68, 69, 70, 71, 72, 73] rfl (by decide +kernel)
set_option maxRecDepth 20000 in
theorem gX6_part_X6_majorityOf : GoodIn wsX6_part (wsV RX6 269 RX6 yX6_majorityOf wsX6_majorityOf) := goodIn_app (goodIn_r _ [4, 5, 6, 7] rfl (by decide +kernel)) ggX6_part_X6_majorityOf
theorem dX6_part_0 : decode cX6_part 0 = .ok (.aload_n 0, 1) := by decide +kernel
theorem dX6_part_1 : decode cX6_part 1 = .ok (.iconst 0, 1) := by decide +kernel
theorem dX6_part_2 : decode cX6_part 2 = .ok (.putfield 72, 3) := by decide +kernel
theorem dX6_part_5 : decode cX6_part 5 = .ok (.iload_n 1, 1) := by decide +kernel
theorem dX6_part_6 : decode cX6_part 6 = .ok (.iconst (-1), 1) := by decide +kernel
theorem dX6_part_7 : decode cX6_part 7 = .ok (.if_icmp .ge 5, 3) := by decide +kernel
theorem dX6_part_10 : decode cX6_part 10 = .ok (.iconst (-1), 1) := by decide +kernel
theorem dX6_part_11 : decode cX6_part 11 = .ok (.ireturn, 1) := by decide +kernel
theorem dX6_part_12 : decode cX6_part 12 = .ok (.aload_n 0, 1) := by decide +kernel
theorem dX6_part_13 : decode cX6_part 13 = .ok (.getfield 66, 3) := by decide +kernel
theorem dX6_part_16 : decode cX6_part 16 = .ok (.aload_n 0, 1) := by decide +kernel
theorem dX6_part_17 : decode cX6_part 17 = .ok (.getfield 175, 3) := by decide +kernel
theorem dX6_part_20 : decode cX6_part 20 = .ok (.iconst 0, 1) := by decide +kernel
theorem dX6_part_21 : decode cX6_part 21 = .ok (.iastore, 1) := by decide +kernel
theorem dX6_part_22 : decode cX6_part 22 = .ok (.aload_n 0, 1) := by decide +kernel
theorem dX6_part_23 : decode cX6_part 23 = .ok (.getfield 175, 3) := by decide +kernel
theorem dX6_part_26 : decode cX6_part 26 = .ok (.iconst 1, 1) := by decide +kernel
theorem dX6_part_27 : decode cX6_part 27 = .ok (.isub, 1) := by decide +kernel
theorem dX6_part_28 : decode cX6_part 28 = .ok (.istore_n 2, 1) := by decide +kernel
theorem dX6_part_29 : decode cX6_part 29 = .ok (.iload_n 2, 1) := by decide +kernel
theorem dX6_part_30 : decode cX6_part 30 = .ok (.ifCond .lt 78, 3) := by decide +kernel
theorem dX6_part_33 : decode cX6_part 33 = .ok (.aload_n 0, 1) := by decide +kernel
theorem dX6_part_34 : decode cX6_part 34 = .ok (.getfield 66, 3) := by decide +kernel
theorem dX6_part_37 : decode cX6_part 37 = .ok (.iload_n 2, 1) := by decide +kernel
theorem dX6_part_38 : decode cX6_part 38 = .ok (.bipush 121, 2) := by decide +kernel
theorem dX6_part_40 : decode cX6_part 40 = .ok (.iastore, 1) := by decide +kernel
theorem dX6_part_41 : decode cX6_part 41 = .ok (.iload_n 2, 1) := by decide +kernel
theorem dX6_part_42 : decode cX6_part 42 = .ok (.istore_n 3, 1) := by decide +kernel
theorem dX6_part_43 : decode cX6_part 43 = .ok (.iload_n 3, 1) := by decide +kernel
theorem dX6_part_44 : decode cX6_part 44 = .ok (.aload_n 0, 1) := by decide +kernel
theorem dX6_part_45 : decode cX6_part 45 = .ok (.getfield 175, 3) := by decide +kernel
theorem dX6_part_48 : decode cX6_part 48 = .ok (.if_icmp .ge 54, 3) := by decide +kernel
theorem dX6_part_51 : decode cX6_part 51 = .ok (.aload_n 0, 1) := by decide +kernel
theorem dX6_part_52 : decode cX6_part 52 = .ok (.getfield 66, 3) := by decide +kernel
theorem dX6_part_55 : decode cX6_part 55 = .ok (.iload_n 3, 1) := by decide +kernel
theorem dX6_part_56 : decode cX6_part 56 = .ok (.iconst 1, 1) := by decide +kernel
theorem dX6_part_57 : decode cX6_part 57 = .ok (.iadd, 1) := by decide +kernel
theorem dX6_part_58 : decode cX6_part 58 = .ok (.iaload, 1) := by decide +kernel
theorem dX6_part_59 : decode cX6_part 59 = .ok (.iconst 1, 1) := by decide +kernel
theorem dX6_part_60 : decode cX6_part 60 = .ok (.iadd, 1) := by decide +kernel
theorem dX6_part_61 : decode cX6_part 61 = .ok (.aload_n 0, 1) := by decide +kernel
theorem dX6_part_62 : decode cX6_part 62 = .ok (.getfield 66, 3) := by decide +kernel
theorem dX6_part_65 : decode cX6_part 65 = .ok (.iload_n 2, 1) := by decide +kernel
theorem dX6_part_66 : decode cX6_part 66 = .ok (.iaload, 1) := by decide +kernel
theorem dX6_part_67 : decode cX6_part 67 = .ok (.if_icmp .ge 29, 3) := by decide +kernel
theorem dX6_part_70 : decode cX6_part 70 = .ok (.aload_n 0, 1) := by decide +kernel
theorem dX6_part_71 : decode cX6_part 71 = .ok (.iload_n 2, 1) := by decide +kernel
theorem dX6_part_72 : decode cX6_part 72 = .ok (.iload_n 3, 1) := by decide +kernel
theorem dX6_part_73 : decode cX6_part 73 = .ok (.invokevirtual 269, 3) := by decide +kernel
theorem dX6_part_76 : decode cX6_part 76 = .ok (.iconst (-1), 1) := by decide +kernel
theorem dX6_part_77 : decode cX6_part 77 = .ok (.if_icmp .eq 19, 3) := by decide +kernel
theorem dX6_part_80 : decode cX6_part 80 = .ok (.aload_n 0, 1) := by decide +kernel
theorem dX6_part_81 : decode cX6_part 81 = .ok (.getfield 66, 3) := by decide +kernel
theorem dX6_part_84 : decode cX6_part 84 = .ok (.iload_n 2, 1) := by decide +kernel
theorem dX6_part_85 : decode cX6_part 85 = .ok (.aload_n 0, 1) := by decide +kernel
theorem dX6_part_86 : decode cX6_part 86 = .ok (.getfield 66, 3) := by decide +kernel
theorem dX6_part_89 : decode cX6_part 89 = .ok (.iload_n 3, 1) := by decide +kernel
theorem dX6_part_90 : decode cX6_part 90 = .ok (.iconst 1, 1) := by decide +kernel
theorem dX6_part_91 : decode cX6_part 91 = .ok (.iadd, 1) := by decide +kernel
theorem dX6_part_92 : decode cX6_part 92 = .ok (.iaload, 1) := by decide +kernel
theorem dX6_part_93 : decode cX6_part 93 = .ok (.iconst 1, 1) := by decide +kernel
theorem dX6_part_94 : decode cX6_part 94 = .ok (.iadd, 1) := by decide +kernel
theorem dX6_part_95 : decode cX6_part 95 = .ok (.iastore, 1) := by decide +kernel
theorem dX6_part_96 : decode cX6_part 96 = .ok (.iinc 3 1, 3) := by decide +kernel
theorem dX6_part_99 : decode cX6_part 99 = .ok (.goto (-56), 3) := by decide +kernel
theorem dX6_part_102 : decode cX6_part 102 = .ok (.iinc 2 (-1), 3) := by decide +kernel
theorem dX6_part_105 : decode cX6_part 105 = .ok (.goto (-76), 3) := by decide +kernel
theorem dX6_part_108 : decode cX6_part 108 = .ok (.iload_n 1, 1) := by decide +kernel
theorem dX6_part_109 : decode cX6_part 109 = .ok (.iconst (-1), 1) := by decide +kernel
theorem dX6_part_110 : decode cX6_part 110 = .ok (.if_icmp .ne 10, 3) := by decide +kernel
theorem dX6_part_113 : decode cX6_part 113 = .ok (.aload_n 0, 1) := by decide +kernel
theorem dX6_part_114 : decode cX6_part 114 = .ok (.getfield 66, 3) := by decide +kernel
theorem dX6_part_117 : decode cX6_part 117 = .ok (.iconst 0, 1) := by decide +kernel
theorem dX6_part_118 : decode cX6_part 118 = .ok (.iaload, 1) := by decide +kernel
theorem dX6_part_119 : decode cX6_part 119 = .ok (.ireturn, 1) := by decide +kernel
theorem dX6_part_120 : decode cX6_part 120 = .ok (.iconst 0, 1) := by decide +kernel
theorem dX6_part_121 : decode cX6_part 121 = .ok (.istore_n 2, 1) := by decide +kernel
theorem dX6_part_122 : decode cX6_part 122 = .ok (.iconst 0, 1) := by decide +kernel
theorem dX6_part_123 : decode cX6_part 123 = .ok (.istore_n 3, 1) := by decide +kernel
theorem dX6_part_124 : decode cX6_part 124 = .ok (.iload_n 3, 1) := by decide +kernel
theorem dX6_part_125 : decode cX6_part 125 = .ok (.iload_n 1, 1) := by decide +kernel
theorem dX6_part_126 : decode cX6_part 126 = .ok (.if_icmp .ge 62, 3) := by decide +kernel
theorem dX6_part_129 : decode cX6_part 129 = .ok (.iload_n 2, 1) := by decide +kernel
theorem dX6_part_130 : decode cX6_part 130 = .ok (.aload_n 0, 1) := by decide +kernel
theorem dX6_part_131 : decode cX6_part 131 = .ok (.getfield 175, 3) := by decide +kernel
theorem dX6_part_134 : decode cX6_part 134 = .ok (.if_icmp .ge 54, 3) := by decide +kernel
theorem dX6_part_137 : decode cX6_part 137 = .ok (.iload_n 2, 1) := by decide +kernel
theorem dX6_part_138 : decode cX6_part 138 = .ok (.istore 4, 2) := by decide +kernel
theorem dX6_part_140 : decode cX6_part 140 = .ok (.aload_n 0, 1) := by decide +kernel
theorem dX6_part_141 : decode cX6_part 141 = .ok (.getfield 66, 3) := by decide +kernel
theorem dX6_part_144 : decode cX6_part 144 = .ok (.iload 4, 2) := by decide +kernel
theorem dX6_part_146 : decode cX6_part 146 = .ok (.iconst 1, 1) := by decide +kernel
theorem dX6_part_147 : decode cX6_part 147 = .ok (.iadd, 1) := by decide +kernel
theorem dX6_part_148 : decode cX6_part 148 = .ok (.iaload, 1) := by decide +kernel
theorem dX6_part_149 : decode cX6_part 149 = .ok (.iconst 1, 1) := by decide +kernel
theorem dX6_part_150 : decode cX6_part 150 = .ok (.iadd, 1) := by decide +kernel
theorem dX6_part_151 : decode cX6_part 151 = .ok (.aload_n 0, 1) := by decide +kernel
theorem dX6_part_152 : decode cX6_part 152 = .ok (.getfield 66, 3) := by decide +kernel
theorem dX6_part_155 : decode cX6_part 155 = .ok (.iload_n 2, 1) := by decide +kernel
theorem dX6_part_156 : decode cX6_part 156 = .ok (.iaload, 1) := by decide +kernel
theorem dX6_part_157 : decode cX6_part 157 = .ok (.if_icmp .ne 14, 3) := by decide +kernel
theorem dX6_part_160 : decode cX6_part 160 = .ok (.aload_n 0, 1) := by decide +kernel
theorem dX6_part_161 : decode cX6_part 161 = .ok (.iload_n 2, 1) := by decide +kernel
theorem dX6_part_162 : decode cX6_part 162 = .ok (.iload 4, 2) := by decide +kernel
theorem dX6_part_164 : decode cX6_part 164 = .ok (.invokevirtual 269, 3) := by decide +kernel
theorem dX6_part_167 : decode cX6_part 167 = .ok (.iconst (-1), 1) := by decide +kernel
theorem dX6_part_168 : decode cX6_part 168 = .ok (.if_icmp .ne 9, 3) := by decide +kernel
theorem dX6_part_171 : decode cX6_part 171 = .ok (.iinc 4 1, 3) := by decide +kernel
theorem dX6_part_174 : decode cX6_part 174 = .ok (.goto (-34), 3) := by decide +kernel
theorem dX6_part_177 : decode cX6_part 177 = .ok (.iload 4, 2) := by decide +kernel
theorem dX6_part_179 : decode cX6_part 179 = .ok (.iconst 1, 1) := by decide +kernel
theorem dX6_part_180 : decode cX6_part 180 = .ok (.iadd, 1) := by decide +kernel
theorem dX6_part_181 : decode cX6_part 181 = .ok (.istore_n 2, 1) := by decide +kernel
theorem dX6_part_182 : decode cX6_part 182 = .ok (.iinc 3 1, 3) := by decide +kernel
theorem dX6_part_185 : decode cX6_part 185 = .ok (.goto (-61), 3) := by decide +kernel
theorem dX6_part_188 : decode cX6_part 188 = .ok (.iload_n 2, 1) := by decide +kernel
theorem dX6_part_189 : decode cX6_part 189 = .ok (.aload_n 0, 1) := by decide +kernel
theorem dX6_part_190 : decode cX6_part 190 = .ok (.getfield 175, 3) := by decide +kernel
theorem dX6_part_193 : decode cX6_part 193 = .ok (.if_icmp .ge 7, 3) := by decide +kernel
theorem dX6_part_196 : decode cX6_part 196 = .ok (.iload_n 2, 1) := by decide +kernel
theorem dX6_part_197 : decode cX6_part 197 = .ok (.goto 5, 3) := by decide +kernel
theorem dX6_part_200 : decode cX6_part 200 = .ok (.bipush (-2), 2) := by decide +kernel
theorem dX6_part_202 : decode cX6_part 202 = .ok (.ireturn, 1) := by decide +kernel
set_option maxRecDepth 20000 in
theorem ggX6_count_X6_blocks : GoodIn wsX6_count wsX6_blocks := goodIn_r _ [12, 2, 3, 32, 33, 34, 35, 36, 37, 38, 39, 40, 41, 42, 43, 44, 45, 46, 47, 48, 49, 50, 51, 52, 53, 54, 55, 56, 57, 58, 59, 60, 61, 62, 63, 64, 65, 66, 67, 68, 69, 70, 71, 72, 73] rfl (by decide +kernel)
set_option maxRecDepth 20000 in
theorem gX6_count_X6_blocks : GoodIn wsX6_count (wsV RX6 275 RX6 yX6_blocks wsX6_blocks) := goodIn_app (goodIn_r _ [8, 9, 10, 11] rfl (by decide +kernel)) ggX6_count_X6_blocks
set_option maxRecDepth 20000 in
theorem ggX6_count_X6_unlikeOf : GoodIn wsX6_count wsX6_unlikeOf := goodIn_r _ [16, 2, 17, 18, 19, 20, 11, 21, 22, 23, 24, 25, 26, 32, 33, 34, 35, 36, 37, 38, 39, 40, 41, 42, 43, 44, 45, 46, 47, 48, 49, 50, 51, 52, 53, 54, 55, 56, 57, 58, 59, 60, 61, 62, 63, 64, 65, 66, 67, 68, 69, 70, 71, 72, 73] rfl (by decide +kernel)
set_option maxRecDepth 20000 in
theorem gX6_count_X6_unlikeOf : GoodIn wsX6_count (wsV RX6 290 RX6 yX6_unlikeOf wsX6_unlikeOf) := goodIn_app (goodIn_r _ [13, 14, 15, 11] rfl (by decide +kernel)) ggX6_count_X6_unlikeOf
set_option maxRecDepth 20000 in
theorem ggX6_count_X6_weightsIn : GoodIn wsX6_count wsX6_weightsIn := goodIn_r _ [30, 2, 31, 32, 33, 34, 35, 36, 37, 38, 39, 40, 41, 42, 43, 44, 45, 46, 47, 48, 49, 50, 51, 52, 53, 54, 55, 56, 57, 58, 59, 60, 61, 62, 63, 64, 65, 66, 67, 68, 69, 70, 71, 72, 73] rfl (by decide +kernel)
set_option maxRecDepth 20000 in
theorem gX6_count_X6_weightsIn : GoodIn wsX6_count (wsV RX6 293 RX6 yX6_weightsIn wsX6_weightsIn) := goodIn_app (goodIn_r _ [27, 28, 29, 11] rfl (by decide +kernel)) ggX6_count_X6_weightsIn
theorem dX6_count_0 : decode cX6_count 0 = .ok (.aload_n 0, 1) := by decide +kernel
theorem dX6_count_1 : decode cX6_count 1 = .ok (.iconst 0, 1) := by decide +kernel
theorem dX6_count_2 : decode cX6_count 2 = .ok (.putfield 72, 3) := by decide +kernel
theorem dX6_count_5 : decode cX6_count 5 = .ok (.iload_n 1, 1) := by decide +kernel
theorem dX6_count_6 : decode cX6_count 6 = .ok (.tableswitch 95 0 8 #[50, 55, 60, 65, 70, 75, 80, 85, 90], 50) := by decide +kernel
theorem dX6_count_56 : decode cX6_count 56 = .ok (.aload_n 0, 1) := by decide +kernel
theorem dX6_count_57 : decode cX6_count 57 = .ok (.getfield 175, 3) := by decide +kernel
theorem dX6_count_60 : decode cX6_count 60 = .ok (.ireturn, 1) := by decide +kernel
theorem dX6_count_61 : decode cX6_count 61 = .ok (.aload_n 0, 1) := by decide +kernel
theorem dX6_count_62 : decode cX6_count 62 = .ok (.getfield 69, 3) := by decide +kernel
theorem dX6_count_65 : decode cX6_count 65 = .ok (.ireturn, 1) := by decide +kernel
theorem dX6_count_66 : decode cX6_count 66 = .ok (.aload_n 0, 1) := by decide +kernel
theorem dX6_count_67 : decode cX6_count 67 = .ok (.invokevirtual 275, 3) := by decide +kernel
theorem dX6_count_70 : decode cX6_count 70 = .ok (.ireturn, 1) := by decide +kernel
theorem dX6_count_71 : decode cX6_count 71 = .ok (.aload_n 0, 1) := by decide +kernel
theorem dX6_count_72 : decode cX6_count 72 = .ok (.getfield 178, 3) := by decide +kernel
theorem dX6_count_75 : decode cX6_count 75 = .ok (.ireturn, 1) := by decide +kernel
theorem dX6_count_76 : decode cX6_count 76 = .ok (.aload_n 0, 1) := by decide +kernel
theorem dX6_count_77 : decode cX6_count 77 = .ok (.getfield 181, 3) := by decide +kernel
theorem dX6_count_80 : decode cX6_count 80 = .ok (.ireturn, 1) := by decide +kernel
theorem dX6_count_81 : decode cX6_count 81 = .ok (.aload_n 0, 1) := by decide +kernel
theorem dX6_count_82 : decode cX6_count 82 = .ok (.invokevirtual 290, 3) := by decide +kernel
theorem dX6_count_85 : decode cX6_count 85 = .ok (.ireturn, 1) := by decide +kernel
theorem dX6_count_86 : decode cX6_count 86 = .ok (.aload_n 0, 1) := by decide +kernel
theorem dX6_count_87 : decode cX6_count 87 = .ok (.getfield 184, 3) := by decide +kernel
theorem dX6_count_90 : decode cX6_count 90 = .ok (.ireturn, 1) := by decide +kernel
theorem dX6_count_91 : decode cX6_count 91 = .ok (.aload_n 0, 1) := by decide +kernel
theorem dX6_count_92 : decode cX6_count 92 = .ok (.invokevirtual 293, 3) := by decide +kernel
theorem dX6_count_95 : decode cX6_count 95 = .ok (.ireturn, 1) := by decide +kernel
theorem dX6_count_96 : decode cX6_count 96 = .ok (.aload_n 0, 1) := by decide +kernel
theorem dX6_count_97 : decode cX6_count 97 = .ok (.getfield 75, 3) := by decide +kernel
theorem dX6_count_100 : decode cX6_count 100 = .ok (.ireturn, 1) := by decide +kernel
theorem dX6_count_101 : decode cX6_count 101 = .ok (.iconst (-1), 1) := by decide +kernel
theorem dX6_count_102 : decode cX6_count 102 = .ok (.ireturn, 1) := by decide +kernel
set_option maxRecDepth 20000 in
theorem ggX6_unlikeOf_X6_counts : GoodIn wsX6_unlikeOf wsX6_counts := goodIn_r _ [7, 8, 2, 9, 10, 11, 12, 13, 14, 15, 16, 17, 18, 19, 20, 21, 22, 23, 24, 25, 26, 27, 28, 29, 30, 31, 32, 33, 34, 35, 36, 37, 38, 39, 40, 41, 42, 43, 44, 45, 46, 47, 48, 49, 50, 51, 52, 53, 54] rfl (by decide +kernel)
set_option maxRecDepth 20000 in
theorem gX6_unlikeOf_X6_counts : GoodIn wsX6_unlikeOf (wsV RX6 252 RX6 yX6_counts wsX6_counts) := goodIn_app (goodIn_r _ [3, 4, 5, 6] rfl (by decide +kernel)) ggX6_unlikeOf_X6_counts
theorem dX6_unlikeOf_0 : decode cX6_unlikeOf 0 = .ok (.aload_n 0, 1) := by decide +kernel
theorem dX6_unlikeOf_1 : decode cX6_unlikeOf 1 = .ok (.iconst 0, 1) := by decide +kernel
theorem dX6_unlikeOf_2 : decode cX6_unlikeOf 2 = .ok (.aload_n 0, 1) := by decide +kernel
theorem dX6_unlikeOf_3 : decode cX6_unlikeOf 3 = .ok (.getfield 175, 3) := by decide +kernel
theorem dX6_unlikeOf_6 : decode cX6_unlikeOf 6 = .ok (.iconst 1, 1) := by decide +kernel
theorem dX6_unlikeOf_7 : decode cX6_unlikeOf 7 = .ok (.isub, 1) := by decide +kernel
theorem dX6_unlikeOf_8 : decode cX6_unlikeOf 8 = .ok (.iconst (-1), 1) := by decide +kernel
theorem dX6_unlikeOf_9 : decode cX6_unlikeOf 9 = .ok (.invokevirtual 252, 3) := by decide +kernel
theorem dX6_unlikeOf_12 : decode cX6_unlikeOf 12 = .ok (.aload_n 0, 1) := by decide +kernel
theorem dX6_unlikeOf_13 : decode cX6_unlikeOf 13 = .ok (.getfield 242, 3) := by decide +kernel
theorem dX6_unlikeOf_16 : decode cX6_unlikeOf 16 = .ok (.ireturn, 1) := by decide +kernel
theorem dX6_weightsIn_0 : decode cX6_weightsIn 0 = .ok (.iconst 0, 1) := by decide +kernel
theorem dX6_weightsIn_1 : decode cX6_weightsIn 1 = .ok (.istore_n 1, 1) := by decide +kernel
theorem dX6_weightsIn_2 : decode cX6_weightsIn 2 = .ok (.iconst 0, 1) := by decide +kernel
theorem dX6_weightsIn_3 : decode cX6_weightsIn 3 = .ok (.istore_n 2, 1) := by decide +kernel
theorem dX6_weightsIn_4 : decode cX6_weightsIn 4 = .ok (.iload_n 2, 1) := by decide +kernel
theorem dX6_weightsIn_5 : decode cX6_weightsIn 5 = .ok (.aload_n 0, 1) := by decide +kernel
theorem dX6_weightsIn_6 : decode cX6_weightsIn 6 = .ok (.getfield 175, 3) := by decide +kernel
theorem dX6_weightsIn_9 : decode cX6_weightsIn 9 = .ok (.if_icmp .ge 18, 3) := by decide +kernel
theorem dX6_weightsIn_12 : decode cX6_weightsIn 12 = .ok (.iload_n 1, 1) := by decide +kernel
theorem dX6_weightsIn_13 : decode cX6_weightsIn 13 = .ok (.aload_n 0, 1) := by decide +kernel
theorem dX6_weightsIn_14 : decode cX6_weightsIn 14 = .ok (.getfield 16, 3) := by decide +kernel
theorem dX6_weightsIn_17 : decode cX6_weightsIn 17 = .ok (.iload_n 2, 1) := by decide +kernel
theorem dX6_weightsIn_18 : decode cX6_weightsIn 18 = .ok (.iaload, 1) := by decide +kernel
theorem dX6_weightsIn_19 : decode cX6_weightsIn 19 = .ok (.iadd, 1) := by decide +kernel
theorem dX6_weightsIn_20 : decode cX6_weightsIn 20 = .ok (.istore_n 1, 1) := by decide +kernel
theorem dX6_weightsIn_21 : decode cX6_weightsIn 21 = .ok (.iinc 2 1, 3) := by decide +kernel
theorem dX6_weightsIn_24 : decode cX6_weightsIn 24 = .ok (.goto (-20), 3) := by decide +kernel
theorem dX6_weightsIn_27 : decode cX6_weightsIn 27 = .ok (.iload_n 1, 1) := by decide +kernel
theorem dX6_weightsIn_28 : decode cX6_weightsIn 28 = .ok (.ireturn, 1) := by decide +kernel
