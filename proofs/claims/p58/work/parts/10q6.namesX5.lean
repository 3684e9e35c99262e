set_option maxRecDepth 20000 in
theorem ggX5_init_X4_init : GoodIn wsX5_init wsX4_init := goodIn_r _ [33, 34, 2, 3, 35, 36, 37, 38, 39, 40, 41, 42, 80, 81, 82, 83, 84, 85, 86] rfl (by decide +kernel)
set_option maxRecDepth 20000 in
theorem gX5_init_X4_init_n9 : GoodIn wsX5_init (wsX4_init) := ggX5_init_X4_init
set_option maxRecDepth 20000 in
theorem ggX5_init_X1_init : GoodIn wsX5_init wsX1_init := goodIn_r _ [44, 45, 2, 3, 46, 13, 14, 47, 48, 49, 50, 51, 52, 53, 54, 55, 56, 57, 26, 58, 59, 60, 107, 108, 109, 99, 100, 101, 102, 103, 104, 105, 106] rfl (by decide +kernel)
set_option maxRecDepth 20000 in
theorem gX5_init_X1_init_n18 : GoodIn wsX5_init (wsX1_init) := ggX5_init_X1_init
set_option maxRecDepth 20000 in
theorem ggX5_init_X2_init : GoodIn wsX5_init wsX2_init := goodIn_r _ [56, 57, 2, 3, 26, 58, 59, 60, 107, 108, 109] rfl (by decide +kernel)
set_option maxRecDepth 20000 in
theorem gX5_init_X2_init_n25 : GoodIn wsX5_init (wsX2_init) := ggX5_init_X2_init
set_option maxRecDepth 20000 in
theorem ggX5_init_X0_init : GoodIn wsX5_init wsX0_init := goodIn_r _ [63, 64, 2, 3, 65, 66, 67, 68, 13, 14, 55, 56, 57, 26, 58, 59, 60, 110, 111, 112, 107, 108, 109] rfl (by decide +kernel)
set_option maxRecDepth 20000 in
theorem gX5_init_X0_init : GoodIn wsX5_init (wsX0_init) := ggX5_init_X0_init
set_option maxRecDepth 20000 in
theorem ggX5_init_X3_init : GoodIn wsX5_init wsX3_init := goodIn_r _ [70, 71, 2, 3, 26, 72, 73, 74, 75, 76, 77, 78, 79, 113, 114, 115, 116, 117, 118, 119, 120] rfl (by decide +kernel)
set_option maxRecDepth 20000 in
theorem gX5_init_X3_init_n42 : GoodIn wsX5_init (wsX3_init) := ggX5_init_X3_init
theorem dX5_init_0 : decode cX5_init 0 = .ok (.aload_n 0, 1) := by decide +kernel
theorem dX5_init_1 : decode cX5_init 1 = .ok (.invokespecial 1, 3) := by decide +kernel
theorem dX5_init_4 : decode cX5_init 4 = .ok (.aload_n 0, 1) := by decide +kernel
theorem dX5_init_5 : decode cX5_init 5 = .ok (.new 7, 3) := by decide +kernel
theorem dX5_init_8 : decode cX5_init 8 = .ok (.dup, 1) := by decide +kernel
theorem dX5_init_9 : decode cX5_init 9 = .ok (.invokespecial 9, 3) := by decide +kernel
theorem dX5_init_12 : decode cX5_init 12 = .ok (.putfield 10, 3) := by decide +kernel
theorem dX5_init_15 : decode cX5_init 15 = .ok (.aload_n 0, 1) := by decide +kernel
theorem dX5_init_16 : decode cX5_init 16 = .ok (.new 16, 3) := by decide +kernel
theorem dX5_init_19 : decode cX5_init 19 = .ok (.dup, 1) := by decide +kernel
theorem dX5_init_20 : decode cX5_init 20 = .ok (.invokespecial 18, 3) := by decide +kernel
theorem dX5_init_23 : decode cX5_init 23 = .ok (.putfield 19, 3) := by decide +kernel
theorem dX5_init_26 : decode cX5_init 26 = .ok (.aload_n 0, 1) := by decide +kernel
theorem dX5_init_27 : decode cX5_init 27 = .ok (.new 23, 3) := by decide +kernel
theorem dX5_init_30 : decode cX5_init 30 = .ok (.dup, 1) := by decide +kernel
theorem dX5_init_31 : decode cX5_init 31 = .ok (.invokespecial 25, 3) := by decide +kernel
theorem dX5_init_34 : decode cX5_init 34 = .ok (.putfield 26, 3) := by decide +kernel
theorem dX5_init_37 : decode cX5_init 37 = .ok (.aload_n 0, 1) := by decide +kernel
theorem dX5_init_38 : decode cX5_init 38 = .ok (.new 23, 3) := by decide +kernel
theorem dX5_init_41 : decode cX5_init 41 = .ok (.dup, 1) := by decide +kernel
theorem dX5_init_42 : decode cX5_init 42 = .ok (.invokespecial 25, 3) := by decide +kernel
theorem dX5_init_45 : decode cX5_init 45 = .ok (.putfield 30, 3) := by decide +kernel
theorem dX5_init_48 : decode cX5_init 48 = .ok (.aload_n 0, 1) := by decide +kernel
theorem dX5_init_49 : decode cX5_init 49 = .ok (.new 33, 3) := by decide +kernel
theorem dX5_init_52 : decode cX5_init 52 = .ok (.dup, 1) := by decide +kernel
theorem dX5_init_53 : decode cX5_init 53 = .ok (.invokespecial 35, 3) := by decide +kernel
theorem dX5_init_56 : decode cX5_init 56 = .ok (.putfield 36, 3) := by decide +kernel
theorem dX5_init_59 : decode cX5_init 59 = .ok (.aload_n 0, 1) := by decide +kernel
theorem dX5_init_60 : decode cX5_init 60 = .ok (.new 40, 3) := by decide +kernel
theorem dX5_init_63 : decode cX5_init 63 = .ok (.dup, 1) := by decide +kernel
theorem dX5_init_64 : decode cX5_init 64 = .ok (.invokespecial 42, 3) := by decide +kernel
theorem dX5_init_67 : decode cX5_init 67 = .ok (.putfield 43, 3) := by decide +kernel
theorem dX5_init_70 : decode cX5_init 70 = .ok (.aload_n 0, 1) := by decide +kernel
theorem dX5_init_71 : decode cX5_init 71 = .ok (.new 40, 3) := by decide +kernel
theorem dX5_init_74 : decode cX5_init 74 = .ok (.dup, 1) := by decide +kernel
theorem dX5_init_75 : decode cX5_init 75 = .ok (.invokespecial 42, 3) := by decide +kernel
theorem dX5_init_78 : decode cX5_init 78 = .ok (.putfield 47, 3) := by decide +kernel
theorem dX5_init_81 : decode cX5_init 81 = .ok (.aload_n 0, 1) := by decide +kernel
theorem dX5_init_82 : decode cX5_init 82 = .ok (.bipush 121, 2) := by decide +kernel
theorem dX5_init_84 : decode cX5_init 84 = .ok (.newarray .int, 2) := by decide +kernel
theorem dX5_init_86 : decode cX5_init 86 = .ok (.putfield 50, 3) := by decide +kernel
theorem dX5_init_89 : decode cX5_init 89 = .ok (.aload_n 0, 1) := by decide +kernel
theorem dX5_init_90 : decode cX5_init 90 = .ok (.bipush 8, 2) := by decide +kernel
theorem dX5_init_92 : decode cX5_init 92 = .ok (.putfield 54, 3) := by decide +kernel
theorem dX5_init_95 : decode cX5_init 95 = .ok (.aload_n 0, 1) := by decide +kernel
theorem dX5_init_96 : decode cX5_init 96 = .ok (.iconst 0, 1) := by decide +kernel
theorem dX5_init_97 : decode cX5_init 97 = .ok (.putfield 58, 3) := by decide +kernel
theorem dX5_init_100 : decode cX5_init 100 = .ok (.aload_n 0, 1) := by decide +kernel
theorem dX5_init_101 : decode cX5_init 101 = .ok (.iconst 0, 1) := by decide +kernel
theorem dX5_init_102 : decode cX5_init 102 = .ok (.putfield 61, 3) := by decide +kernel
theorem dX5_init_105 : decode cX5_init 105 = .ok (.aload_n 0, 1) := by decide +kernel
theorem dX5_init_106 : decode cX5_init 106 = .ok (.bipush (-2), 2) := by decide +kernel
theorem dX5_init_108 : decode cX5_init 108 = .ok (.putfield 64, 3) := by decide +kernel
theorem dX5_init_111 : decode cX5_init 111 = .ok (.return_, 1) := by decide +kernel
set_option maxRecDepth 20000 in
theorem ggX5_feed_X4_put : GoodIn wsX5_feed wsX4_put := goodIn_r _ [7, 8, 9, 22, 23, 24, 25, 26, 27, 28] rfl (by decide +kernel)
set_option maxRecDepth 20000 in
theorem gX5_feed_X4_put : GoodIn wsX5_feed (wsV RX5 70 RX4 yX4_put wsX4_put) := goodIn_app (goodIn_r _ [3, 4, 5, 6] rfl (by decide +kernel)) ggX5_feed_X4_put
theorem dX5_feed_0 : decode cX5_feed 0 = .ok (.aload_n 0, 1) := by decide +kernel
theorem dX5_feed_1 : decode cX5_feed 1 = .ok (.getfield 10, 3) := by decide +kernel
theorem dX5_feed_4 : decode cX5_feed 4 = .ok (.getfield 67, 3) := by decide +kernel
theorem dX5_feed_7 : decode cX5_feed 7 = .ok (.bipush 20, 2) := by decide +kernel
theorem dX5_feed_9 : decode cX5_feed 9 = .ok (.iadd, 1) := by decide +kernel
theorem dX5_feed_10 : decode cX5_feed 10 = .ok (.sipush 900, 3) := by decide +kernel
theorem dX5_feed_13 : decode cX5_feed 13 = .ok (.if_icmp .le 5, 3) := by decide +kernel
theorem dX5_feed_16 : decode cX5_feed 16 = .ok (.iconst (-1), 1) := by decide +kernel
theorem dX5_feed_17 : decode cX5_feed 17 = .ok (.ireturn, 1) := by decide +kernel
theorem dX5_feed_18 : decode cX5_feed 18 = .ok (.aload_n 0, 1) := by decide +kernel
theorem dX5_feed_19 : decode cX5_feed 19 = .ok (.getfield 10, 3) := by decide +kernel
theorem dX5_feed_22 : decode cX5_feed 22 = .ok (.iload_n 1, 1) := by decide +kernel
theorem dX5_feed_23 : decode cX5_feed 23 = .ok (.invokevirtual 70, 3) := by decide +kernel
theorem dX5_feed_26 : decode cX5_feed 26 = .ok (.aload_n 0, 1) := by decide +kernel
theorem dX5_feed_27 : decode cX5_feed 27 = .ok (.getfield 10, 3) := by decide +kernel
theorem dX5_feed_30 : decode cX5_feed 30 = .ok (.iload_n 2, 1) := by decide +kernel
theorem dX5_feed_31 : decode cX5_feed 31 = .ok (.invokevirtual 70, 3) := by decide +kernel
theorem dX5_feed_34 : decode cX5_feed 34 = .ok (.aload_n 0, 1) := by decide +kernel
theorem dX5_feed_35 : decode cX5_feed 35 = .ok (.getfield 10, 3) := by decide +kernel
theorem dX5_feed_38 : decode cX5_feed 38 = .ok (.iload_n 3, 1) := by decide +kernel
theorem dX5_feed_39 : decode cX5_feed 39 = .ok (.invokevirtual 70, 3) := by decide +kernel
theorem dX5_feed_42 : decode cX5_feed 42 = .ok (.aload_n 0, 1) := by decide +kernel
theorem dX5_feed_43 : decode cX5_feed 43 = .ok (.getfield 10, 3) := by decide +kernel
theorem dX5_feed_46 : decode cX5_feed 46 = .ok (.iload 4, 2) := by decide +kernel
theorem dX5_feed_48 : decode cX5_feed 48 = .ok (.invokevirtual 70, 3) := by decide +kernel
theorem dX5_feed_51 : decode cX5_feed 51 = .ok (.aload_n 0, 1) := by decide +kernel
theorem dX5_feed_52 : decode cX5_feed 52 = .ok (.getfield 10, 3) := by decide +kernel
theorem dX5_feed_55 : decode cX5_feed 55 = .ok (.iload 5, 2) := by decide +kernel
theorem dX5_feed_57 : decode cX5_feed 57 = .ok (.invokevirtual 70, 3) := by decide +kernel
theorem dX5_feed_60 : decode cX5_feed 60 = .ok (.aload_n 0, 1) := by decide +kernel
theorem dX5_feed_61 : decode cX5_feed 61 = .ok (.getfield 10, 3) := by decide +kernel
theorem dX5_feed_64 : decode cX5_feed 64 = .ok (.getfield 67, 3) := by decide +kernel
theorem dX5_feed_67 : decode cX5_feed 67 = .ok (.ireturn, 1) := by decide +kernel
set_option maxRecDepth 20000 in
theorem ggX5_text_X1_read : GoodIn wsX5_text wsX1_read := goodIn_r _ [19, 20, 21, 22, 23, 24, 25, 26, 27, 28, 29, 30, 31, 32, 33, 34, 35, 36, 37, 38, 39, 40, 41, 42, 43, 44, 45, 46, 47, 48, 49, 50, 51, 52, 53, 54, 55, 56, 57, 58, 59, 60, 61, 62, 63, 64, 65, 66, 67, 68, 69, 18, 70, 71, 72, 73, 74, 75, 76, 77, 78, 79, 80, 81, 82, 83, 84, 85, 86, 87, 88, 89, 90, 91, 92, 93, 94, 95, 96, 97, 98, 99, 100, 101, 102, 103, 104, 105, 106, 107, 108, 109, 110, 111, 112, 113, 114, 115, 116, 117, 118, 119, 120, 121, 122, 123, 124, 125, 126, 127, 128, 129, 130, 131, 132, 133, 134, 135, 136, 137, 138, 139, 140, 141, 142, 143, 144, 145, 146, 147, 148, 149, 150, 151, 152, 153, 154, 155, 156, 157, 158, 159, 160, 161, 162, 163, 164, 165, 166, 167, 168, 169, 170, 171, 172, 173, 197, 198, 199, 200, 201, 202, 203, 204, 208, 209, 210, 190, 191, 192, 193, 194, 195, 196, 211, 212, 213, 214] rfl (by decide +kernel)
set_option maxRecDepth 20000 in
theorem gX5_text_X1_read : GoodIn wsX5_text (wsV RX5 74 RX1 yX1_read wsX1_read) := goodIn_app (goodIn_r _ [15, 16, 17, 18] rfl (by decide +kernel)) ggX5_text_X1_read
set_option maxRecDepth 20000 in
theorem ggX5_text_X2_take : GoodIn wsX5_text wsX2_take := goodIn_r _ [177, 143, 144, 145, 208, 209, 210] rfl (by decide +kernel)
set_option maxRecDepth 20000 in
theorem gX5_text_X2_take : GoodIn wsX5_text (wsV RX5 79 RX2 yX2_take wsX2_take) := goodIn_app (goodIn_r _ [174, 175, 176, 141] rfl (by decide +kernel)) ggX5_text_X2_take
theorem dX5_text_0 : decode cX5_text 0 = .ok (.iload_n 1, 1) := by decide +kernel
theorem dX5_text_1 : decode cX5_text 1 = .ok (.ifCond .lt 14, 3) := by decide +kernel
theorem dX5_text_4 : decode cX5_text 4 = .ok (.iload_n 1, 1) := by decide +kernel
theorem dX5_text_5 : decode cX5_text 5 = .ok (.aload_n 0, 1) := by decide +kernel
theorem dX5_text_6 : decode cX5_text 6 = .ok (.getfield 10, 3) := by decide +kernel
theorem dX5_text_9 : decode cX5_text 9 = .ok (.getfield 67, 3) := by decide +kernel
theorem dX5_text_12 : decode cX5_text 12 = .ok (.if_icmp .le 6, 3) := by decide +kernel
theorem dX5_text_15 : decode cX5_text 15 = .ok (.bipush (-2), 2) := by decide +kernel
theorem dX5_text_17 : decode cX5_text 17 = .ok (.ireturn, 1) := by decide +kernel
theorem dX5_text_18 : decode cX5_text 18 = .ok (.aload_n 0, 1) := by decide +kernel
theorem dX5_text_19 : decode cX5_text 19 = .ok (.getfield 19, 3) := by decide +kernel
theorem dX5_text_22 : decode cX5_text 22 = .ok (.aload_n 0, 1) := by decide +kernel
theorem dX5_text_23 : decode cX5_text 23 = .ok (.getfield 10, 3) := by decide +kernel
theorem dX5_text_26 : decode cX5_text 26 = .ok (.iload_n 1, 1) := by decide +kernel
theorem dX5_text_27 : decode cX5_text 27 = .ok (.invokevirtual 74, 3) := by decide +kernel
theorem dX5_text_30 : decode cX5_text 30 = .ok (.istore_n 2, 1) := by decide +kernel
theorem dX5_text_31 : decode cX5_text 31 = .ok (.aload_n 0, 1) := by decide +kernel
theorem dX5_text_32 : decode cX5_text 32 = .ok (.getfield 10, 3) := by decide +kernel
theorem dX5_text_35 : decode cX5_text 35 = .ok (.iconst 0, 1) := by decide +kernel
theorem dX5_text_36 : decode cX5_text 36 = .ok (.putfield 67, 3) := by decide +kernel
theorem dX5_text_39 : decode cX5_text 39 = .ok (.iload_n 2, 1) := by decide +kernel
theorem dX5_text_40 : decode cX5_text 40 = .ok (.ifCond .ne 5, 3) := by decide +kernel
theorem dX5_text_43 : decode cX5_text 43 = .ok (.iconst (-1), 1) := by decide +kernel
theorem dX5_text_44 : decode cX5_text 44 = .ok (.ireturn, 1) := by decide +kernel
theorem dX5_text_45 : decode cX5_text 45 = .ok (.aload_n 0, 1) := by decide +kernel
theorem dX5_text_46 : decode cX5_text 46 = .ok (.getfield 26, 3) := by decide +kernel
theorem dX5_text_49 : decode cX5_text 49 = .ok (.aload_n 0, 1) := by decide +kernel
theorem dX5_text_50 : decode cX5_text 50 = .ok (.getfield 19, 3) := by decide +kernel
theorem dX5_text_53 : decode cX5_text 53 = .ok (.getfield 78, 3) := by decide +kernel
theorem dX5_text_56 : decode cX5_text 56 = .ok (.invokevirtual 79, 3) := by decide +kernel
theorem dX5_text_59 : decode cX5_text 59 = .ok (.aload_n 0, 1) := by decide +kernel
theorem dX5_text_60 : decode cX5_text 60 = .ok (.aload_n 0, 1) := by decide +kernel
theorem dX5_text_61 : decode cX5_text 61 = .ok (.getfield 19, 3) := by decide +kernel
theorem dX5_text_64 : decode cX5_text 64 = .ok (.getfield 83, 3) := by decide +kernel
theorem dX5_text_67 : decode cX5_text 67 = .ok (.putfield 54, 3) := by decide +kernel
theorem dX5_text_70 : decode cX5_text 70 = .ok (.aload_n 0, 1) := by decide +kernel
theorem dX5_text_71 : decode cX5_text 71 = .ok (.aload_n 0, 1) := by decide +kernel
theorem dX5_text_72 : decode cX5_text 72 = .ok (.getfield 19, 3) := by decide +kernel
theorem dX5_text_75 : decode cX5_text 75 = .ok (.getfield 84, 3) := by decide +kernel
theorem dX5_text_78 : decode cX5_text 78 = .ok (.putfield 58, 3) := by decide +kernel
theorem dX5_text_81 : decode cX5_text 81 = .ok (.aload_n 0, 1) := by decide +kernel
theorem dX5_text_82 : decode cX5_text 82 = .ok (.aload_n 0, 1) := by decide +kernel
theorem dX5_text_83 : decode cX5_text 83 = .ok (.getfield 19, 3) := by decide +kernel
theorem dX5_text_86 : decode cX5_text 86 = .ok (.getfield 85, 3) := by decide +kernel
theorem dX5_text_89 : decode cX5_text 89 = .ok (.putfield 61, 3) := by decide +kernel
theorem dX5_text_92 : decode cX5_text 92 = .ok (.aload_n 0, 1) := by decide +kernel
theorem dX5_text_93 : decode cX5_text 93 = .ok (.getfield 36, 3) := by decide +kernel
theorem dX5_text_96 : decode cX5_text 96 = .ok (.iconst 0, 1) := by decide +kernel
theorem dX5_text_97 : decode cX5_text 97 = .ok (.putfield 86, 3) := by decide +kernel
theorem dX5_text_100 : decode cX5_text 100 = .ok (.aload_n 0, 1) := by decide +kernel
theorem dX5_text_101 : decode cX5_text 101 = .ok (.bipush (-2), 2) := by decide +kernel
theorem dX5_text_103 : decode cX5_text 103 = .ok (.putfield 64, 3) := by decide +kernel
theorem dX5_text_106 : decode cX5_text 106 = .ok (.aload_n 0, 1) := by decide +kernel
theorem dX5_text_107 : decode cX5_text 107 = .ok (.getfield 61, 3) := by decide +kernel
theorem dX5_text_110 : decode cX5_text 110 = .ok (.ireturn, 1) := by decide +kernel
set_option maxRecDepth 20000 in
theorem ggX5_place_X2_has : GoodIn wsX5_place wsX2_has := goodIn_r _ [13, 14, 44, 45, 46] rfl (by decide +kernel)
set_option maxRecDepth 20000 in
theorem gX5_place_X2_has : GoodIn wsX5_place (wsV RX5 95 RX2 yX2_has wsX2_has) := goodIn_app (goodIn_r _ [9, 10, 11, 12] rfl (by decide +kernel)) ggX5_place_X2_has
set_option maxRecDepth 20000 in
theorem ggX5_place_X2_howOften : GoodIn wsX5_place wsX2_howOften := goodIn_r _ [18, 19, 44, 45, 46] rfl (by decide +kernel)
set_option maxRecDepth 20000 in
theorem gX5_place_X2_howOften : GoodIn wsX5_place (wsV RX5 112 RX2 yX2_howOften wsX2_howOften) := goodIn_app (goodIn_r _ [15, 16, 17, 12] rfl (by decide +kernel)) ggX5_place_X2_howOften
set_option maxRecDepth 20000 in
theorem ggX5_place_X2_from : GoodIn wsX5_place wsX2_from := goodIn_r _ [23, 24, 25, 26, 12, 27, 14, 19, 44, 45, 46] rfl (by decide +kernel)
set_option maxRecDepth 20000 in
theorem gX5_place_X2_from : GoodIn wsX5_place (wsV RX5 116 RX2 yX2_from wsX2_from) := goodIn_app (goodIn_r _ [20, 21, 22, 12] rfl (by decide +kernel)) ggX5_place_X2_from
set_option maxRecDepth 20000 in
theorem ggX5_place_X2_upTo : GoodIn wsX5_place wsX2_upTo := goodIn_r _ [31, 19, 44, 45, 46] rfl (by decide +kernel)
set_option maxRecDepth 20000 in
theorem gX5_place_X2_upTo : GoodIn wsX5_place (wsV RX5 120 RX2 yX2_upTo wsX2_upTo) := goodIn_app (goodIn_r _ [28, 29, 30, 12] rfl (by decide +kernel)) ggX5_place_X2_upTo
theorem dX5_place_0 : decode cX5_place 0 = .ok (.aload_n 0, 1) := by decide +kernel
theorem dX5_place_1 : decode cX5_place 1 = .ok (.getfield 26, 3) := by decide +kernel
theorem dX5_place_4 : decode cX5_place 4 = .ok (.iload_n 1, 1) := by decide +kernel
theorem dX5_place_5 : decode cX5_place 5 = .ok (.invokevirtual 95, 3) := by decide +kernel
theorem dX5_place_8 : decode cX5_place 8 = .ok (.ifCond .ne 13, 3) := by decide +kernel
theorem dX5_place_11 : decode cX5_place 11 = .ok (.new 99, 3) := by decide +kernel
theorem dX5_place_14 : decode cX5_place 14 = .ok (.dup, 1) := by decide +kernel
theorem dX5_place_15 : decode cX5_place 15 = .ok (.ldc 101, 2) := by decide +kernel
theorem dX5_place_17 : decode cX5_place 17 = .ok (.invokespecial 103, 3) := by decide +kernel
theorem dX5_place_20 : decode cX5_place 20 = .ok (.athrow, 1) := by decide +kernel
theorem dX5_place_21 : decode cX5_place 21 = .ok (.aload_n 0, 1) := by decide +kernel
theorem dX5_place_22 : decode cX5_place 22 = .ok (.getfield 26, 3) := by decide +kernel
theorem dX5_place_25 : decode cX5_place 25 = .ok (.getfield 106, 3) := by decide +kernel
theorem dX5_place_28 : decode cX5_place 28 = .ok (.iload_n 1, 1) := by decide +kernel
theorem dX5_place_29 : decode cX5_place 29 = .ok (.iaload, 1) := by decide +kernel
theorem dX5_place_30 : decode cX5_place 30 = .ok (.istore_n 3, 1) := by decide +kernel
theorem dX5_place_31 : decode cX5_place 31 = .ok (.iload_n 2, 1) := by decide +kernel
theorem dX5_place_32 : decode cX5_place 32 = .ok (.tableswitch 96 0 5 #[40, 42, 52, 59, 72, 84], 40) := by decide +kernel
theorem dX5_place_72 : decode cX5_place 72 = .ok (.iload_n 3, 1) := by decide +kernel
theorem dX5_place_73 : decode cX5_place 73 = .ok (.ireturn, 1) := by decide +kernel
theorem dX5_place_74 : decode cX5_place 74 = .ok (.aload_n 0, 1) := by decide +kernel
theorem dX5_place_75 : decode cX5_place 75 = .ok (.getfield 26, 3) := by decide +kernel
theorem dX5_place_78 : decode cX5_place 78 = .ok (.getfield 109, 3) := by decide +kernel
theorem dX5_place_81 : decode cX5_place 81 = .ok (.iload_n 1, 1) := by decide +kernel
theorem dX5_place_82 : decode cX5_place 82 = .ok (.iaload, 1) := by decide +kernel
theorem dX5_place_83 : decode cX5_place 83 = .ok (.ireturn, 1) := by decide +kernel
theorem dX5_place_84 : decode cX5_place 84 = .ok (.iload_n 1, 1) := by decide +kernel
theorem dX5_place_85 : decode cX5_place 85 = .ok (.aload_n 0, 1) := by decide +kernel
theorem dX5_place_86 : decode cX5_place 86 = .ok (.getfield 54, 3) := by decide +kernel
theorem dX5_place_89 : decode cX5_place 89 = .ok (.idiv, 1) := by decide +kernel
theorem dX5_place_90 : decode cX5_place 90 = .ok (.ireturn, 1) := by decide +kernel
theorem dX5_place_91 : decode cX5_place 91 = .ok (.aload_n 0, 1) := by decide +kernel
theorem dX5_place_92 : decode cX5_place 92 = .ok (.getfield 26, 3) := by decide +kernel
theorem dX5_place_95 : decode cX5_place 95 = .ok (.iload_n 3, 1) := by decide +kernel
theorem dX5_place_96 : decode cX5_place 96 = .ok (.iconst 0, 1) := by decide +kernel
theorem dX5_place_97 : decode cX5_place 97 = .ok (.iload_n 1, 1) := by decide +kernel
theorem dX5_place_98 : decode cX5_place 98 = .ok (.iconst 1, 1) := by decide +kernel
theorem dX5_place_99 : decode cX5_place 99 = .ok (.isub, 1) := by decide +kernel
theorem dX5_place_100 : decode cX5_place 100 = .ok (.invokevirtual 112, 3) := by decide +kernel
theorem dX5_place_103 : decode cX5_place 103 = .ok (.ireturn, 1) := by decide +kernel
theorem dX5_place_104 : decode cX5_place 104 = .ok (.aload_n 0, 1) := by decide +kernel
theorem dX5_place_105 : decode cX5_place 105 = .ok (.getfield 26, 3) := by decide +kernel
theorem dX5_place_108 : decode cX5_place 108 = .ok (.iload_n 3, 1) := by decide +kernel
theorem dX5_place_109 : decode cX5_place 109 = .ok (.iload_n 1, 1) := by decide +kernel
theorem dX5_place_110 : decode cX5_place 110 = .ok (.iconst 1, 1) := by decide +kernel
theorem dX5_place_111 : decode cX5_place 111 = .ok (.iadd, 1) := by decide +kernel
theorem dX5_place_112 : decode cX5_place 112 = .ok (.invokevirtual 116, 3) := by decide +kernel
theorem dX5_place_115 : decode cX5_place 115 = .ok (.ireturn, 1) := by decide +kernel
theorem dX5_place_116 : decode cX5_place 116 = .ok (.aload_n 0, 1) := by decide +kernel
theorem dX5_place_117 : decode cX5_place 117 = .ok (.getfield 26, 3) := by decide +kernel
theorem dX5_place_120 : decode cX5_place 120 = .ok (.iload_n 3, 1) := by decide +kernel
theorem dX5_place_121 : decode cX5_place 121 = .ok (.iload_n 1, 1) := by decide +kernel
theorem dX5_place_122 : decode cX5_place 122 = .ok (.iconst 1, 1) := by decide +kernel
theorem dX5_place_123 : decode cX5_place 123 = .ok (.isub, 1) := by decide +kernel
theorem dX5_place_124 : decode cX5_place 124 = .ok (.invokevirtual 120, 3) := by decide +kernel
theorem dX5_place_127 : decode cX5_place 127 = .ok (.ireturn, 1) := by decide +kernel
theorem dX5_place_128 : decode cX5_place 128 = .ok (.new 123, 3) := by decide +kernel
theorem dX5_place_131 : decode cX5_place 131 = .ok (.dup, 1) := by decide +kernel
theorem dX5_place_132 : decode cX5_place 132 = .ok (.ldc 125, 2) := by decide +kernel
theorem dX5_place_134 : decode cX5_place 134 = .ok (.invokespecial 127, 3) := by decide +kernel
theorem dX5_place_137 : decode cX5_place 137 = .ok (.athrow, 1) := by decide +kernel
set_option maxRecDepth 20000 in
theorem ggX5_set_X2_has : GoodIn wsX5_set wsX2_has := goodIn_r _ [8, 9, 78, 79, 80] rfl (by decide +kernel)
set_option maxRecDepth 20000 in
theorem gX5_set_X2_has : GoodIn wsX5_set (wsV RX5 95 RX2 yX2_has wsX2_has) := goodIn_app (goodIn_r _ [4, 5, 6, 7] rfl (by decide +kernel)) ggX5_set_X2_has
set_option maxRecDepth 20000 in
theorem ggX5_set_X5_isValue : GoodIn wsX5_set wsX5_isValue := goodIn_r _ [13] rfl (by decide +kernel)
set_option maxRecDepth 20000 in
theorem gX5_set_X5_isValue : GoodIn wsX5_set (va_wsS RX5 128 yX5_isValue wsX5_isValue) := goodIn_app (goodIn_r _ [10, 11, 12] rfl (by decide +kernel)) ggX5_set_X5_isValue
set_option maxRecDepth 20000 in
theorem ggX5_set_X2_take : GoodIn wsX5_set wsX2_take := goodIn_r _ [17, 9, 18, 19, 78, 79, 80] rfl (by decide +kernel)
set_option maxRecDepth 20000 in
theorem gX5_set_X2_take : GoodIn wsX5_set (wsV RX5 79 RX2 yX2_take wsX2_take) := goodIn_app (goodIn_r _ [14, 15, 16, 7] rfl (by decide +kernel)) ggX5_set_X2_take
set_option maxRecDepth 20000 in
theorem ggX5_set_X5_settle : GoodIn wsX5_set wsX5_settle := goodIn_r _ [23, 3, 1, 24, 25, 26, 27, 28, 29, 7, 30, 9, 18, 19, 31, 32, 33, 34, 35, 36, 37, 38, 39, 40, 41, 42, 43, 44, 45, 46, 47, 15, 16, 17, 48, 49, 50, 12, 51, 52, 53, 54, 55, 56, 57, 58, 59, 60, 61, 62, 63, 64, 65, 14, 66, 67, 68, 69, 70, 71, 72, 73, 74, 75, 76, 77, 78, 79, 80, 81, 82, 83] rfl (by decide +kernel)
set_option maxRecDepth 20000 in
theorem gX5_set_X5_settle : GoodIn wsX5_set (wsV RX5 131 RX5 yX5_settle wsX5_settle) := goodIn_app (goodIn_r _ [20, 21, 22, 12] rfl (by decide +kernel)) ggX5_set_X5_settle
theorem dX5_set_0 : decode cX5_set 0 = .ok (.aload_n 0, 1) := by decide +kernel
theorem dX5_set_1 : decode cX5_set 1 = .ok (.getfield 26, 3) := by decide +kernel
theorem dX5_set_4 : decode cX5_set 4 = .ok (.iload_n 1, 1) := by decide +kernel
theorem dX5_set_5 : decode cX5_set 5 = .ok (.invokevirtual 95, 3) := by decide +kernel
theorem dX5_set_8 : decode cX5_set 8 = .ok (.ifCond .eq 10, 3) := by decide +kernel
theorem dX5_set_11 : decode cX5_set 11 = .ok (.iload_n 2, 1) := by decide +kernel
theorem dX5_set_12 : decode cX5_set 12 = .ok (.invokestatic 128, 3) := by decide +kernel
theorem dX5_set_15 : decode cX5_set 15 = .ok (.ifCond .ne 5, 3) := by decide +kernel
theorem dX5_set_18 : decode cX5_set 18 = .ok (.iconst (-1), 1) := by decide +kernel
theorem dX5_set_19 : decode cX5_set 19 = .ok (.ireturn, 1) := by decide +kernel
theorem dX5_set_20 : decode cX5_set 20 = .ok (.aload_n 0, 1) := by decide +kernel
theorem dX5_set_21 : decode cX5_set 21 = .ok (.getfield 26, 3) := by decide +kernel
theorem dX5_set_24 : decode cX5_set 24 = .ok (.getfield 106, 3) := by decide +kernel
theorem dX5_set_27 : decode cX5_set 27 = .ok (.iload_n 1, 1) := by decide +kernel
theorem dX5_set_28 : decode cX5_set 28 = .ok (.iaload, 1) := by decide +kernel
theorem dX5_set_29 : decode cX5_set 29 = .ok (.istore_n 3, 1) := by decide +kernel
theorem dX5_set_30 : decode cX5_set 30 = .ok (.aload_n 0, 1) := by decide +kernel
theorem dX5_set_31 : decode cX5_set 31 = .ok (.getfield 30, 3) := by decide +kernel
theorem dX5_set_34 : decode cX5_set 34 = .ok (.aload_n 0, 1) := by decide +kernel
theorem dX5_set_35 : decode cX5_set 35 = .ok (.getfield 26, 3) := by decide +kernel
theorem dX5_set_38 : decode cX5_set 38 = .ok (.invokevirtual 79, 3) := by decide +kernel
theorem dX5_set_41 : decode cX5_set 41 = .ok (.aload_n 0, 1) := by decide +kernel
theorem dX5_set_42 : decode cX5_set 42 = .ok (.getfield 30, 3) := by decide +kernel
theorem dX5_set_45 : decode cX5_set 45 = .ok (.getfield 106, 3) := by decide +kernel
theorem dX5_set_48 : decode cX5_set 48 = .ok (.iload_n 1, 1) := by decide +kernel
theorem dX5_set_49 : decode cX5_set 49 = .ok (.iload_n 2, 1) := by decide +kernel
theorem dX5_set_50 : decode cX5_set 50 = .ok (.iastore, 1) := by decide +kernel
theorem dX5_set_51 : decode cX5_set 51 = .ok (.aload_n 0, 1) := by decide +kernel
theorem dX5_set_52 : decode cX5_set 52 = .ok (.invokevirtual 131, 3) := by decide +kernel
theorem dX5_set_55 : decode cX5_set 55 = .ok (.pop, 1) := by decide +kernel
theorem dX5_set_56 : decode cX5_set 56 = .ok (.iload_n 3, 1) := by decide +kernel
theorem dX5_set_57 : decode cX5_set 57 = .ok (.ireturn, 1) := by decide +kernel
set_option maxRecDepth 20000 in
theorem ggX5_weigh_X2_has : GoodIn wsX5_weigh wsX2_has := goodIn_r _ [8, 9, 75, 76, 77] rfl (by decide +kernel)
set_option maxRecDepth 20000 in
theorem gX5_weigh_X2_has : GoodIn wsX5_weigh (wsV RX5 95 RX2 yX2_has wsX2_has) := goodIn_app (goodIn_r _ [4, 5, 6, 7] rfl (by decide +kernel)) ggX5_weigh_X2_has
set_option maxRecDepth 20000 in
theorem ggX5_weigh_X2_take : GoodIn wsX5_weigh wsX2_take := goodIn_r _ [13, 9, 14, 15, 75, 76, 77] rfl (by decide +kernel)
set_option maxRecDepth 20000 in
theorem gX5_weigh_X2_take : GoodIn wsX5_weigh (wsV RX5 79 RX2 yX2_take wsX2_take) := goodIn_app (goodIn_r _ [10, 11, 12, 7] rfl (by decide +kernel)) ggX5_weigh_X2_take
set_option maxRecDepth 20000 in
theorem ggX5_weigh_X5_settle : GoodIn wsX5_weigh wsX5_settle := goodIn_r _ [20, 3, 1, 21, 22, 23, 24, 25, 26, 7, 27, 9, 14, 15, 28, 29, 30, 31, 32, 33, 34, 35, 36, 37, 38, 39, 40, 41, 42, 43, 44, 11, 12, 13, 45, 46, 47, 19, 48, 49, 50, 51, 52, 53, 54, 55, 56, 57, 58, 59, 60, 61, 62, 10, 63, 64, 65, 66, 67, 68, 69, 70, 71, 72, 73, 74, 75, 76, 77, 78, 79, 80] rfl (by decide +kernel)
set_option maxRecDepth 20000 in
theorem gX5_weigh_X5_settle : GoodIn wsX5_weigh (wsV RX5 131 RX5 yX5_settle wsX5_settle) := goodIn_app (goodIn_r _ [16, 17, 18, 19] rfl (by decide +kernel)) ggX5_weigh_X5_settle
theorem dX5_weigh_0 : decode cX5_weigh 0 = .ok (.aload_n 0, 1) := by decide +kernel
theorem dX5_weigh_1 : decode cX5_weigh 1 = .ok (.getfield 26, 3) := by decide +kernel
theorem dX5_weigh_4 : decode cX5_weigh 4 = .ok (.iload_n 1, 1) := by decide +kernel
theorem dX5_weigh_5 : decode cX5_weigh 5 = .ok (.invokevirtual 95, 3) := by decide +kernel
theorem dX5_weigh_8 : decode cX5_weigh 8 = .ok (.ifCond .eq 14, 3) := by decide +kernel
theorem dX5_weigh_11 : decode cX5_weigh 11 = .ok (.iload_n 2, 1) := by decide +kernel
theorem dX5_weigh_12 : decode cX5_weigh 12 = .ok (.iconst 1, 1) := by decide +kernel
theorem dX5_weigh_13 : decode cX5_weigh 13 = .ok (.if_icmp .lt 9, 3) := by decide +kernel
theorem dX5_weigh_16 : decode cX5_weigh 16 = .ok (.iload_n 2, 1) := by decide +kernel
theorem dX5_weigh_17 : decode cX5_weigh 17 = .ok (.bipush 9, 2) := by decide +kernel
theorem dX5_weigh_19 : decode cX5_weigh 19 = .ok (.if_icmp .le 5, 3) := by decide +kernel
theorem dX5_weigh_22 : decode cX5_weigh 22 = .ok (.iconst (-1), 1) := by decide +kernel
theorem dX5_weigh_23 : decode cX5_weigh 23 = .ok (.ireturn, 1) := by decide +kernel
theorem dX5_weigh_24 : decode cX5_weigh 24 = .ok (.aload_n 0, 1) := by decide +kernel
theorem dX5_weigh_25 : decode cX5_weigh 25 = .ok (.getfield 26, 3) := by decide +kernel
theorem dX5_weigh_28 : decode cX5_weigh 28 = .ok (.getfield 109, 3) := by decide +kernel
theorem dX5_weigh_31 : decode cX5_weigh 31 = .ok (.iload_n 1, 1) := by decide +kernel
theorem dX5_weigh_32 : decode cX5_weigh 32 = .ok (.iaload, 1) := by decide +kernel
theorem dX5_weigh_33 : decode cX5_weigh 33 = .ok (.istore_n 3, 1) := by decide +kernel
theorem dX5_weigh_34 : decode cX5_weigh 34 = .ok (.aload_n 0, 1) := by decide +kernel
theorem dX5_weigh_35 : decode cX5_weigh 35 = .ok (.getfield 30, 3) := by decide +kernel
theorem dX5_weigh_38 : decode cX5_weigh 38 = .ok (.aload_n 0, 1) := by decide +kernel
theorem dX5_weigh_39 : decode cX5_weigh 39 = .ok (.getfield 26, 3) := by decide +kernel
theorem dX5_weigh_42 : decode cX5_weigh 42 = .ok (.invokevirtual 79, 3) := by decide +kernel
theorem dX5_weigh_45 : decode cX5_weigh 45 = .ok (.aload_n 0, 1) := by decide +kernel
theorem dX5_weigh_46 : decode cX5_weigh 46 = .ok (.getfield 30, 3) := by decide +kernel
theorem dX5_weigh_49 : decode cX5_weigh 49 = .ok (.getfield 109, 3) := by decide +kernel
theorem dX5_weigh_52 : decode cX5_weigh 52 = .ok (.iload_n 1, 1) := by decide +kernel
theorem dX5_weigh_53 : decode cX5_weigh 53 = .ok (.iload_n 2, 1) := by decide +kernel
theorem dX5_weigh_54 : decode cX5_weigh 54 = .ok (.iastore, 1) := by decide +kernel
theorem dX5_weigh_55 : decode cX5_weigh 55 = .ok (.aload_n 0, 1) := by decide +kernel
theorem dX5_weigh_56 : decode cX5_weigh 56 = .ok (.invokevirtual 131, 3) := by decide +kernel
theorem dX5_weigh_59 : decode cX5_weigh 59 = .ok (.pop, 1) := by decide +kernel
theorem dX5_weigh_60 : decode cX5_weigh 60 = .ok (.iload_n 3, 1) := by decide +kernel
theorem dX5_weigh_61 : decode cX5_weigh 61 = .ok (.ireturn, 1) := by decide +kernel
set_option maxRecDepth 20000 in
theorem ggX5_insert_X5_isValue : GoodIn wsX5_insert wsX5_isValue := goodIn_r _ [7] rfl (by decide +kernel)
set_option maxRecDepth 20000 in
theorem gX5_insert_X5_isValue : GoodIn wsX5_insert (va_wsS RX5 128 yX5_isValue wsX5_isValue) := goodIn_app (goodIn_r _ [4, 5, 6] rfl (by decide +kernel)) ggX5_insert_X5_isValue
set_option maxRecDepth 20000 in
theorem ggX5_insert_X2_take : GoodIn wsX5_insert wsX2_take := goodIn_r _ [12, 13, 14, 15, 77, 78, 79] rfl (by decide +kernel)
set_option maxRecDepth 20000 in
theorem gX5_insert_X2_take : GoodIn wsX5_insert (wsV RX5 79 RX2 yX2_take wsX2_take) := goodIn_app (goodIn_r _ [8, 9, 10, 11] rfl (by decide +kernel)) ggX5_insert_X2_take
set_option maxRecDepth 20000 in
theorem ggX5_insert_X2_open : GoodIn wsX5_insert wsX2_open := goodIn_r _ [19, 13, 14, 15, 77, 78, 79] rfl (by decide +kernel)
set_option maxRecDepth 20000 in
theorem gX5_insert_X2_open : GoodIn wsX5_insert (wsV RX5 138 RX2 yX2_open wsX2_open) := goodIn_app (goodIn_r _ [16, 17, 18, 11] rfl (by decide +kernel)) ggX5_insert_X2_open
set_option maxRecDepth 20000 in
theorem ggX5_insert_X5_settle : GoodIn wsX5_insert wsX5_settle := goodIn_r _ [23, 3, 1, 2, 24, 25, 26, 27, 28, 11, 29, 13, 14, 15, 30, 31, 32, 33, 34, 35, 36, 37, 38, 39, 40, 41, 42, 43, 44, 45, 46, 9, 10, 12, 47, 48, 49, 6, 50, 51, 52, 53, 54, 55, 56, 57, 58, 59, 60, 61, 62, 63, 64, 8, 65, 66, 67, 68, 69, 70, 71, 72, 73, 74, 75, 76, 77, 78, 79, 80, 81, 82] rfl (by decide +kernel)
set_option maxRecDepth 20000 in
theorem gX5_insert_X5_settle : GoodIn wsX5_insert (wsV RX5 131 RX5 yX5_settle wsX5_settle) := goodIn_app (goodIn_r _ [20, 21, 22, 6] rfl (by decide +kernel)) ggX5_insert_X5_settle
theorem dX5_insert_0 : decode cX5_insert 0 = .ok (.iload_n 1, 1) := by decide +kernel
theorem dX5_insert_1 : decode cX5_insert 1 = .ok (.ifCond .lt 33, 3) := by decide +kernel
theorem dX5_insert_4 : decode cX5_insert 4 = .ok (.iload_n 1, 1) := by decide +kernel
theorem dX5_insert_5 : decode cX5_insert 5 = .ok (.aload_n 0, 1) := by decide +kernel
theorem dX5_insert_6 : decode cX5_insert 6 = .ok (.getfield 26, 3) := by decide +kernel
theorem dX5_insert_9 : decode cX5_insert 9 = .ok (.getfield 135, 3) := by decide +kernel
theorem dX5_insert_12 : decode cX5_insert 12 = .ok (.if_icmp .gt 22, 3) := by decide +kernel
theorem dX5_insert_15 : decode cX5_insert 15 = .ok (.iload_n 2, 1) := by decide +kernel
theorem dX5_insert_16 : decode cX5_insert 16 = .ok (.invokestatic 128, 3) := by decide +kernel
theorem dX5_insert_19 : decode cX5_insert 19 = .ok (.ifCond .eq 15, 3) := by decide +kernel
theorem dX5_insert_22 : decode cX5_insert 22 = .ok (.aload_n 0, 1) := by decide +kernel
theorem dX5_insert_23 : decode cX5_insert 23 = .ok (.getfield 26, 3) := by decide +kernel
theorem dX5_insert_26 : decode cX5_insert 26 = .ok (.getfield 135, 3) := by decide +kernel
theorem dX5_insert_29 : decode cX5_insert 29 = .ok (.bipush 120, 2) := by decide +kernel
theorem dX5_insert_31 : decode cX5_insert 31 = .ok (.if_icmp .lt 5, 3) := by decide +kernel
theorem dX5_insert_34 : decode cX5_insert 34 = .ok (.iconst (-1), 1) := by decide +kernel
theorem dX5_insert_35 : decode cX5_insert 35 = .ok (.ireturn, 1) := by decide +kernel
theorem dX5_insert_36 : decode cX5_insert 36 = .ok (.aload_n 0, 1) := by decide +kernel
theorem dX5_insert_37 : decode cX5_insert 37 = .ok (.getfield 30, 3) := by decide +kernel
theorem dX5_insert_40 : decode cX5_insert 40 = .ok (.aload_n 0, 1) := by decide +kernel
theorem dX5_insert_41 : decode cX5_insert 41 = .ok (.getfield 26, 3) := by decide +kernel
theorem dX5_insert_44 : decode cX5_insert 44 = .ok (.invokevirtual 79, 3) := by decide +kernel
theorem dX5_insert_47 : decode cX5_insert 47 = .ok (.aload_n 0, 1) := by decide +kernel
theorem dX5_insert_48 : decode cX5_insert 48 = .ok (.getfield 30, 3) := by decide +kernel
theorem dX5_insert_51 : decode cX5_insert 51 = .ok (.iload_n 1, 1) := by decide +kernel
theorem dX5_insert_52 : decode cX5_insert 52 = .ok (.iload_n 2, 1) := by decide +kernel
theorem dX5_insert_53 : decode cX5_insert 53 = .ok (.invokevirtual 138, 3) := by decide +kernel
theorem dX5_insert_56 : decode cX5_insert 56 = .ok (.aload_n 0, 1) := by decide +kernel
theorem dX5_insert_57 : decode cX5_insert 57 = .ok (.invokevirtual 131, 3) := by decide +kernel
theorem dX5_insert_60 : decode cX5_insert 60 = .ok (.pop, 1) := by decide +kernel
theorem dX5_insert_61 : decode cX5_insert 61 = .ok (.aload_n 0, 1) := by decide +kernel
theorem dX5_insert_62 : decode cX5_insert 62 = .ok (.getfield 26, 3) := by decide +kernel
theorem dX5_insert_65 : decode cX5_insert 65 = .ok (.getfield 135, 3) := by decide +kernel
theorem dX5_insert_68 : decode cX5_insert 68 = .ok (.ireturn, 1) := by decide +kernel
set_option maxRecDepth 20000 in
theorem ggX5_remove_X2_has : GoodIn wsX5_remove wsX2_has := goodIn_r _ [8, 9, 79, 80, 81] rfl (by decide +kernel)
set_option maxRecDepth 20000 in
theorem gX5_remove_X2_has : GoodIn wsX5_remove (wsV RX5 95 RX2 yX2_has wsX2_has) := goodIn_app (goodIn_r _ [4, 5, 6, 7] rfl (by decide +kernel)) ggX5_remove_X2_has
set_option maxRecDepth 20000 in
theorem ggX5_remove_X2_take : GoodIn wsX5_remove wsX2_take := goodIn_r _ [13, 9, 14, 15, 79, 80, 81] rfl (by decide +kernel)
set_option maxRecDepth 20000 in
theorem gX5_remove_X2_take : GoodIn wsX5_remove (wsV RX5 79 RX2 yX2_take wsX2_take) := goodIn_app (goodIn_r _ [10, 11, 12, 7] rfl (by decide +kernel)) ggX5_remove_X2_take
set_option maxRecDepth 20000 in
theorem ggX5_remove_X2_close : GoodIn wsX5_remove wsX2_close := goodIn_r _ [19, 9, 14, 15, 79, 80, 81] rfl (by decide +kernel)
set_option maxRecDepth 20000 in
theorem gX5_remove_X2_close : GoodIn wsX5_remove (wsV RX5 142 RX2 yX2_close wsX2_close) := goodIn_app (goodIn_r _ [16, 17, 18, 7] rfl (by decide +kernel)) ggX5_remove_X2_close
set_option maxRecDepth 20000 in
theorem ggX5_remove_X5_settle : GoodIn wsX5_remove wsX5_settle := goodIn_r _ [24, 3, 1, 25, 26, 27, 28, 29, 30, 7, 31, 9, 14, 15, 32, 33, 34, 35, 36, 37, 38, 39, 40, 41, 42, 43, 44, 45, 46, 47, 48, 11, 12, 13, 49, 50, 51, 23, 52, 53, 54, 55, 56, 57, 58, 59, 60, 61, 62, 63, 64, 65, 66, 10, 67, 68, 69, 70, 71, 72, 73, 74, 75, 76, 77, 78, 79, 80, 81, 82, 83, 84] rfl (by decide +kernel)
set_option maxRecDepth 20000 in
theorem gX5_remove_X5_settle : GoodIn wsX5_remove (wsV RX5 131 RX5 yX5_settle wsX5_settle) := goodIn_app (goodIn_r _ [20, 21, 22, 23] rfl (by decide +kernel)) ggX5_remove_X5_settle
theorem dX5_remove_0 : decode cX5_remove 0 = .ok (.aload_n 0, 1) := by decide +kernel
theorem dX5_remove_1 : decode cX5_remove 1 = .ok (.getfield 26, 3) := by decide +kernel
theorem dX5_remove_4 : decode cX5_remove 4 = .ok (.iload_n 1, 1) := by decide +kernel
theorem dX5_remove_5 : decode cX5_remove 5 = .ok (.invokevirtual 95, 3) := by decide +kernel
theorem dX5_remove_8 : decode cX5_remove 8 = .ok (.ifCond .ne 5, 3) := by decide +kernel
theorem dX5_remove_11 : decode cX5_remove 11 = .ok (.iconst (-1), 1) := by decide +kernel
theorem dX5_remove_12 : decode cX5_remove 12 = .ok (.ireturn, 1) := by decide +kernel
theorem dX5_remove_13 : decode cX5_remove 13 = .ok (.aload_n 0, 1) := by decide +kernel
theorem dX5_remove_14 : decode cX5_remove 14 = .ok (.getfield 26, 3) := by decide +kernel
theorem dX5_remove_17 : decode cX5_remove 17 = .ok (.getfield 106, 3) := by decide +kernel
theorem dX5_remove_20 : decode cX5_remove 20 = .ok (.iload_n 1, 1) := by decide +kernel
theorem dX5_remove_21 : decode cX5_remove 21 = .ok (.iaload, 1) := by decide +kernel
theorem dX5_remove_22 : decode cX5_remove 22 = .ok (.istore_n 2, 1) := by decide +kernel
theorem dX5_remove_23 : decode cX5_remove 23 = .ok (.aload_n 0, 1) := by decide +kernel
theorem dX5_remove_24 : decode cX5_remove 24 = .ok (.getfield 30, 3) := by decide +kernel
theorem dX5_remove_27 : decode cX5_remove 27 = .ok (.aload_n 0, 1) := by decide +kernel
theorem dX5_remove_28 : decode cX5_remove 28 = .ok (.getfield 26, 3) := by decide +kernel
theorem dX5_remove_31 : decode cX5_remove 31 = .ok (.invokevirtual 79, 3) := by decide +kernel
theorem dX5_remove_34 : decode cX5_remove 34 = .ok (.aload_n 0, 1) := by decide +kernel
theorem dX5_remove_35 : decode cX5_remove 35 = .ok (.getfield 30, 3) := by decide +kernel
theorem dX5_remove_38 : decode cX5_remove 38 = .ok (.iload_n 1, 1) := by decide +kernel
theorem dX5_remove_39 : decode cX5_remove 39 = .ok (.invokevirtual 142, 3) := by decide +kernel
theorem dX5_remove_42 : decode cX5_remove 42 = .ok (.aload_n 0, 1) := by decide +kernel
theorem dX5_remove_43 : decode cX5_remove 43 = .ok (.invokevirtual 131, 3) := by decide +kernel
theorem dX5_remove_46 : decode cX5_remove 46 = .ok (.pop, 1) := by decide +kernel
theorem dX5_remove_47 : decode cX5_remove 47 = .ok (.iload_n 2, 1) := by decide +kernel
theorem dX5_remove_48 : decode cX5_remove 48 = .ok (.ireturn, 1) := by decide +kernel
set_option maxRecDepth 20000 in
theorem ggX5_fill_X2_hasSpan : GoodIn wsX5_fill wsX2_hasSpan := goodIn_r _ [8, 9, 78, 79, 80] rfl (by decide +kernel)
set_option maxRecDepth 20000 in
theorem gX5_fill_X2_hasSpan : GoodIn wsX5_fill (wsV RX5 145 RX2 yX2_hasSpan wsX2_hasSpan) := goodIn_app (goodIn_r _ [4, 5, 6, 7] rfl (by decide +kernel)) ggX5_fill_X2_hasSpan
set_option maxRecDepth 20000 in
theorem ggX5_fill_X5_isValue : GoodIn wsX5_fill wsX5_isValue := goodIn_r _ [13] rfl (by decide +kernel)
set_option maxRecDepth 20000 in
theorem gX5_fill_X5_isValue : GoodIn wsX5_fill (va_wsS RX5 128 yX5_isValue wsX5_isValue) := goodIn_app (goodIn_r _ [10, 11, 12] rfl (by decide +kernel)) ggX5_fill_X5_isValue
set_option maxRecDepth 20000 in
theorem ggX5_fill_X2_take : GoodIn wsX5_fill wsX2_take := goodIn_r _ [17, 9, 18, 19, 78, 79, 80] rfl (by decide +kernel)
set_option maxRecDepth 20000 in
theorem gX5_fill_X2_take : GoodIn wsX5_fill (wsV RX5 79 RX2 yX2_take wsX2_take) := goodIn_app (goodIn_r _ [14, 15, 16, 7] rfl (by decide +kernel)) ggX5_fill_X2_take
set_option maxRecDepth 20000 in
theorem ggX5_fill_X5_settle : GoodIn wsX5_fill wsX5_settle := goodIn_r _ [23, 2, 1, 24, 25, 26, 27, 28, 29, 7, 30, 9, 18, 19, 31, 32, 33, 34, 35, 36, 37, 38, 39, 40, 41, 42, 43, 44, 45, 46, 47, 15, 16, 17, 48, 49, 50, 12, 51, 52, 53, 54, 55, 56, 57, 58, 59, 60, 61, 62, 63, 64, 65, 14, 66, 67, 68, 69, 70, 71, 72, 73, 74, 75, 76, 77, 78, 79, 80, 81, 82, 83] rfl (by decide +kernel)
set_option maxRecDepth 20000 in
theorem gX5_fill_X5_settle : GoodIn wsX5_fill (wsV RX5 131 RX5 yX5_settle wsX5_settle) := goodIn_app (goodIn_r _ [20, 21, 22, 12] rfl (by decide +kernel)) ggX5_fill_X5_settle
theorem dX5_fill_0 : decode cX5_fill 0 = .ok (.aload_n 0, 1) := by decide +kernel
theorem dX5_fill_1 : decode cX5_fill 1 = .ok (.getfield 26, 3) := by decide +kernel
theorem dX5_fill_4 : decode cX5_fill 4 = .ok (.iload_n 1, 1) := by decide +kernel
theorem dX5_fill_5 : decode cX5_fill 5 = .ok (.iload_n 2, 1) := by decide +kernel
theorem dX5_fill_6 : decode cX5_fill 6 = .ok (.invokevirtual 145, 3) := by decide +kernel
theorem dX5_fill_9 : decode cX5_fill 9 = .ok (.ifCond .eq 10, 3) := by decide +kernel
theorem dX5_fill_12 : decode cX5_fill 12 = .ok (.iload_n 3, 1) := by decide +kernel
theorem dX5_fill_13 : decode cX5_fill 13 = .ok (.invokestatic 128, 3) := by decide +kernel
theorem dX5_fill_16 : decode cX5_fill 16 = .ok (.ifCond .ne 5, 3) := by decide +kernel
theorem dX5_fill_19 : decode cX5_fill 19 = .ok (.iconst (-1), 1) := by decide +kernel
theorem dX5_fill_20 : decode cX5_fill 20 = .ok (.ireturn, 1) := by decide +kernel
theorem dX5_fill_21 : decode cX5_fill 21 = .ok (.aload_n 0, 1) := by decide +kernel
theorem dX5_fill_22 : decode cX5_fill 22 = .ok (.getfield 30, 3) := by decide +kernel
theorem dX5_fill_25 : decode cX5_fill 25 = .ok (.aload_n 0, 1) := by decide +kernel
theorem dX5_fill_26 : decode cX5_fill 26 = .ok (.getfield 26, 3) := by decide +kernel
theorem dX5_fill_29 : decode cX5_fill 29 = .ok (.invokevirtual 79, 3) := by decide +kernel
theorem dX5_fill_32 : decode cX5_fill 32 = .ok (.iload_n 1, 1) := by decide +kernel
theorem dX5_fill_33 : decode cX5_fill 33 = .ok (.istore 4, 2) := by decide +kernel
theorem dX5_fill_35 : decode cX5_fill 35 = .ok (.iload 4, 2) := by decide +kernel
theorem dX5_fill_37 : decode cX5_fill 37 = .ok (.iload_n 2, 1) := by decide +kernel
theorem dX5_fill_38 : decode cX5_fill 38 = .ok (.if_icmp .gt 20, 3) := by decide +kernel
theorem dX5_fill_41 : decode cX5_fill 41 = .ok (.aload_n 0, 1) := by decide +kernel
theorem dX5_fill_42 : decode cX5_fill 42 = .ok (.getfield 30, 3) := by decide +kernel
theorem dX5_fill_45 : decode cX5_fill 45 = .ok (.getfield 106, 3) := by decide +kernel
theorem dX5_fill_48 : decode cX5_fill 48 = .ok (.iload 4, 2) := by decide +kernel
theorem dX5_fill_50 : decode cX5_fill 50 = .ok (.iload_n 3, 1) := by decide +kernel
theorem dX5_fill_51 : decode cX5_fill 51 = .ok (.iastore, 1) := by decide +kernel
theorem dX5_fill_52 : decode cX5_fill 52 = .ok (.iinc 4 1, 3) := by decide +kernel
theorem dX5_fill_55 : decode cX5_fill 55 = .ok (.goto (-20), 3) := by decide +kernel
theorem dX5_fill_58 : decode cX5_fill 58 = .ok (.aload_n 0, 1) := by decide +kernel
theorem dX5_fill_59 : decode cX5_fill 59 = .ok (.invokevirtual 131, 3) := by decide +kernel
theorem dX5_fill_62 : decode cX5_fill 62 = .ok (.ireturn, 1) := by decide +kernel
set_option maxRecDepth 20000 in
theorem ggX5_swap_X2_has : GoodIn wsX5_swap wsX2_has := goodIn_r _ [7, 8, 78, 79, 80] rfl (by decide +kernel)
set_option maxRecDepth 20000 in
theorem gX5_swap_X2_has : GoodIn wsX5_swap (wsV RX5 95 RX2 yX2_has wsX2_has) := goodIn_app (goodIn_r _ [3, 4, 5, 6] rfl (by decide +kernel)) ggX5_swap_X2_has
set_option maxRecDepth 20000 in
theorem ggX5_swap_X2_take : GoodIn wsX5_swap wsX2_take := goodIn_r _ [12, 8, 13, 14, 78, 79, 80] rfl (by decide +kernel)
set_option maxRecDepth 20000 in
theorem gX5_swap_X2_take : GoodIn wsX5_swap (wsV RX5 79 RX2 yX2_take wsX2_take) := goodIn_app (goodIn_r _ [9, 10, 11, 6] rfl (by decide +kernel)) ggX5_swap_X2_take
set_option maxRecDepth 20000 in
theorem ggX5_swap_X2_exchange : GoodIn wsX5_swap wsX2_exchange := goodIn_r _ [18, 13, 14, 78, 79, 80] rfl (by decide +kernel)
set_option maxRecDepth 20000 in
theorem gX5_swap_X2_exchange : GoodIn wsX5_swap (wsV RX5 149 RX2 yX2_exchange wsX2_exchange) := goodIn_app (goodIn_r _ [15, 16, 17, 6] rfl (by decide +kernel)) ggX5_swap_X2_exchange
set_option maxRecDepth 20000 in
theorem ggX5_swap_X5_settle : GoodIn wsX5_swap wsX5_settle := goodIn_r _ [23, 2, 1, 24, 25, 26, 27, 28, 29, 6, 30, 8, 13, 14, 31, 32, 33, 34, 35, 36, 37, 38, 39, 40, 41, 42, 43, 44, 45, 46, 47, 10, 11, 12, 48, 49, 50, 22, 51, 52, 53, 54, 55, 56, 57, 58, 59, 60, 61, 62, 63, 64, 65, 9, 66, 67, 68, 69, 70, 71, 72, 73, 74, 75, 76, 77, 78, 79, 80, 81, 82, 83] rfl (by decide +kernel)
set_option maxRecDepth 20000 in
theorem gX5_swap_X5_settle : GoodIn wsX5_swap (wsV RX5 131 RX5 yX5_settle wsX5_settle) := goodIn_app (goodIn_r _ [19, 20, 21, 22] rfl (by decide +kernel)) ggX5_swap_X5_settle
theorem dX5_swap_0 : decode cX5_swap 0 = .ok (.aload_n 0, 1) := by decide +kernel
theorem dX5_swap_1 : decode cX5_swap 1 = .ok (.getfield 26, 3) := by decide +kernel
theorem dX5_swap_4 : decode cX5_swap 4 = .ok (.iload_n 1, 1) := by decide +kernel
theorem dX5_swap_5 : decode cX5_swap 5 = .ok (.invokevirtual 95, 3) := by decide +kernel
theorem dX5_swap_8 : decode cX5_swap 8 = .ok (.ifCond .eq 19, 3) := by decide +kernel
theorem dX5_swap_11 : decode cX5_swap 11 = .ok (.aload_n 0, 1) := by decide +kernel
theorem dX5_swap_12 : decode cX5_swap 12 = .ok (.getfield 26, 3) := by decide +kernel
theorem dX5_swap_15 : decode cX5_swap 15 = .ok (.iload_n 2, 1) := by decide +kernel
theorem dX5_swap_16 : decode cX5_swap 16 = .ok (.invokevirtual 95, 3) := by decide +kernel
theorem dX5_swap_19 : decode cX5_swap 19 = .ok (.ifCond .eq 8, 3) := by decide +kernel
theorem dX5_swap_22 : decode cX5_swap 22 = .ok (.iload_n 1, 1) := by decide +kernel
theorem dX5_swap_23 : decode cX5_swap 23 = .ok (.iload_n 2, 1) := by decide +kernel
theorem dX5_swap_24 : decode cX5_swap 24 = .ok (.if_icmp .ne 5, 3) := by decide +kernel
theorem dX5_swap_27 : decode cX5_swap 27 = .ok (.iconst 0, 1) := by decide +kernel
theorem dX5_swap_28 : decode cX5_swap 28 = .ok (.ireturn, 1) := by decide +kernel
theorem dX5_swap_29 : decode cX5_swap 29 = .ok (.aload_n 0, 1) := by decide +kernel
theorem dX5_swap_30 : decode cX5_swap 30 = .ok (.getfield 30, 3) := by decide +kernel
theorem dX5_swap_33 : decode cX5_swap 33 = .ok (.aload_n 0, 1) := by decide +kernel
theorem dX5_swap_34 : decode cX5_swap 34 = .ok (.getfield 26, 3) := by decide +kernel
theorem dX5_swap_37 : decode cX5_swap 37 = .ok (.invokevirtual 79, 3) := by decide +kernel
theorem dX5_swap_40 : decode cX5_swap 40 = .ok (.aload_n 0, 1) := by decide +kernel
theorem dX5_swap_41 : decode cX5_swap 41 = .ok (.getfield 30, 3) := by decide +kernel
theorem dX5_swap_44 : decode cX5_swap 44 = .ok (.iload_n 1, 1) := by decide +kernel
theorem dX5_swap_45 : decode cX5_swap 45 = .ok (.iload_n 2, 1) := by decide +kernel
theorem dX5_swap_46 : decode cX5_swap 46 = .ok (.invokevirtual 149, 3) := by decide +kernel
theorem dX5_swap_49 : decode cX5_swap 49 = .ok (.aload_n 0, 1) := by decide +kernel
theorem dX5_swap_50 : decode cX5_swap 50 = .ok (.invokevirtual 131, 3) := by decide +kernel
theorem dX5_swap_53 : decode cX5_swap 53 = .ok (.pop, 1) := by decide +kernel
theorem dX5_swap_54 : decode cX5_swap 54 = .ok (.iconst 1, 1) := by decide +kernel
theorem dX5_swap_55 : decode cX5_swap 55 = .ok (.ireturn, 1) := by decide +kernel
set_option maxRecDepth 20000 in
theorem ggX5_flip_X2_hasSpan : GoodIn wsX5_flip wsX2_hasSpan := goodIn_r _ [7, 8, 82, 83, 84] rfl (by decide +kernel)
set_option maxRecDepth 20000 in
theorem gX5_flip_X2_hasSpan : GoodIn wsX5_flip (wsV RX5 145 RX2 yX2_hasSpan wsX2_hasSpan) := goodIn_app (goodIn_r _ [3, 4, 5, 6] rfl (by decide +kernel)) ggX5_flip_X2_hasSpan
set_option maxRecDepth 20000 in
theorem ggX5_flip_X2_take : GoodIn wsX5_flip wsX2_take := goodIn_r _ [12, 8, 13, 14, 82, 83, 84] rfl (by decide +kernel)
set_option maxRecDepth 20000 in
theorem gX5_flip_X2_take : GoodIn wsX5_flip (wsV RX5 79 RX2 yX2_take wsX2_take) := goodIn_app (goodIn_r _ [9, 10, 11, 6] rfl (by decide +kernel)) ggX5_flip_X2_take
set_option maxRecDepth 20000 in
theorem ggX5_flip_X2_turn : GoodIn wsX5_flip wsX2_turn := goodIn_r _ [18, 19, 20, 21, 6, 22, 13, 14, 82, 83, 84] rfl (by decide +kernel)
set_option maxRecDepth 20000 in
theorem gX5_flip_X2_turn : GoodIn wsX5_flip (wsV RX5 152 RX2 yX2_turn wsX2_turn) := goodIn_app (goodIn_r _ [15, 16, 17, 6] rfl (by decide +kernel)) ggX5_flip_X2_turn
set_option maxRecDepth 20000 in
theorem ggX5_flip_X5_settle : GoodIn wsX5_flip wsX5_settle := goodIn_r _ [27, 2, 1, 28, 29, 30, 31, 32, 33, 6, 34, 8, 13, 14, 35, 36, 37, 38, 39, 40, 41, 42, 43, 44, 45, 46, 47, 48, 49, 50, 51, 10, 11, 12, 52, 53, 54, 26, 55, 56, 57, 58, 59, 60, 61, 62, 63, 64, 65, 66, 67, 68, 69, 9, 70, 71, 72, 73, 74, 75, 76, 77, 78, 79, 80, 81, 82, 83, 84, 85, 86, 87] rfl (by decide +kernel)
set_option maxRecDepth 20000 in
theorem gX5_flip_X5_settle : GoodIn wsX5_flip (wsV RX5 131 RX5 yX5_settle wsX5_settle) := goodIn_app (goodIn_r _ [23, 24, 25, 26] rfl (by decide +kernel)) ggX5_flip_X5_settle
theorem dX5_flip_0 : decode cX5_flip 0 = .ok (.aload_n 0, 1) := by decide +kernel
theorem dX5_flip_1 : decode cX5_flip 1 = .ok (.getfield 26, 3) := by decide +kernel
theorem dX5_flip_4 : decode cX5_flip 4 = .ok (.iload_n 1, 1) := by decide +kernel
theorem dX5_flip_5 : decode cX5_flip 5 = .ok (.iload_n 2, 1) := by decide +kernel
theorem dX5_flip_6 : decode cX5_flip 6 = .ok (.invokevirtual 145, 3) := by decide +kernel
theorem dX5_flip_9 : decode cX5_flip 9 = .ok (.ifCond .ne 5, 3) := by decide +kernel
theorem dX5_flip_12 : decode cX5_flip 12 = .ok (.iconst (-1), 1) := by decide +kernel
theorem dX5_flip_13 : decode cX5_flip 13 = .ok (.ireturn, 1) := by decide +kernel
theorem dX5_flip_14 : decode cX5_flip 14 = .ok (.aload_n 0, 1) := by decide +kernel
theorem dX5_flip_15 : decode cX5_flip 15 = .ok (.getfield 30, 3) := by decide +kernel
theorem dX5_flip_18 : decode cX5_flip 18 = .ok (.aload_n 0, 1) := by decide +kernel
theorem dX5_flip_19 : decode cX5_flip 19 = .ok (.getfield 26, 3) := by decide +kernel
theorem dX5_flip_22 : decode cX5_flip 22 = .ok (.invokevirtual 79, 3) := by decide +kernel
theorem dX5_flip_25 : decode cX5_flip 25 = .ok (.aload_n 0, 1) := by decide +kernel
theorem dX5_flip_26 : decode cX5_flip 26 = .ok (.getfield 30, 3) := by decide +kernel
theorem dX5_flip_29 : decode cX5_flip 29 = .ok (.iload_n 1, 1) := by decide +kernel
theorem dX5_flip_30 : decode cX5_flip 30 = .ok (.iload_n 2, 1) := by decide +kernel
theorem dX5_flip_31 : decode cX5_flip 31 = .ok (.invokevirtual 152, 3) := by decide +kernel
theorem dX5_flip_34 : decode cX5_flip 34 = .ok (.aload_n 0, 1) := by decide +kernel
theorem dX5_flip_35 : decode cX5_flip 35 = .ok (.invokevirtual 131, 3) := by decide +kernel
theorem dX5_flip_38 : decode cX5_flip 38 = .ok (.ireturn, 1) := by decide +kernel
set_option maxRecDepth 20000 in
theorem ggX5_shift_X2_hasSpan : GoodIn wsX5_shift wsX2_hasSpan := goodIn_r _ [7, 8, 82, 83, 84] rfl (by decide +kernel)
set_option maxRecDepth 20000 in
theorem gX5_shift_X2_hasSpan : GoodIn wsX5_shift (wsV RX5 145 RX2 yX2_hasSpan wsX2_hasSpan) := goodIn_app (goodIn_r _ [3, 4, 5, 6] rfl (by decide +kernel)) ggX5_shift_X2_hasSpan
set_option maxRecDepth 20000 in
theorem ggX5_shift_X2_take : GoodIn wsX5_shift wsX2_take := goodIn_r _ [12, 8, 13, 14, 82, 83, 84] rfl (by decide +kernel)
set_option maxRecDepth 20000 in
theorem gX5_shift_X2_take : GoodIn wsX5_shift (wsV RX5 79 RX2 yX2_take wsX2_take) := goodIn_app (goodIn_r _ [9, 10, 11, 6] rfl (by decide +kernel)) ggX5_shift_X2_take
set_option maxRecDepth 20000 in
theorem ggX5_shift_X2_turn : GoodIn wsX5_shift wsX2_turn := goodIn_r _ [18, 19, 20, 21, 6, 22, 13, 14, 82, 83, 84] rfl (by decide +kernel)
set_option maxRecDepth 20000 in
theorem gX5_shift_X2_turn : GoodIn wsX5_shift (wsV RX5 152 RX2 yX2_turn wsX2_turn) := goodIn_app (goodIn_r _ [15, 16, 17, 6] rfl (by decide +kernel)) ggX5_shift_X2_turn
set_option maxRecDepth 20000 in
theorem ggX5_shift_X5_settle : GoodIn wsX5_shift wsX5_settle := goodIn_r _ [27, 2, 1, 28, 29, 30, 31, 32, 33, 6, 34, 8, 13, 14, 35, 36, 37, 38, 39, 40, 41, 42, 43, 44, 45, 46, 47, 48, 49, 50, 51, 10, 11, 12, 52, 53, 54, 26, 55, 56, 57, 58, 59, 60, 61, 62, 63, 64, 65, 66, 67, 68, 69, 9, 70, 71, 72, 73, 74, 75, 76, 77, 78, 79, 80, 81, 82, 83, 84, 85, 86, 87] rfl (by decide +kernel)
set_option maxRecDepth 20000 in
theorem gX5_shift_X5_settle : GoodIn wsX5_shift (wsV RX5 131 RX5 yX5_settle wsX5_settle) := goodIn_app (goodIn_r _ [23, 24, 25, 26] rfl (by decide +kernel)) ggX5_shift_X5_settle
theorem dX5_shift_0 : decode cX5_shift 0 = .ok (.aload_n 0, 1) := by decide +kernel
theorem dX5_shift_1 : decode cX5_shift 1 = .ok (.getfield 26, 3) := by decide +kernel
theorem dX5_shift_4 : decode cX5_shift 4 = .ok (.iload_n 1, 1) := by decide +kernel
theorem dX5_shift_5 : decode cX5_shift 5 = .ok (.iload_n 2, 1) := by decide +kernel
theorem dX5_shift_6 : decode cX5_shift 6 = .ok (.invokevirtual 145, 3) := by decide +kernel
theorem dX5_shift_9 : decode cX5_shift 9 = .ok (.ifCond .eq 16, 3) := by decide +kernel
theorem dX5_shift_12 : decode cX5_shift 12 = .ok (.iload_n 3, 1) := by decide +kernel
theorem dX5_shift_13 : decode cX5_shift 13 = .ok (.ifCond .lt 12, 3) := by decide +kernel
theorem dX5_shift_16 : decode cX5_shift 16 = .ok (.iload_n 3, 1) := by decide +kernel
theorem dX5_shift_17 : decode cX5_shift 17 = .ok (.iload_n 2, 1) := by decide +kernel
theorem dX5_shift_18 : decode cX5_shift 18 = .ok (.iload_n 1, 1) := by decide +kernel
theorem dX5_shift_19 : decode cX5_shift 19 = .ok (.isub, 1) := by decide +kernel
theorem dX5_shift_20 : decode cX5_shift 20 = .ok (.iconst 1, 1) := by decide +kernel
theorem dX5_shift_21 : decode cX5_shift 21 = .ok (.iadd, 1) := by decide +kernel
theorem dX5_shift_22 : decode cX5_shift 22 = .ok (.if_icmp .le 5, 3) := by decide +kernel
theorem dX5_shift_25 : decode cX5_shift 25 = .ok (.iconst (-1), 1) := by decide +kernel
theorem dX5_shift_26 : decode cX5_shift 26 = .ok (.ireturn, 1) := by decide +kernel
theorem dX5_shift_27 : decode cX5_shift 27 = .ok (.aload_n 0, 1) := by decide +kernel
theorem dX5_shift_28 : decode cX5_shift 28 = .ok (.getfield 30, 3) := by decide +kernel
theorem dX5_shift_31 : decode cX5_shift 31 = .ok (.aload_n 0, 1) := by decide +kernel
theorem dX5_shift_32 : decode cX5_shift 32 = .ok (.getfield 26, 3) := by decide +kernel
theorem dX5_shift_35 : decode cX5_shift 35 = .ok (.invokevirtual 79, 3) := by decide +kernel
theorem dX5_shift_38 : decode cX5_shift 38 = .ok (.aload_n 0, 1) := by decide +kernel
theorem dX5_shift_39 : decode cX5_shift 39 = .ok (.getfield 30, 3) := by decide +kernel
theorem dX5_shift_42 : decode cX5_shift 42 = .ok (.iload_n 1, 1) := by decide +kernel
theorem dX5_shift_43 : decode cX5_shift 43 = .ok (.iload_n 2, 1) := by decide +kernel
theorem dX5_shift_44 : decode cX5_shift 44 = .ok (.invokevirtual 152, 3) := by decide +kernel
theorem dX5_shift_47 : decode cX5_shift 47 = .ok (.aload_n 0, 1) := by decide +kernel
theorem dX5_shift_48 : decode cX5_shift 48 = .ok (.getfield 30, 3) := by decide +kernel
theorem dX5_shift_51 : decode cX5_shift 51 = .ok (.iload_n 1, 1) := by decide +kernel
theorem dX5_shift_52 : decode cX5_shift 52 = .ok (.iload_n 1, 1) := by decide +kernel
theorem dX5_shift_53 : decode cX5_shift 53 = .ok (.iload_n 3, 1) := by decide +kernel
theorem dX5_shift_54 : decode cX5_shift 54 = .ok (.iadd, 1) := by decide +kernel
theorem dX5_shift_55 : decode cX5_shift 55 = .ok (.iconst 1, 1) := by decide +kernel
theorem dX5_shift_56 : decode cX5_shift 56 = .ok (.isub, 1) := by decide +kernel
theorem dX5_shift_57 : decode cX5_shift 57 = .ok (.invokevirtual 152, 3) := by decide +kernel
theorem dX5_shift_60 : decode cX5_shift 60 = .ok (.aload_n 0, 1) := by decide +kernel
theorem dX5_shift_61 : decode cX5_shift 61 = .ok (.getfield 30, 3) := by decide +kernel
theorem dX5_shift_64 : decode cX5_shift 64 = .ok (.iload_n 1, 1) := by decide +kernel
theorem dX5_shift_65 : decode cX5_shift 65 = .ok (.iload_n 3, 1) := by decide +kernel
theorem dX5_shift_66 : decode cX5_shift 66 = .ok (.iadd, 1) := by decide +kernel
theorem dX5_shift_67 : decode cX5_shift 67 = .ok (.iload_n 2, 1) := by decide +kernel
theorem dX5_shift_68 : decode cX5_shift 68 = .ok (.invokevirtual 152, 3) := by decide +kernel
theorem dX5_shift_71 : decode cX5_shift 71 = .ok (.aload_n 0, 1) := by decide +kernel
theorem dX5_shift_72 : decode cX5_shift 72 = .ok (.invokevirtual 131, 3) := by decide +kernel
theorem dX5_shift_75 : decode cX5_shift 75 = .ok (.ireturn, 1) := by decide +kernel
set_option maxRecDepth 20000 in
theorem ggX5_replace_X5_isValue : GoodIn wsX5_replace wsX5_isValue := goodIn_r _ [8] rfl (by decide +kernel)
set_option maxRecDepth 20000 in
theorem gX5_replace_X5_isValue : GoodIn wsX5_replace (va_wsS RX5 128 yX5_isValue wsX5_isValue) := goodIn_app (goodIn_r _ [5, 6, 7] rfl (by decide +kernel)) ggX5_replace_X5_isValue
set_option maxRecDepth 20000 in
theorem ggX5_replace_X2_take : GoodIn wsX5_replace wsX2_take := goodIn_r _ [13, 14, 15, 16, 74, 75, 76] rfl (by decide +kernel)
set_option maxRecDepth 20000 in
theorem gX5_replace_X2_take : GoodIn wsX5_replace (wsV RX5 79 RX2 yX2_take wsX2_take) := goodIn_app (goodIn_r _ [9, 10, 11, 12] rfl (by decide +kernel)) ggX5_replace_X2_take
set_option maxRecDepth 20000 in
theorem ggX5_replace_X5_settle : GoodIn wsX5_replace wsX5_settle := goodIn_r _ [20, 1, 2, 3, 21, 22, 23, 24, 25, 12, 26, 14, 15, 16, 27, 28, 29, 30, 31, 32, 33, 34, 35, 36, 37, 38, 39, 40, 41, 42, 43, 10, 11, 13, 44, 45, 46, 7, 47, 48, 49, 50, 51, 52, 53, 54, 55, 56, 57, 58, 59, 60, 61, 9, 62, 63, 64, 65, 66, 67, 68, 69, 70, 71, 72, 73, 74, 75, 76, 77, 78, 79] rfl (by decide +kernel)
set_option maxRecDepth 20000 in
theorem gX5_replace_X5_settle : GoodIn wsX5_replace (wsV RX5 131 RX5 yX5_settle wsX5_settle) := goodIn_app (goodIn_r _ [17, 18, 19, 7] rfl (by decide +kernel)) ggX5_replace_X5_settle
theorem dX5_replace_0 : decode cX5_replace 0 = .ok (.iload_n 1, 1) := by decide +kernel
theorem dX5_replace_1 : decode cX5_replace 1 = .ok (.invokestatic 128, 3) := by decide +kernel
theorem dX5_replace_4 : decode cX5_replace 4 = .ok (.ifCond .eq 10, 3) := by decide +kernel
theorem dX5_replace_7 : decode cX5_replace 7 = .ok (.iload_n 2, 1) := by decide +kernel
theorem dX5_replace_8 : decode cX5_replace 8 = .ok (.invokestatic 128, 3) := by decide +kernel
theorem dX5_replace_11 : decode cX5_replace 11 = .ok (.ifCond .ne 5, 3) := by decide +kernel
theorem dX5_replace_14 : decode cX5_replace 14 = .ok (.iconst (-1), 1) := by decide +kernel
theorem dX5_replace_15 : decode cX5_replace 15 = .ok (.ireturn, 1) := by decide +kernel
theorem dX5_replace_16 : decode cX5_replace 16 = .ok (.aload_n 0, 1) := by decide +kernel
theorem dX5_replace_17 : decode cX5_replace 17 = .ok (.getfield 30, 3) := by decide +kernel
theorem dX5_replace_20 : decode cX5_replace 20 = .ok (.aload_n 0, 1) := by decide +kernel
theorem dX5_replace_21 : decode cX5_replace 21 = .ok (.getfield 26, 3) := by decide +kernel
theorem dX5_replace_24 : decode cX5_replace 24 = .ok (.invokevirtual 79, 3) := by decide +kernel
theorem dX5_replace_27 : decode cX5_replace 27 = .ok (.iconst 0, 1) := by decide +kernel
theorem dX5_replace_28 : decode cX5_replace 28 = .ok (.istore_n 3, 1) := by decide +kernel
theorem dX5_replace_29 : decode cX5_replace 29 = .ok (.iload_n 3, 1) := by decide +kernel
theorem dX5_replace_30 : decode cX5_replace 30 = .ok (.aload_n 0, 1) := by decide +kernel
theorem dX5_replace_31 : decode cX5_replace 31 = .ok (.getfield 30, 3) := by decide +kernel
theorem dX5_replace_34 : decode cX5_replace 34 = .ok (.getfield 135, 3) := by decide +kernel
theorem dX5_replace_37 : decode cX5_replace 37 = .ok (.if_icmp .ge 32, 3) := by decide +kernel
theorem dX5_replace_40 : decode cX5_replace 40 = .ok (.aload_n 0, 1) := by decide +kernel
theorem dX5_replace_41 : decode cX5_replace 41 = .ok (.getfield 30, 3) := by decide +kernel
theorem dX5_replace_44 : decode cX5_replace 44 = .ok (.getfield 106, 3) := by decide +kernel
theorem dX5_replace_47 : decode cX5_replace 47 = .ok (.iload_n 3, 1) := by decide +kernel
theorem dX5_replace_48 : decode cX5_replace 48 = .ok (.iaload, 1) := by decide +kernel
theorem dX5_replace_49 : decode cX5_replace 49 = .ok (.iload_n 1, 1) := by decide +kernel
theorem dX5_replace_50 : decode cX5_replace 50 = .ok (.if_icmp .ne 13, 3) := by decide +kernel
theorem dX5_replace_53 : decode cX5_replace 53 = .ok (.aload_n 0, 1) := by decide +kernel
theorem dX5_replace_54 : decode cX5_replace 54 = .ok (.getfield 30, 3) := by decide +kernel
theorem dX5_replace_57 : decode cX5_replace 57 = .ok (.getfield 106, 3) := by decide +kernel
theorem dX5_replace_60 : decode cX5_replace 60 = .ok (.iload_n 3, 1) := by decide +kernel
theorem dX5_replace_61 : decode cX5_replace 61 = .ok (.iload_n 2, 1) := by decide +kernel
theorem dX5_replace_62 : decode cX5_replace 62 = .ok (.iastore, 1) := by decide +kernel
theorem dX5_replace_63 : decode cX5_replace 63 = .ok (.iinc 3 1, 3) := by decide +kernel
theorem dX5_replace_66 : decode cX5_replace 66 = .ok (.goto (-37), 3) := by decide +kernel
theorem dX5_replace_69 : decode cX5_replace 69 = .ok (.aload_n 0, 1) := by decide +kernel
theorem dX5_replace_70 : decode cX5_replace 70 = .ok (.invokevirtual 131, 3) := by decide +kernel
theorem dX5_replace_73 : decode cX5_replace 73 = .ok (.ireturn, 1) := by decide +kernel
set_option maxRecDepth 20000 in
theorem ggX5_sort_X2_hasSpan : GoodIn wsX5_sort wsX2_hasSpan := goodIn_r _ [7, 8, 86, 87, 88] rfl (by decide +kernel)
set_option maxRecDepth 20000 in
theorem gX5_sort_X2_hasSpan : GoodIn wsX5_sort (wsV RX5 145 RX2 yX2_hasSpan wsX2_hasSpan) := goodIn_app (goodIn_r _ [3, 4, 5, 6] rfl (by decide +kernel)) ggX5_sort_X2_hasSpan
set_option maxRecDepth 20000 in
theorem ggX5_sort_X2_take : GoodIn wsX5_sort wsX2_take := goodIn_r _ [12, 8, 13, 14, 86, 87, 88] rfl (by decide +kernel)
set_option maxRecDepth 20000 in
theorem gX5_sort_X2_take : GoodIn wsX5_sort (wsV RX5 79 RX2 yX2_take wsX2_take) := goodIn_app (goodIn_r _ [9, 10, 11, 6] rfl (by decide +kernel)) ggX5_sort_X2_take
set_option maxRecDepth 20000 in
theorem ggX5_sort_X2_order : GoodIn wsX5_sort wsX2_order := goodIn_r _ [18, 13, 19, 20, 21, 6, 22, 23, 24, 25, 26, 14, 86, 87, 88] rfl (by decide +kernel)
set_option maxRecDepth 20000 in
theorem gX5_sort_X2_order : GoodIn wsX5_sort (wsV RX5 155 RX2 yX2_order wsX2_order) := goodIn_app (goodIn_r _ [15, 16, 17, 6] rfl (by decide +kernel)) ggX5_sort_X2_order
set_option maxRecDepth 20000 in
theorem ggX5_sort_X5_settle : GoodIn wsX5_sort wsX5_settle := goodIn_r _ [31, 2, 1, 32, 33, 34, 35, 36, 37, 6, 38, 8, 13, 14, 39, 40, 41, 42, 43, 44, 45, 46, 47, 48, 49, 50, 51, 52, 53, 54, 55, 10, 11, 12, 56, 57, 58, 30, 59, 60, 61, 62, 63, 64, 65, 66, 67, 68, 69, 70, 71, 72, 73, 9, 74, 75, 76, 77, 78, 79, 80, 81, 82, 83, 84, 85, 86, 87, 88, 89, 90, 91] rfl (by decide +kernel)
set_option maxRecDepth 20000 in
theorem gX5_sort_X5_settle : GoodIn wsX5_sort (wsV RX5 131 RX5 yX5_settle wsX5_settle) := goodIn_app (goodIn_r _ [27, 28, 29, 30] rfl (by decide +kernel)) ggX5_sort_X5_settle
theorem dX5_sort_0 : decode cX5_sort 0 = .ok (.aload_n 0, 1) := by decide +kernel
theorem dX5_sort_1 : decode cX5_sort 1 = .ok (.getfield 26, 3) := by decide +kernel
theorem dX5_sort_4 : decode cX5_sort 4 = .ok (.iload_n 1, 1) := by decide +kernel
theorem dX5_sort_5 : decode cX5_sort 5 = .ok (.iload_n 2, 1) := by decide +kernel
theorem dX5_sort_6 : decode cX5_sort 6 = .ok (.invokevirtual 145, 3) := by decide +kernel
theorem dX5_sort_9 : decode cX5_sort 9 = .ok (.ifCond .ne 5, 3) := by decide +kernel
theorem dX5_sort_12 : decode cX5_sort 12 = .ok (.iconst (-1), 1) := by decide +kernel
theorem dX5_sort_13 : decode cX5_sort 13 = .ok (.ireturn, 1) := by decide +kernel
theorem dX5_sort_14 : decode cX5_sort 14 = .ok (.aload_n 0, 1) := by decide +kernel
theorem dX5_sort_15 : decode cX5_sort 15 = .ok (.getfield 30, 3) := by decide +kernel
theorem dX5_sort_18 : decode cX5_sort 18 = .ok (.aload_n 0, 1) := by decide +kernel
theorem dX5_sort_19 : decode cX5_sort 19 = .ok (.getfield 26, 3) := by decide +kernel
theorem dX5_sort_22 : decode cX5_sort 22 = .ok (.invokevirtual 79, 3) := by decide +kernel
theorem dX5_sort_25 : decode cX5_sort 25 = .ok (.aload_n 0, 1) := by decide +kernel
theorem dX5_sort_26 : decode cX5_sort 26 = .ok (.getfield 30, 3) := by decide +kernel
theorem dX5_sort_29 : decode cX5_sort 29 = .ok (.iload_n 1, 1) := by decide +kernel
theorem dX5_sort_30 : decode cX5_sort 30 = .ok (.iload_n 2, 1) := by decide +kernel
theorem dX5_sort_31 : decode cX5_sort 31 = .ok (.iload_n 3, 1) := by decide +kernel
theorem dX5_sort_32 : decode cX5_sort 32 = .ok (.invokevirtual 155, 3) := by decide +kernel
theorem dX5_sort_35 : decode cX5_sort 35 = .ok (.aload_n 0, 1) := by decide +kernel
theorem dX5_sort_36 : decode cX5_sort 36 = .ok (.invokevirtual 131, 3) := by decide +kernel
theorem dX5_sort_39 : decode cX5_sort 39 = .ok (.ireturn, 1) := by decide +kernel
theorem dX5_refreshed_0 : decode cX5_refreshed 0 = .ok (.aload_n 0, 1) := by decide +kernel
theorem dX5_refreshed_1 : decode cX5_refreshed 1 = .ok (.getfield 64, 3) := by decide +kernel
theorem dX5_refreshed_4 : decode cX5_refreshed 4 = .ok (.ireturn, 1) := by decide +kernel
set_option maxRecDepth 20000 in
theorem ggX5_undo_X0_ago : GoodIn wsX5_undo wsX0_ago := goodIn_r _ [9, 10, 11, 12, 13, 14, 15, 68, 69, 70] rfl (by decide +kernel)
set_option maxRecDepth 20000 in
theorem gX5_undo_X0_ago : GoodIn wsX5_undo (wsV RX5 159 RX0 yX0_ago wsX0_ago) := goodIn_app (goodIn_r _ [5, 6, 7, 8] rfl (by decide +kernel)) ggX5_undo_X0_ago
set_option maxRecDepth 20000 in
theorem ggX5_undo_X5_pairsTouched : GoodIn wsX5_undo wsX5_pairsTouched := goodIn_r _ [20, 21, 22, 23, 19, 24, 25, 26, 27, 28, 29, 30, 31, 32, 33, 34, 35, 36, 37, 38, 39, 40, 41, 42, 43, 44, 45, 71, 72, 73, 56, 57, 58, 59, 60, 61, 62, 63, 64, 65, 66, 67] rfl (by decide +kernel)
set_option maxRecDepth 20000 in
theorem gX5_undo_X5_pairsTouched : GoodIn wsX5_undo (wsV RX5 163 RX5 yX5_pairsTouched wsX5_pairsTouched) := goodIn_app (goodIn_r _ [16, 17, 18, 19] rfl (by decide +kernel)) ggX5_undo_X5_pairsTouched
set_option maxRecDepth 20000 in
theorem ggX5_undo_X2_take : GoodIn wsX5_undo wsX2_take := goodIn_r _ [49, 44, 45, 50, 71, 72, 73] rfl (by decide +kernel)
set_option maxRecDepth 20000 in
theorem gX5_undo_X2_take : GoodIn wsX5_undo (wsV RX5 79 RX2 yX2_take wsX2_take) := goodIn_app (goodIn_r _ [46, 47, 48, 42] rfl (by decide +kernel)) ggX5_undo_X2_take
set_option maxRecDepth 20000 in
theorem ggX5_undo_X0_dropLatest : GoodIn wsX5_undo wsX0_dropLatest := goodIn_r _ [54, 11, 55, 12, 13, 14, 15, 68, 69, 70] rfl (by decide +kernel)
set_option maxRecDepth 20000 in
theorem gX5_undo_X0_dropLatest : GoodIn wsX5_undo (wsV RX5 167 RX0 yX0_dropLatest wsX0_dropLatest) := goodIn_app (goodIn_r _ [51, 52, 53, 8] rfl (by decide +kernel)) ggX5_undo_X0_dropLatest
theorem dX5_undo_0 : decode cX5_undo 0 = .ok (.aload_n 0, 1) := by decide +kernel
theorem dX5_undo_1 : decode cX5_undo 1 = .ok (.getfield 36, 3) := by decide +kernel
theorem dX5_undo_4 : decode cX5_undo 4 = .ok (.getfield 86, 3) := by decide +kernel
theorem dX5_undo_7 : decode cX5_undo 7 = .ok (.ifCond .ne 5, 3) := by decide +kernel
theorem dX5_undo_10 : decode cX5_undo 10 = .ok (.iconst (-1), 1) := by decide +kernel
theorem dX5_undo_11 : decode cX5_undo 11 = .ok (.ireturn, 1) := by decide +kernel
theorem dX5_undo_12 : decode cX5_undo 12 = .ok (.aload_n 0, 1) := by decide +kernel
theorem dX5_undo_13 : decode cX5_undo 13 = .ok (.getfield 36, 3) := by decide +kernel
theorem dX5_undo_16 : decode cX5_undo 16 = .ok (.iconst 1, 1) := by decide +kernel
theorem dX5_undo_17 : decode cX5_undo 17 = .ok (.invokevirtual 159, 3) := by decide +kernel
theorem dX5_undo_20 : decode cX5_undo 20 = .ok (.astore_n 1, 1) := by decide +kernel
theorem dX5_undo_21 : decode cX5_undo 21 = .ok (.aload_n 0, 1) := by decide +kernel
theorem dX5_undo_22 : decode cX5_undo 22 = .ok (.aload_n 0, 1) := by decide +kernel
theorem dX5_undo_23 : decode cX5_undo 23 = .ok (.aload_n 0, 1) := by decide +kernel
theorem dX5_undo_24 : decode cX5_undo 24 = .ok (.getfield 26, 3) := by decide +kernel
theorem dX5_undo_27 : decode cX5_undo 27 = .ok (.aload_n 1, 1) := by decide +kernel
theorem dX5_undo_28 : decode cX5_undo 28 = .ok (.invokevirtual 163, 3) := by decide +kernel
theorem dX5_undo_31 : decode cX5_undo 31 = .ok (.putfield 64, 3) := by decide +kernel
theorem dX5_undo_34 : decode cX5_undo 34 = .ok (.aload_n 0, 1) := by decide +kernel
theorem dX5_undo_35 : decode cX5_undo 35 = .ok (.getfield 26, 3) := by decide +kernel
theorem dX5_undo_38 : decode cX5_undo 38 = .ok (.aload_n 1, 1) := by decide +kernel
theorem dX5_undo_39 : decode cX5_undo 39 = .ok (.invokevirtual 79, 3) := by decide +kernel
theorem dX5_undo_42 : decode cX5_undo 42 = .ok (.aload_n 0, 1) := by decide +kernel
theorem dX5_undo_43 : decode cX5_undo 43 = .ok (.getfield 36, 3) := by decide +kernel
theorem dX5_undo_46 : decode cX5_undo 46 = .ok (.invokevirtual 167, 3) := by decide +kernel
theorem dX5_undo_49 : decode cX5_undo 49 = .ok (.aload_n 0, 1) := by decide +kernel
theorem dX5_undo_50 : decode cX5_undo 50 = .ok (.getfield 36, 3) := by decide +kernel
theorem dX5_undo_53 : decode cX5_undo 53 = .ok (.getfield 86, 3) := by decide +kernel
theorem dX5_undo_56 : decode cX5_undo 56 = .ok (.ireturn, 1) := by decide +kernel
set_option maxRecDepth 20000 in
theorem ggX5_was_X0_ago : GoodIn wsX5_was wsX0_ago := goodIn_r _ [9, 10, 11, 12, 13, 14, 15, 34, 35, 36] rfl (by decide +kernel)
set_option maxRecDepth 20000 in
theorem gX5_was_X0_ago : GoodIn wsX5_was (wsV RX5 159 RX0 yX0_ago wsX0_ago) := goodIn_app (goodIn_r _ [5, 6, 7, 8] rfl (by decide +kernel)) ggX5_was_X0_ago
set_option maxRecDepth 20000 in
theorem ggX5_was_X2_has : GoodIn wsX5_was wsX2_has := goodIn_r _ [20, 21, 37, 38, 39] rfl (by decide +kernel)
set_option maxRecDepth 20000 in
theorem gX5_was_X2_has : GoodIn wsX5_was (wsV RX5 95 RX2 yX2_has wsX2_has) := goodIn_app (goodIn_r _ [16, 17, 18, 19] rfl (by decide +kernel)) ggX5_was_X2_has
theorem dX5_was_0 : decode cX5_was 0 = .ok (.iload_n 1, 1) := by decide +kernel
theorem dX5_was_1 : decode cX5_was 1 = .ok (.ifCond .lt 18, 3) := by decide +kernel
theorem dX5_was_4 : decode cX5_was 4 = .ok (.iload_n 1, 1) := by decide +kernel
theorem dX5_was_5 : decode cX5_was 5 = .ok (.aload_n 0, 1) := by decide +kernel
theorem dX5_was_6 : decode cX5_was 6 = .ok (.getfield 36, 3) := by decide +kernel
theorem dX5_was_9 : decode cX5_was 9 = .ok (.getfield 86, 3) := by decide +kernel
theorem dX5_was_12 : decode cX5_was 12 = .ok (.if_icmp .gt 7, 3) := by decide +kernel
theorem dX5_was_15 : decode cX5_was 15 = .ok (.iload_n 2, 1) := by decide +kernel
theorem dX5_was_16 : decode cX5_was 16 = .ok (.ifCond .ge 5, 3) := by decide +kernel
theorem dX5_was_19 : decode cX5_was 19 = .ok (.iconst (-1), 1) := by decide +kernel
theorem dX5_was_20 : decode cX5_was 20 = .ok (.ireturn, 1) := by decide +kernel
theorem dX5_was_21 : decode cX5_was 21 = .ok (.iload_n 1, 1) := by decide +kernel
theorem dX5_was_22 : decode cX5_was 22 = .ok (.ifCond .ne 10, 3) := by decide +kernel
theorem dX5_was_25 : decode cX5_was 25 = .ok (.aload_n 0, 1) := by decide +kernel
theorem dX5_was_26 : decode cX5_was 26 = .ok (.getfield 26, 3) := by decide +kernel
theorem dX5_was_29 : decode cX5_was 29 = .ok (.goto 11, 3) := by decide +kernel
theorem dX5_was_32 : decode cX5_was 32 = .ok (.aload_n 0, 1) := by decide +kernel
theorem dX5_was_33 : decode cX5_was 33 = .ok (.getfield 36, 3) := by decide +kernel
theorem dX5_was_36 : decode cX5_was 36 = .ok (.iload_n 1, 1) := by decide +kernel
theorem dX5_was_37 : decode cX5_was 37 = .ok (.invokevirtual 159, 3) := by decide +kernel
theorem dX5_was_40 : decode cX5_was 40 = .ok (.astore_n 3, 1) := by decide +kernel
theorem dX5_was_41 : decode cX5_was 41 = .ok (.aload_n 3, 1) := by decide +kernel
theorem dX5_was_42 : decode cX5_was 42 = .ok (.iload_n 2, 1) := by decide +kernel
theorem dX5_was_43 : decode cX5_was 43 = .ok (.invokevirtual 95, 3) := by decide +kernel
theorem dX5_was_46 : decode cX5_was 46 = .ok (.ifCond .eq 12, 3) := by decide +kernel
theorem dX5_was_49 : decode cX5_was 49 = .ok (.aload_n 3, 1) := by decide +kernel
theorem dX5_was_50 : decode cX5_was 50 = .ok (.getfield 106, 3) := by decide +kernel
theorem dX5_was_53 : decode cX5_was 53 = .ok (.iload_n 2, 1) := by decide +kernel
theorem dX5_was_54 : decode cX5_was 54 = .ok (.iaload, 1) := by decide +kernel
theorem dX5_was_55 : decode cX5_was 55 = .ok (.goto 5, 3) := by decide +kernel
theorem dX5_was_58 : decode cX5_was 58 = .ok (.bipush (-2), 2) := by decide +kernel
theorem dX5_was_60 : decode cX5_was 60 = .ok (.ireturn, 1) := by decide +kernel
set_option maxRecDepth 20000 in
theorem ggX5_mode_X2_hasSpan : GoodIn wsX5_mode wsX2_hasSpan := goodIn_r _ [8, 9, 65, 66, 67] rfl (by decide +kernel)
set_option maxRecDepth 20000 in
theorem gX5_mode_X2_hasSpan : GoodIn wsX5_mode (wsV RX5 145 RX2 yX2_hasSpan wsX2_hasSpan) := goodIn_app (goodIn_r _ [4, 5, 6, 7] rfl (by decide +kernel)) ggX5_mode_X2_hasSpan
set_option maxRecDepth 20000 in
theorem ggX5_mode_X5_isBelow : GoodIn wsX5_mode wsX5_isBelow := goodIn_r _ [13] rfl (by decide +kernel)
set_option maxRecDepth 20000 in
theorem gX5_mode_X5_isBelow : GoodIn wsX5_mode (va_wsS RX5 170 yX5_isBelow wsX5_isBelow) := goodIn_app (goodIn_r _ [10, 11, 12] rfl (by decide +kernel)) ggX5_mode_X5_isBelow
set_option maxRecDepth 20000 in
theorem ggX5_mode_X5_tallySpan : GoodIn wsX5_mode wsX5_tallySpan := goodIn_r _ [17, 2, 18, 1, 19, 20, 21, 22, 23, 24, 25, 26, 27, 28, 29, 30, 31, 32, 33, 34, 35, 36, 37, 38, 39, 40, 45, 46, 47, 48, 49, 50, 51, 52, 53, 54, 55, 56, 65, 66, 67, 57, 58, 59, 60, 61, 62, 63, 64] rfl (by decide +kernel)
set_option maxRecDepth 20000 in
theorem gX5_mode_X5_tallySpan : GoodIn wsX5_mode (wsV RX5 173 RX5 yX5_tallySpan wsX5_tallySpan) := goodIn_app (goodIn_r _ [14, 15, 16, 12] rfl (by decide +kernel)) ggX5_mode_X5_tallySpan
set_option maxRecDepth 20000 in
theorem ggX5_mode_X3_told : GoodIn wsX5_mode wsX3_told := goodIn_r _ [44, 26, 35, 36, 57, 58, 59, 60, 61, 62, 63, 64] rfl (by decide +kernel)
set_option maxRecDepth 20000 in
theorem gX5_mode_X3_told : GoodIn wsX5_mode (wsV RX5 179 RX3 yX3_told wsX3_told) := goodIn_app (goodIn_r _ [41, 42, 43, 23] rfl (by decide +kernel)) ggX5_mode_X3_told
theorem dX5_mode_0 : decode cX5_mode 0 = .ok (.aload_n 0, 1) := by decide +kernel
theorem dX5_mode_1 : decode cX5_mode 1 = .ok (.getfield 26, 3) := by decide +kernel
theorem dX5_mode_4 : decode cX5_mode 4 = .ok (.iload_n 1, 1) := by decide +kernel
theorem dX5_mode_5 : decode cX5_mode 5 = .ok (.iload_n 2, 1) := by decide +kernel
theorem dX5_mode_6 : decode cX5_mode 6 = .ok (.invokevirtual 145, 3) := by decide +kernel
theorem dX5_mode_9 : decode cX5_mode 9 = .ok (.ifCond .eq 11, 3) := by decide +kernel
theorem dX5_mode_12 : decode cX5_mode 12 = .ok (.iload_n 3, 1) := by decide +kernel
theorem dX5_mode_13 : decode cX5_mode 13 = .ok (.iconst 4, 1) := by decide +kernel
theorem dX5_mode_14 : decode cX5_mode 14 = .ok (.invokestatic 170, 3) := by decide +kernel
theorem dX5_mode_17 : decode cX5_mode 17 = .ok (.ifCond .ne 5, 3) := by decide +kernel
theorem dX5_mode_20 : decode cX5_mode 20 = .ok (.iconst (-1), 1) := by decide +kernel
theorem dX5_mode_21 : decode cX5_mode 21 = .ok (.ireturn, 1) := by decide +kernel
theorem dX5_mode_22 : decode cX5_mode 22 = .ok (.aload_n 0, 1) := by decide +kernel
theorem dX5_mode_23 : decode cX5_mode 23 = .ok (.iload_n 1, 1) := by decide +kernel
theorem dX5_mode_24 : decode cX5_mode 24 = .ok (.iload_n 2, 1) := by decide +kernel
theorem dX5_mode_25 : decode cX5_mode 25 = .ok (.invokevirtual 173, 3) := by decide +kernel
theorem dX5_mode_28 : decode cX5_mode 28 = .ok (.aload_n 0, 1) := by decide +kernel
theorem dX5_mode_29 : decode cX5_mode 29 = .ok (.getfield 43, 3) := by decide +kernel
theorem dX5_mode_32 : decode cX5_mode 32 = .ok (.aload_n 0, 1) := by decide +kernel
theorem dX5_mode_33 : decode cX5_mode 33 = .ok (.getfield 43, 3) := by decide +kernel
theorem dX5_mode_36 : decode cX5_mode 36 = .ok (.getfield 176, 3) := by decide +kernel
theorem dX5_mode_39 : decode cX5_mode 39 = .ok (.iload_n 3, 1) := by decide +kernel
theorem dX5_mode_40 : decode cX5_mode 40 = .ok (.iload_n 1, 1) := by decide +kernel
theorem dX5_mode_41 : decode cX5_mode 41 = .ok (.invokevirtual 179, 3) := by decide +kernel
theorem dX5_mode_44 : decode cX5_mode 44 = .ok (.ireturn, 1) := by decide +kernel
set_option maxRecDepth 20000 in
theorem ggX5_ranked_X2_hasSpan : GoodIn wsX5_ranked wsX2_hasSpan := goodIn_r _ [9, 10, 70, 71, 72] rfl (by decide +kernel)
set_option maxRecDepth 20000 in
theorem gX5_ranked_X2_hasSpan : GoodIn wsX5_ranked (wsV RX5 145 RX2 yX2_hasSpan wsX2_hasSpan) := goodIn_app (goodIn_r _ [5, 6, 7, 8] rfl (by decide +kernel)) ggX5_ranked_X2_hasSpan
set_option maxRecDepth 20000 in
theorem ggX5_ranked_X5_isBelow : GoodIn wsX5_ranked wsX5_isBelow := goodIn_r _ [14] rfl (by decide +kernel)
set_option maxRecDepth 20000 in
theorem gX5_ranked_X5_isBelow : GoodIn wsX5_ranked (va_wsS RX5 170 yX5_isBelow wsX5_isBelow) := goodIn_app (goodIn_r _ [11, 12, 13] rfl (by decide +kernel)) ggX5_ranked_X5_isBelow
set_option maxRecDepth 20000 in
theorem ggX5_ranked_X5_tallySpan : GoodIn wsX5_ranked wsX5_tallySpan := goodIn_r _ [18, 2, 19, 1, 20, 21, 22, 23, 24, 25, 26, 27, 28, 29, 30, 31, 32, 33, 34, 35, 36, 37, 38, 39, 40, 41, 50, 51, 52, 53, 54, 55, 56, 57, 58, 59, 60, 61, 70, 71, 72, 62, 63, 64, 65, 66, 67, 68, 69] rfl (by decide +kernel)
set_option maxRecDepth 20000 in
theorem gX5_ranked_X5_tallySpan : GoodIn wsX5_ranked (wsV RX5 173 RX5 yX5_tallySpan wsX5_tallySpan) := goodIn_app (goodIn_r _ [15, 16, 17, 13] rfl (by decide +kernel)) ggX5_ranked_X5_tallySpan
set_option maxRecDepth 20000 in
theorem ggX5_ranked_X3_order : GoodIn wsX5_ranked wsX3_order := goodIn_r _ [45, 26, 28, 38, 39, 40, 24, 41, 27, 31, 36, 37, 62, 63, 64, 65, 66, 67, 68, 69] rfl (by decide +kernel)
set_option maxRecDepth 20000 in
theorem gX5_ranked_X3_order : GoodIn wsX5_ranked (wsV RX5 185 RX3 yX3_order wsX3_order) := goodIn_app (goodIn_r _ [42, 43, 44, 24] rfl (by decide +kernel)) ggX5_ranked_X3_order
set_option maxRecDepth 20000 in
theorem ggX5_ranked_X3_told : GoodIn wsX5_ranked wsX3_told := goodIn_r _ [49, 27, 36, 37, 62, 63, 64, 65, 66, 67, 68, 69] rfl (by decide +kernel)
set_option maxRecDepth 20000 in
theorem gX5_ranked_X3_told : GoodIn wsX5_ranked (wsV RX5 179 RX3 yX3_told wsX3_told) := goodIn_app (goodIn_r _ [46, 47, 48, 24] rfl (by decide +kernel)) ggX5_ranked_X3_told
theorem dX5_ranked_0 : decode cX5_ranked 0 = .ok (.aload_n 0, 1) := by decide +kernel
theorem dX5_ranked_1 : decode cX5_ranked 1 = .ok (.getfield 26, 3) := by decide +kernel
theorem dX5_ranked_4 : decode cX5_ranked 4 = .ok (.iload_n 1, 1) := by decide +kernel
theorem dX5_ranked_5 : decode cX5_ranked 5 = .ok (.iload_n 2, 1) := by decide +kernel
theorem dX5_ranked_6 : decode cX5_ranked 6 = .ok (.invokevirtual 145, 3) := by decide +kernel
theorem dX5_ranked_9 : decode cX5_ranked 9 = .ok (.ifCond .eq 16, 3) := by decide +kernel
theorem dX5_ranked_12 : decode cX5_ranked 12 = .ok (.iload_n 3, 1) := by decide +kernel
theorem dX5_ranked_13 : decode cX5_ranked 13 = .ok (.ifCond .lt 12, 3) := by decide +kernel
theorem dX5_ranked_16 : decode cX5_ranked 16 = .ok (.iload 4, 2) := by decide +kernel
theorem dX5_ranked_18 : decode cX5_ranked 18 = .ok (.iconst 4, 1) := by decide +kernel
theorem dX5_ranked_19 : decode cX5_ranked 19 = .ok (.invokestatic 170, 3) := by decide +kernel
theorem dX5_ranked_22 : decode cX5_ranked 22 = .ok (.ifCond .ne 5, 3) := by decide +kernel
theorem dX5_ranked_25 : decode cX5_ranked 25 = .ok (.iconst (-1), 1) := by decide +kernel
theorem dX5_ranked_26 : decode cX5_ranked 26 = .ok (.ireturn, 1) := by decide +kernel
theorem dX5_ranked_27 : decode cX5_ranked 27 = .ok (.aload_n 0, 1) := by decide +kernel
theorem dX5_ranked_28 : decode cX5_ranked 28 = .ok (.iload_n 1, 1) := by decide +kernel
theorem dX5_ranked_29 : decode cX5_ranked 29 = .ok (.iload_n 2, 1) := by decide +kernel
theorem dX5_ranked_30 : decode cX5_ranked 30 = .ok (.invokevirtual 173, 3) := by decide +kernel
theorem dX5_ranked_33 : decode cX5_ranked 33 = .ok (.iload_n 3, 1) := by decide +kernel
theorem dX5_ranked_34 : decode cX5_ranked 34 = .ok (.aload_n 0, 1) := by decide +kernel
theorem dX5_ranked_35 : decode cX5_ranked 35 = .ok (.getfield 43, 3) := by decide +kernel
theorem dX5_ranked_38 : decode cX5_ranked 38 = .ok (.getfield 182, 3) := by decide +kernel
theorem dX5_ranked_41 : decode cX5_ranked 41 = .ok (.if_icmp .lt 6, 3) := by decide +kernel
theorem dX5_ranked_44 : decode cX5_ranked 44 = .ok (.bipush (-2), 2) := by decide +kernel
theorem dX5_ranked_46 : decode cX5_ranked 46 = .ok (.ireturn, 1) := by decide +kernel
theorem dX5_ranked_47 : decode cX5_ranked 47 = .ok (.aload_n 0, 1) := by decide +kernel
theorem dX5_ranked_48 : decode cX5_ranked 48 = .ok (.getfield 43, 3) := by decide +kernel
theorem dX5_ranked_51 : decode cX5_ranked 51 = .ok (.invokevirtual 185, 3) := by decide +kernel
theorem dX5_ranked_54 : decode cX5_ranked 54 = .ok (.aload_n 0, 1) := by decide +kernel
theorem dX5_ranked_55 : decode cX5_ranked 55 = .ok (.getfield 43, 3) := by decide +kernel
theorem dX5_ranked_58 : decode cX5_ranked 58 = .ok (.aload_n 0, 1) := by decide +kernel
theorem dX5_ranked_59 : decode cX5_ranked 59 = .ok (.getfield 43, 3) := by decide +kernel
theorem dX5_ranked_62 : decode cX5_ranked 62 = .ok (.getfield 187, 3) := by decide +kernel
theorem dX5_ranked_65 : decode cX5_ranked 65 = .ok (.iload_n 3, 1) := by decide +kernel
theorem dX5_ranked_66 : decode cX5_ranked 66 = .ok (.iaload, 1) := by decide +kernel
theorem dX5_ranked_67 : decode cX5_ranked 67 = .ok (.iload 4, 2) := by decide +kernel
theorem dX5_ranked_69 : decode cX5_ranked 69 = .ok (.iload_n 1, 1) := by decide +kernel
theorem dX5_ranked_70 : decode cX5_ranked 70 = .ok (.invokevirtual 179, 3) := by decide +kernel
theorem dX5_ranked_73 : decode cX5_ranked 73 = .ok (.ireturn, 1) := by decide +kernel
set_option maxRecDepth 20000 in
theorem ggX5_rank_X2_hasSpan : GoodIn wsX5_rank wsX2_hasSpan := goodIn_r _ [10, 11, 64, 65, 66] rfl (by decide +kernel)
set_option maxRecDepth 20000 in
theorem gX5_rank_X2_hasSpan : GoodIn wsX5_rank (wsV RX5 145 RX2 yX2_hasSpan wsX2_hasSpan) := goodIn_app (goodIn_r _ [6, 7, 8, 9] rfl (by decide +kernel)) ggX5_rank_X2_hasSpan
set_option maxRecDepth 20000 in
theorem ggX5_rank_X5_isValue : GoodIn wsX5_rank wsX5_isValue := goodIn_r _ [15] rfl (by decide +kernel)
set_option maxRecDepth 20000 in
theorem gX5_rank_X5_isValue : GoodIn wsX5_rank (va_wsS RX5 128 yX5_isValue wsX5_isValue) := goodIn_app (goodIn_r _ [12, 13, 14] rfl (by decide +kernel)) ggX5_rank_X5_isValue
set_option maxRecDepth 20000 in
theorem ggX5_rank_X5_tallySpan : GoodIn wsX5_rank wsX5_tallySpan := goodIn_r _ [19, 2, 20, 1, 21, 22, 23, 24, 25, 26, 27, 28, 29, 30, 31, 32, 33, 34, 35, 36, 37, 38, 39, 40, 41, 42, 44, 45, 46, 47, 48, 49, 50, 51, 52, 53, 54, 55, 64, 65, 66, 56, 57, 58, 59, 60, 61, 62, 63] rfl (by decide +kernel)
set_option maxRecDepth 20000 in
theorem gX5_rank_X5_tallySpan : GoodIn wsX5_rank (wsV RX5 173 RX5 yX5_tallySpan wsX5_tallySpan) := goodIn_app (goodIn_r _ [16, 17, 18, 14] rfl (by decide +kernel)) ggX5_rank_X5_tallySpan
set_option maxRecDepth 20000 in
theorem ggX5_rank_X3_isAhead : GoodIn wsX5_rank wsX3_isAhead := goodIn_r _ [42, 28, 32, 37, 38, 56, 57, 58, 59, 60, 61, 62, 63] rfl (by decide +kernel)
set_option maxRecDepth 20000 in
theorem gX5_rank_X3_isAhead : GoodIn wsX5_rank (wsV RX5 193 RX3 yX3_isAhead wsX3_isAhead) := goodIn_app (goodIn_r _ [43, 40, 41, 25] rfl (by decide +kernel)) ggX5_rank_X3_isAhead
theorem dX5_rank_0 : decode cX5_rank 0 = .ok (.aload_n 0, 1) := by decide +kernel
theorem dX5_rank_1 : decode cX5_rank 1 = .ok (.getfield 26, 3) := by decide +kernel
theorem dX5_rank_4 : decode cX5_rank 4 = .ok (.iload_n 1, 1) := by decide +kernel
theorem dX5_rank_5 : decode cX5_rank 5 = .ok (.iload_n 2, 1) := by decide +kernel
theorem dX5_rank_6 : decode cX5_rank 6 = .ok (.invokevirtual 145, 3) := by decide +kernel
theorem dX5_rank_9 : decode cX5_rank 9 = .ok (.ifCond .eq 10, 3) := by decide +kernel
theorem dX5_rank_12 : decode cX5_rank 12 = .ok (.iload_n 3, 1) := by decide +kernel
theorem dX5_rank_13 : decode cX5_rank 13 = .ok (.invokestatic 128, 3) := by decide +kernel
theorem dX5_rank_16 : decode cX5_rank 16 = .ok (.ifCond .ne 5, 3) := by decide +kernel
theorem dX5_rank_19 : decode cX5_rank 19 = .ok (.iconst (-1), 1) := by decide +kernel
theorem dX5_rank_20 : decode cX5_rank 20 = .ok (.ireturn, 1) := by decide +kernel
theorem dX5_rank_21 : decode cX5_rank 21 = .ok (.aload_n 0, 1) := by decide +kernel
theorem dX5_rank_22 : decode cX5_rank 22 = .ok (.iload_n 1, 1) := by decide +kernel
theorem dX5_rank_23 : decode cX5_rank 23 = .ok (.iload_n 2, 1) := by decide +kernel
theorem dX5_rank_24 : decode cX5_rank 24 = .ok (.invokevirtual 173, 3) := by decide +kernel
theorem dX5_rank_27 : decode cX5_rank 27 = .ok (.aload_n 0, 1) := by decide +kernel
theorem dX5_rank_28 : decode cX5_rank 28 = .ok (.getfield 43, 3) := by decide +kernel
theorem dX5_rank_31 : decode cX5_rank 31 = .ok (.getfield 190, 3) := by decide +kernel
theorem dX5_rank_34 : decode cX5_rank 34 = .ok (.iload_n 3, 1) := by decide +kernel
theorem dX5_rank_35 : decode cX5_rank 35 = .ok (.iaload, 1) := by decide +kernel
theorem dX5_rank_36 : decode cX5_rank 36 = .ok (.ifCond .ne 6, 3) := by decide +kernel
theorem dX5_rank_39 : decode cX5_rank 39 = .ok (.bipush (-2), 2) := by decide +kernel
theorem dX5_rank_41 : decode cX5_rank 41 = .ok (.ireturn, 1) := by decide +kernel
theorem dX5_rank_42 : decode cX5_rank 42 = .ok (.iconst 0, 1) := by decide +kernel
theorem dX5_rank_43 : decode cX5_rank 43 = .ok (.istore 4, 2) := by decide +kernel
theorem dX5_rank_45 : decode cX5_rank 45 = .ok (.iconst 0, 1) := by decide +kernel
theorem dX5_rank_46 : decode cX5_rank 46 = .ok (.istore 5, 2) := by decide +kernel
theorem dX5_rank_48 : decode cX5_rank 48 = .ok (.iload 5, 2) := by decide +kernel
theorem dX5_rank_50 : decode cX5_rank 50 = .ok (.aload_n 0, 1) := by decide +kernel
theorem dX5_rank_51 : decode cX5_rank 51 = .ok (.getfield 43, 3) := by decide +kernel
theorem dX5_rank_54 : decode cX5_rank 54 = .ok (.getfield 182, 3) := by decide +kernel
theorem dX5_rank_57 : decode cX5_rank 57 = .ok (.if_icmp .ge 33, 3) := by decide +kernel
theorem dX5_rank_60 : decode cX5_rank 60 = .ok (.aload_n 0, 1) := by decide +kernel
theorem dX5_rank_61 : decode cX5_rank 61 = .ok (.getfield 43, 3) := by decide +kernel
theorem dX5_rank_64 : decode cX5_rank 64 = .ok (.aload_n 0, 1) := by decide +kernel
theorem dX5_rank_65 : decode cX5_rank 65 = .ok (.getfield 43, 3) := by decide +kernel
theorem dX5_rank_68 : decode cX5_rank 68 = .ok (.getfield 187, 3) := by decide +kernel
theorem dX5_rank_71 : decode cX5_rank 71 = .ok (.iload 5, 2) := by decide +kernel
theorem dX5_rank_73 : decode cX5_rank 73 = .ok (.iaload, 1) := by decide +kernel
theorem dX5_rank_74 : decode cX5_rank 74 = .ok (.iload_n 3, 1) := by decide +kernel
theorem dX5_rank_75 : decode cX5_rank 75 = .ok (.invokevirtual 193, 3) := by decide +kernel
theorem dX5_rank_78 : decode cX5_rank 78 = .ok (.ifCond .eq 6, 3) := by decide +kernel
theorem dX5_rank_81 : decode cX5_rank 81 = .ok (.iinc 4 1, 3) := by decide +kernel
theorem dX5_rank_84 : decode cX5_rank 84 = .ok (.iinc 5 1, 3) := by decide +kernel
theorem dX5_rank_87 : decode cX5_rank 87 = .ok (.goto (-39), 3) := by decide +kernel
theorem dX5_rank_90 : decode cX5_rank 90 = .ok (.iload 4, 2) := by decide +kernel
theorem dX5_rank_92 : decode cX5_rank 92 = .ok (.ireturn, 1) := by decide +kernel
set_option maxRecDepth 20000 in
theorem ggX5_often_X2_hasSpan : GoodIn wsX5_often wsX2_hasSpan := goodIn_r _ [6, 7, 29, 30, 31] rfl (by decide +kernel)
set_option maxRecDepth 20000 in
theorem gX5_often_X2_hasSpan : GoodIn wsX5_often (wsV RX5 145 RX2 yX2_hasSpan wsX2_hasSpan) := goodIn_app (goodIn_r _ [2, 3, 4, 5] rfl (by decide +kernel)) ggX5_often_X2_hasSpan
set_option maxRecDepth 20000 in
theorem ggX5_often_X5_isValue : GoodIn wsX5_often wsX5_isValue := goodIn_r _ [11] rfl (by decide +kernel)
set_option maxRecDepth 20000 in
theorem gX5_often_X5_isValue : GoodIn wsX5_often (va_wsS RX5 128 yX5_isValue wsX5_isValue) := goodIn_app (goodIn_r _ [8, 9, 10] rfl (by decide +kernel)) ggX5_often_X5_isValue
set_option maxRecDepth 20000 in
theorem ggX5_often_X2_howOften : GoodIn wsX5_often wsX2_howOften := goodIn_r _ [15, 16, 29, 30, 31] rfl (by decide +kernel)
set_option maxRecDepth 20000 in
theorem gX5_often_X2_howOften : GoodIn wsX5_often (wsV RX5 112 RX2 yX2_howOften wsX2_howOften) := goodIn_app (goodIn_r _ [12, 13, 14, 5] rfl (by decide +kernel)) ggX5_often_X2_howOften
theorem dX5_often_0 : decode cX5_often 0 = .ok (.aload_n 0, 1) := by decide +kernel
theorem dX5_often_1 : decode cX5_often 1 = .ok (.getfield 26, 3) := by decide +kernel
theorem dX5_often_4 : decode cX5_often 4 = .ok (.iload_n 1, 1) := by decide +kernel
theorem dX5_often_5 : decode cX5_often 5 = .ok (.iload_n 2, 1) := by decide +kernel
theorem dX5_often_6 : decode cX5_often 6 = .ok (.invokevirtual 145, 3) := by decide +kernel
theorem dX5_often_9 : decode cX5_often 9 = .ok (.ifCond .eq 10, 3) := by decide +kernel
theorem dX5_often_12 : decode cX5_often 12 = .ok (.iload_n 3, 1) := by decide +kernel
theorem dX5_often_13 : decode cX5_often 13 = .ok (.invokestatic 128, 3) := by decide +kernel
theorem dX5_often_16 : decode cX5_often 16 = .ok (.ifCond .ne 5, 3) := by decide +kernel
theorem dX5_often_19 : decode cX5_often 19 = .ok (.iconst (-1), 1) := by decide +kernel
theorem dX5_often_20 : decode cX5_often 20 = .ok (.ireturn, 1) := by decide +kernel
theorem dX5_often_21 : decode cX5_often 21 = .ok (.aload_n 0, 1) := by decide +kernel
theorem dX5_often_22 : decode cX5_often 22 = .ok (.getfield 26, 3) := by decide +kernel
theorem dX5_often_25 : decode cX5_often 25 = .ok (.iload_n 3, 1) := by decide +kernel
theorem dX5_often_26 : decode cX5_often 26 = .ok (.iload_n 1, 1) := by decide +kernel
theorem dX5_often_27 : decode cX5_often 27 = .ok (.iload_n 2, 1) := by decide +kernel
theorem dX5_often_28 : decode cX5_often 28 = .ok (.invokevirtual 112, 3) := by decide +kernel
theorem dX5_often_31 : decode cX5_often 31 = .ok (.ireturn, 1) := by decide +kernel
set_option maxRecDepth 20000 in
theorem ggX5_unlike_X2_hasSpan : GoodIn wsX5_unlike wsX2_hasSpan := goodIn_r _ [8, 9, 58, 59, 60] rfl (by decide +kernel)
set_option maxRecDepth 20000 in
theorem gX5_unlike_X2_hasSpan : GoodIn wsX5_unlike (wsV RX5 145 RX2 yX2_hasSpan wsX2_hasSpan) := goodIn_app (goodIn_r _ [4, 5, 6, 7] rfl (by decide +kernel)) ggX5_unlike_X2_hasSpan
set_option maxRecDepth 20000 in
theorem ggX5_unlike_X5_tallySpan : GoodIn wsX5_unlike wsX5_tallySpan := goodIn_r _ [14, 2, 15, 1, 16, 17, 18, 19, 20, 21, 22, 23, 24, 25, 26, 27, 28, 29, 30, 31, 32, 33, 34, 35, 36, 37, 38, 39, 40, 41, 42, 43, 44, 45, 46, 47, 48, 49, 58, 59, 60, 50, 51, 52, 53, 54, 55, 56, 57] rfl (by decide +kernel)
set_option maxRecDepth 20000 in
theorem gX5_unlike_X5_tallySpan : GoodIn wsX5_unlike (wsV RX5 173 RX5 yX5_tallySpan wsX5_tallySpan) := goodIn_app (goodIn_r _ [10, 11, 12, 13] rfl (by decide +kernel)) ggX5_unlike_X5_tallySpan
theorem dX5_unlike_0 : decode cX5_unlike 0 = .ok (.aload_n 0, 1) := by decide +kernel
theorem dX5_unlike_1 : decode cX5_unlike 1 = .ok (.getfield 26, 3) := by decide +kernel
theorem dX5_unlike_4 : decode cX5_unlike 4 = .ok (.iload_n 1, 1) := by decide +kernel
theorem dX5_unlike_5 : decode cX5_unlike 5 = .ok (.iload_n 2, 1) := by decide +kernel
theorem dX5_unlike_6 : decode cX5_unlike 6 = .ok (.invokevirtual 145, 3) := by decide +kernel
theorem dX5_unlike_9 : decode cX5_unlike 9 = .ok (.ifCond .ne 5, 3) := by decide +kernel
theorem dX5_unlike_12 : decode cX5_unlike 12 = .ok (.iconst (-1), 1) := by decide +kernel
theorem dX5_unlike_13 : decode cX5_unlike 13 = .ok (.ireturn, 1) := by decide +kernel
theorem dX5_unlike_14 : decode cX5_unlike 14 = .ok (.aload_n 0, 1) := by decide +kernel
theorem dX5_unlike_15 : decode cX5_unlike 15 = .ok (.iload_n 1, 1) := by decide +kernel
theorem dX5_unlike_16 : decode cX5_unlike 16 = .ok (.iload_n 2, 1) := by decide +kernel
theorem dX5_unlike_17 : decode cX5_unlike 17 = .ok (.invokevirtual 173, 3) := by decide +kernel
theorem dX5_unlike_20 : decode cX5_unlike 20 = .ok (.aload_n 0, 1) := by decide +kernel
theorem dX5_unlike_21 : decode cX5_unlike 21 = .ok (.getfield 43, 3) := by decide +kernel
theorem dX5_unlike_24 : decode cX5_unlike 24 = .ok (.getfield 182, 3) := by decide +kernel
theorem dX5_unlike_27 : decode cX5_unlike 27 = .ok (.ireturn, 1) := by decide +kernel
set_option maxRecDepth 20000 in
theorem ggX5_majority_X2_hasSpan : GoodIn wsX5_majority wsX2_hasSpan := goodIn_r _ [8, 9, 66, 67, 68] rfl (by decide +kernel)
set_option maxRecDepth 20000 in
theorem gX5_majority_X2_hasSpan : GoodIn wsX5_majority (wsV RX5 145 RX2 yX2_hasSpan wsX2_hasSpan) := goodIn_app (goodIn_r _ [4, 5, 6, 7] rfl (by decide +kernel)) ggX5_majority_X2_hasSpan
set_option maxRecDepth 20000 in
theorem ggX5_majority_X5_tallySpan : GoodIn wsX5_majority wsX5_tallySpan := goodIn_r _ [14, 2, 15, 1, 16, 17, 18, 19, 20, 21, 22, 23, 24, 25, 26, 27, 28, 29, 30, 31, 32, 33, 34, 35, 36, 37, 46, 47, 48, 49, 50, 51, 52, 53, 54, 55, 56, 57, 66, 67, 68, 58, 59, 60, 61, 62, 63, 64, 65] rfl (by decide +kernel)
set_option maxRecDepth 20000 in
theorem gX5_majority_X5_tallySpan : GoodIn wsX5_majority (wsV RX5 173 RX5 yX5_tallySpan wsX5_tallySpan) := goodIn_app (goodIn_r _ [10, 11, 12, 13] rfl (by decide +kernel)) ggX5_majority_X5_tallySpan
set_option maxRecDepth 20000 in
theorem ggX5_majority_X3_hasMajority : GoodIn wsX5_majority wsX3_hasMajority := goodIn_r _ [41, 25, 42, 43, 44, 20, 45, 26, 23, 58, 59, 60, 61, 62, 63, 64, 65] rfl (by decide +kernel)
set_option maxRecDepth 20000 in
theorem gX5_majority_X3_hasMajority : GoodIn wsX5_majority (wsV RX5 196 RX3 yX3_hasMajority wsX3_hasMajority) := goodIn_app (goodIn_r _ [38, 39, 40, 20] rfl (by decide +kernel)) ggX5_majority_X3_hasMajority
theorem dX5_majority_0 : decode cX5_majority 0 = .ok (.aload_n 0, 1) := by decide +kernel
theorem dX5_majority_1 : decode cX5_majority 1 = .ok (.getfield 26, 3) := by decide +kernel
theorem dX5_majority_4 : decode cX5_majority 4 = .ok (.iload_n 1, 1) := by decide +kernel
theorem dX5_majority_5 : decode cX5_majority 5 = .ok (.iload_n 2, 1) := by decide +kernel
theorem dX5_majority_6 : decode cX5_majority 6 = .ok (.invokevirtual 145, 3) := by decide +kernel
theorem dX5_majority_9 : decode cX5_majority 9 = .ok (.ifCond .ne 5, 3) := by decide +kernel
theorem dX5_majority_12 : decode cX5_majority 12 = .ok (.iconst (-1), 1) := by decide +kernel
theorem dX5_majority_13 : decode cX5_majority 13 = .ok (.ireturn, 1) := by decide +kernel
theorem dX5_majority_14 : decode cX5_majority 14 = .ok (.aload_n 0, 1) := by decide +kernel
theorem dX5_majority_15 : decode cX5_majority 15 = .ok (.iload_n 1, 1) := by decide +kernel
theorem dX5_majority_16 : decode cX5_majority 16 = .ok (.iload_n 2, 1) := by decide +kernel
theorem dX5_majority_17 : decode cX5_majority 17 = .ok (.invokevirtual 173, 3) := by decide +kernel
theorem dX5_majority_20 : decode cX5_majority 20 = .ok (.aload_n 0, 1) := by decide +kernel
theorem dX5_majority_21 : decode cX5_majority 21 = .ok (.getfield 43, 3) := by decide +kernel
theorem dX5_majority_24 : decode cX5_majority 24 = .ok (.invokevirtual 196, 3) := by decide +kernel
theorem dX5_majority_27 : decode cX5_majority 27 = .ok (.ifCond .eq 13, 3) := by decide +kernel
theorem dX5_majority_30 : decode cX5_majority 30 = .ok (.aload_n 0, 1) := by decide +kernel
theorem dX5_majority_31 : decode cX5_majority 31 = .ok (.getfield 43, 3) := by decide +kernel
theorem dX5_majority_34 : decode cX5_majority 34 = .ok (.getfield 176, 3) := by decide +kernel
theorem dX5_majority_37 : decode cX5_majority 37 = .ok (.goto 5, 3) := by decide +kernel
theorem dX5_majority_40 : decode cX5_majority 40 = .ok (.bipush (-2), 2) := by decide +kernel
theorem dX5_majority_42 : decode cX5_majority 42 = .ok (.ireturn, 1) := by decide +kernel
set_option maxRecDepth 20000 in
theorem ggX5_heaviest_X2_hasSpan : GoodIn wsX5_heaviest wsX2_hasSpan := goodIn_r _ [10, 11, 70, 71, 72] rfl (by decide +kernel)
set_option maxRecDepth 20000 in
theorem gX5_heaviest_X2_hasSpan : GoodIn wsX5_heaviest (wsV RX5 145 RX2 yX2_hasSpan wsX2_hasSpan) := goodIn_app (goodIn_r _ [6, 7, 8, 9] rfl (by decide +kernel)) ggX5_heaviest_X2_hasSpan
set_option maxRecDepth 20000 in
theorem ggX5_heaviest_X5_isBelow : GoodIn wsX5_heaviest wsX5_isBelow := goodIn_r _ [15] rfl (by decide +kernel)
set_option maxRecDepth 20000 in
theorem gX5_heaviest_X5_isBelow : GoodIn wsX5_heaviest (va_wsS RX5 170 yX5_isBelow wsX5_isBelow) := goodIn_app (goodIn_r _ [12, 13, 14] rfl (by decide +kernel)) ggX5_heaviest_X5_isBelow
set_option maxRecDepth 20000 in
theorem ggX5_heaviest_X5_tallySpan : GoodIn wsX5_heaviest wsX5_tallySpan := goodIn_r _ [19, 2, 20, 1, 21, 22, 23, 24, 25, 26, 27, 28, 29, 30, 31, 32, 33, 34, 35, 36, 37, 38, 39, 40, 41, 42, 50, 51, 52, 53, 54, 55, 56, 57, 58, 59, 60, 61, 70, 71, 72, 62, 63, 64, 65, 66, 67, 68, 69] rfl (by decide +kernel)
set_option maxRecDepth 20000 in
theorem gX5_heaviest_X5_tallySpan : GoodIn wsX5_heaviest (wsV RX5 173 RX5 yX5_tallySpan wsX5_tallySpan) := goodIn_app (goodIn_r _ [16, 17, 18, 14] rfl (by decide +kernel)) ggX5_heaviest_X5_tallySpan
set_option maxRecDepth 20000 in
theorem ggX5_heaviest_X2_weightOf : GoodIn wsX5_heaviest wsX2_weightOf := goodIn_r _ [46, 47, 48, 70, 71, 72] rfl (by decide +kernel)
set_option maxRecDepth 20000 in
theorem gX5_heaviest_X2_weightOf : GoodIn wsX5_heaviest (wsV RX5 200 RX2 yX2_weightOf wsX2_weightOf) := goodIn_app (goodIn_r _ [43, 44, 45, 9] rfl (by decide +kernel)) ggX5_heaviest_X2_weightOf
set_option maxRecDepth 20000 in
theorem ggX5_heaviest_X3_isAhead : GoodIn wsX5_heaviest wsX3_isAhead := goodIn_r _ [42, 28, 32, 37, 38, 62, 63, 64, 65, 66, 67, 68, 69] rfl (by decide +kernel)
set_option maxRecDepth 20000 in
theorem gX5_heaviest_X3_isAhead : GoodIn wsX5_heaviest (wsV RX5 193 RX3 yX3_isAhead wsX3_isAhead) := goodIn_app (goodIn_r _ [49, 40, 41, 25] rfl (by decide +kernel)) ggX5_heaviest_X3_isAhead
theorem dX5_heaviest_0 : decode cX5_heaviest 0 = .ok (.aload_n 0, 1) := by decide +kernel
theorem dX5_heaviest_1 : decode cX5_heaviest 1 = .ok (.getfield 26, 3) := by decide +kernel
theorem dX5_heaviest_4 : decode cX5_heaviest 4 = .ok (.iload_n 1, 1) := by decide +kernel
theorem dX5_heaviest_5 : decode cX5_heaviest 5 = .ok (.iload_n 2, 1) := by decide +kernel
theorem dX5_heaviest_6 : decode cX5_heaviest 6 = .ok (.invokevirtual 145, 3) := by decide +kernel
theorem dX5_heaviest_9 : decode cX5_heaviest 9 = .ok (.ifCond .eq 11, 3) := by decide +kernel
theorem dX5_heaviest_12 : decode cX5_heaviest 12 = .ok (.iload_n 3, 1) := by decide +kernel
theorem dX5_heaviest_13 : decode cX5_heaviest 13 = .ok (.iconst 2, 1) := by decide +kernel
theorem dX5_heaviest_14 : decode cX5_heaviest 14 = .ok (.invokestatic 170, 3) := by decide +kernel
theorem dX5_heaviest_17 : decode cX5_heaviest 17 = .ok (.ifCond .ne 5, 3) := by decide +kernel
theorem dX5_heaviest_20 : decode cX5_heaviest 20 = .ok (.iconst (-1), 1) := by decide +kernel
theorem dX5_heaviest_21 : decode cX5_heaviest 21 = .ok (.ireturn, 1) := by decide +kernel
theorem dX5_heaviest_22 : decode cX5_heaviest 22 = .ok (.aload_n 0, 1) := by decide +kernel
theorem dX5_heaviest_23 : decode cX5_heaviest 23 = .ok (.iload_n 1, 1) := by decide +kernel
theorem dX5_heaviest_24 : decode cX5_heaviest 24 = .ok (.iload_n 2, 1) := by decide +kernel
theorem dX5_heaviest_25 : decode cX5_heaviest 25 = .ok (.invokevirtual 173, 3) := by decide +kernel
theorem dX5_heaviest_28 : decode cX5_heaviest 28 = .ok (.aload_n 0, 1) := by decide +kernel
theorem dX5_heaviest_29 : decode cX5_heaviest 29 = .ok (.getfield 43, 3) := by decide +kernel
theorem dX5_heaviest_32 : decode cX5_heaviest 32 = .ok (.getfield 176, 3) := by decide +kernel
theorem dX5_heaviest_35 : decode cX5_heaviest 35 = .ok (.istore 4, 2) := by decide +kernel
theorem dX5_heaviest_37 : decode cX5_heaviest 37 = .ok (.iconst 0, 1) := by decide +kernel
theorem dX5_heaviest_38 : decode cX5_heaviest 38 = .ok (.istore 5, 2) := by decide +kernel
theorem dX5_heaviest_40 : decode cX5_heaviest 40 = .ok (.iconst 0, 1) := by decide +kernel
theorem dX5_heaviest_41 : decode cX5_heaviest 41 = .ok (.istore 6, 2) := by decide +kernel
theorem dX5_heaviest_43 : decode cX5_heaviest 43 = .ok (.iload 6, 2) := by decide +kernel
theorem dX5_heaviest_45 : decode cX5_heaviest 45 = .ok (.aload_n 0, 1) := by decide +kernel
theorem dX5_heaviest_46 : decode cX5_heaviest 46 = .ok (.getfield 43, 3) := by decide +kernel
theorem dX5_heaviest_49 : decode cX5_heaviest 49 = .ok (.getfield 182, 3) := by decide +kernel
theorem dX5_heaviest_52 : decode cX5_heaviest 52 = .ok (.if_icmp .ge 70, 3) := by decide +kernel
theorem dX5_heaviest_55 : decode cX5_heaviest 55 = .ok (.aload_n 0, 1) := by decide +kernel
theorem dX5_heaviest_56 : decode cX5_heaviest 56 = .ok (.getfield 43, 3) := by decide +kernel
theorem dX5_heaviest_59 : decode cX5_heaviest 59 = .ok (.getfield 187, 3) := by decide +kernel
theorem dX5_heaviest_62 : decode cX5_heaviest 62 = .ok (.iload 6, 2) := by decide +kernel
theorem dX5_heaviest_64 : decode cX5_heaviest 64 = .ok (.iaload, 1) := by decide +kernel
theorem dX5_heaviest_65 : decode cX5_heaviest 65 = .ok (.istore 7, 2) := by decide +kernel
theorem dX5_heaviest_67 : decode cX5_heaviest 67 = .ok (.aload_n 0, 1) := by decide +kernel
theorem dX5_heaviest_68 : decode cX5_heaviest 68 = .ok (.getfield 26, 3) := by decide +kernel
theorem dX5_heaviest_71 : decode cX5_heaviest 71 = .ok (.iload 7, 2) := by decide +kernel
theorem dX5_heaviest_73 : decode cX5_heaviest 73 = .ok (.iload_n 1, 1) := by decide +kernel
theorem dX5_heaviest_74 : decode cX5_heaviest 74 = .ok (.iload_n 2, 1) := by decide +kernel
theorem dX5_heaviest_75 : decode cX5_heaviest 75 = .ok (.invokevirtual 200, 3) := by decide +kernel
theorem dX5_heaviest_78 : decode cX5_heaviest 78 = .ok (.istore 8, 2) := by decide +kernel
theorem dX5_heaviest_80 : decode cX5_heaviest 80 = .ok (.iload 8, 2) := by decide +kernel
theorem dX5_heaviest_82 : decode cX5_heaviest 82 = .ok (.iload 5, 2) := by decide +kernel
theorem dX5_heaviest_84 : decode cX5_heaviest 84 = .ok (.if_icmp .gt 24, 3) := by decide +kernel
theorem dX5_heaviest_87 : decode cX5_heaviest 87 = .ok (.iload 8, 2) := by decide +kernel
theorem dX5_heaviest_89 : decode cX5_heaviest 89 = .ok (.iload 5, 2) := by decide +kernel
theorem dX5_heaviest_91 : decode cX5_heaviest 91 = .ok (.if_icmp .ne 25, 3) := by decide +kernel
theorem dX5_heaviest_94 : decode cX5_heaviest 94 = .ok (.aload_n 0, 1) := by decide +kernel
theorem dX5_heaviest_95 : decode cX5_heaviest 95 = .ok (.getfield 43, 3) := by decide +kernel
theorem dX5_heaviest_98 : decode cX5_heaviest 98 = .ok (.iload 7, 2) := by decide +kernel
theorem dX5_heaviest_100 : decode cX5_heaviest 100 = .ok (.iload 4, 2) := by decide +kernel
theorem dX5_heaviest_102 : decode cX5_heaviest 102 = .ok (.invokevirtual 193, 3) := by decide +kernel
theorem dX5_heaviest_105 : decode cX5_heaviest 105 = .ok (.ifCond .eq 11, 3) := by decide +kernel
theorem dX5_heaviest_108 : decode cX5_heaviest 108 = .ok (.iload 7, 2) := by decide +kernel
theorem dX5_heaviest_110 : decode cX5_heaviest 110 = .ok (.istore 4, 2) := by decide +kernel
theorem dX5_heaviest_112 : decode cX5_heaviest 112 = .ok (.iload 8, 2) := by decide +kernel
theorem dX5_heaviest_114 : decode cX5_heaviest 114 = .ok (.istore 5, 2) := by decide +kernel
theorem dX5_heaviest_116 : decode cX5_heaviest 116 = .ok (.iinc 6 1, 3) := by decide +kernel
theorem dX5_heaviest_119 : decode cX5_heaviest 119 = .ok (.goto (-76), 3) := by decide +kernel
theorem dX5_heaviest_122 : decode cX5_heaviest 122 = .ok (.iload_n 3, 1) := by decide +kernel
theorem dX5_heaviest_123 : decode cX5_heaviest 123 = .ok (.ifCond .ne 8, 3) := by decide +kernel
theorem dX5_heaviest_126 : decode cX5_heaviest 126 = .ok (.iload 4, 2) := by decide +kernel
theorem dX5_heaviest_128 : decode cX5_heaviest 128 = .ok (.goto 5, 3) := by decide +kernel
theorem dX5_heaviest_131 : decode cX5_heaviest 131 = .ok (.iload 5, 2) := by decide +kernel
theorem dX5_heaviest_133 : decode cX5_heaviest 133 = .ok (.ireturn, 1) := by decide +kernel
set_option maxRecDepth 20000 in
theorem ggX5_ifTies_X2_hasSpan : GoodIn wsX5_ifTies wsX2_hasSpan := goodIn_r _ [9, 10, 44, 45, 46] rfl (by decide +kernel)
set_option maxRecDepth 20000 in
theorem gX5_ifTies_X2_hasSpan : GoodIn wsX5_ifTies (wsV RX5 145 RX2 yX2_hasSpan wsX2_hasSpan) := goodIn_app (goodIn_r _ [5, 6, 7, 8] rfl (by decide +kernel)) ggX5_ifTies_X2_hasSpan
set_option maxRecDepth 20000 in
theorem ggX5_ifTies_X3_begin : GoodIn wsX5_ifTies wsX3_begin := goodIn_r _ [15, 16, 17, 18, 19, 20, 21, 47, 48, 49, 50, 51, 52, 53, 54] rfl (by decide +kernel)
set_option maxRecDepth 20000 in
theorem gX5_ifTies_X3_begin : GoodIn wsX5_ifTies (wsV RX5 228 RX3 yX3_begin wsX3_begin) := goodIn_app (goodIn_r _ [11, 12, 13, 14] rfl (by decide +kernel)) ggX5_ifTies_X3_begin
set_option maxRecDepth 20000 in
theorem ggX5_ifTies_X3_push : GoodIn wsX5_ifTies wsX3_push := goodIn_r _ [25, 17, 26, 19, 18, 16, 27, 20, 28, 29, 30, 14, 31, 21, 47, 48, 49, 50, 51, 52, 53, 54] rfl (by decide +kernel)
set_option maxRecDepth 20000 in
theorem gX5_ifTies_X3_push : GoodIn wsX5_ifTies (wsV RX5 231 RX3 yX3_push wsX3_push) := goodIn_app (goodIn_r _ [22, 23, 24, 14] rfl (by decide +kernel)) ggX5_ifTies_X3_push
theorem dX5_ifTies_0 : decode cX5_ifTies 0 = .ok (.iload_n 1, 1) := by decide +kernel
theorem dX5_ifTies_1 : decode cX5_ifTies 1 = .ok (.ifCond .lt 20, 3) := by decide +kernel
theorem dX5_ifTies_4 : decode cX5_ifTies 4 = .ok (.iload_n 1, 1) := by decide +kernel
theorem dX5_ifTies_5 : decode cX5_ifTies 5 = .ok (.iconst 3, 1) := by decide +kernel
theorem dX5_ifTies_6 : decode cX5_ifTies 6 = .ok (.if_icmp .gt 15, 3) := by decide +kernel
theorem dX5_ifTies_9 : decode cX5_ifTies 9 = .ok (.aload_n 0, 1) := by decide +kernel
theorem dX5_ifTies_10 : decode cX5_ifTies 10 = .ok (.getfield 26, 3) := by decide +kernel
theorem dX5_ifTies_13 : decode cX5_ifTies 13 = .ok (.iload_n 2, 1) := by decide +kernel
theorem dX5_ifTies_14 : decode cX5_ifTies 14 = .ok (.iload_n 3, 1) := by decide +kernel
theorem dX5_ifTies_15 : decode cX5_ifTies 15 = .ok (.invokevirtual 145, 3) := by decide +kernel
theorem dX5_ifTies_18 : decode cX5_ifTies 18 = .ok (.ifCond .ne 5, 3) := by decide +kernel
theorem dX5_ifTies_21 : decode cX5_ifTies 21 = .ok (.iconst (-1), 1) := by decide +kernel
theorem dX5_ifTies_22 : decode cX5_ifTies 22 = .ok (.ireturn, 1) := by decide +kernel
theorem dX5_ifTies_23 : decode cX5_ifTies 23 = .ok (.aload_n 0, 1) := by decide +kernel
theorem dX5_ifTies_24 : decode cX5_ifTies 24 = .ok (.getfield 43, 3) := by decide +kernel
theorem dX5_ifTies_27 : decode cX5_ifTies 27 = .ok (.iload_n 1, 1) := by decide +kernel
theorem dX5_ifTies_28 : decode cX5_ifTies 28 = .ok (.invokevirtual 228, 3) := by decide +kernel
theorem dX5_ifTies_31 : decode cX5_ifTies 31 = .ok (.iload_n 2, 1) := by decide +kernel
theorem dX5_ifTies_32 : decode cX5_ifTies 32 = .ok (.istore 4, 2) := by decide +kernel
theorem dX5_ifTies_34 : decode cX5_ifTies 34 = .ok (.iload 4, 2) := by decide +kernel
theorem dX5_ifTies_36 : decode cX5_ifTies 36 = .ok (.iload_n 3, 1) := by decide +kernel
theorem dX5_ifTies_37 : decode cX5_ifTies 37 = .ok (.if_icmp .gt 26, 3) := by decide +kernel
theorem dX5_ifTies_40 : decode cX5_ifTies 40 = .ok (.aload_n 0, 1) := by decide +kernel
theorem dX5_ifTies_41 : decode cX5_ifTies 41 = .ok (.getfield 43, 3) := by decide +kernel
theorem dX5_ifTies_44 : decode cX5_ifTies 44 = .ok (.aload_n 0, 1) := by decide +kernel
theorem dX5_ifTies_45 : decode cX5_ifTies 45 = .ok (.getfield 26, 3) := by decide +kernel
theorem dX5_ifTies_48 : decode cX5_ifTies 48 = .ok (.getfield 106, 3) := by decide +kernel
theorem dX5_ifTies_51 : decode cX5_ifTies 51 = .ok (.iload 4, 2) := by decide +kernel
theorem dX5_ifTies_53 : decode cX5_ifTies 53 = .ok (.iaload, 1) := by decide +kernel
theorem dX5_ifTies_54 : decode cX5_ifTies 54 = .ok (.invokevirtual 231, 3) := by decide +kernel
theorem dX5_ifTies_57 : decode cX5_ifTies 57 = .ok (.iinc 4 1, 3) := by decide +kernel
theorem dX5_ifTies_60 : decode cX5_ifTies 60 = .ok (.goto (-26), 3) := by decide +kernel
theorem dX5_ifTies_63 : decode cX5_ifTies 63 = .ok (.aload_n 0, 1) := by decide +kernel
theorem dX5_ifTies_64 : decode cX5_ifTies 64 = .ok (.getfield 43, 3) := by decide +kernel
theorem dX5_ifTies_67 : decode cX5_ifTies 67 = .ok (.getfield 176, 3) := by decide +kernel
theorem dX5_ifTies_70 : decode cX5_ifTies 70 = .ok (.ireturn, 1) := by decide +kernel
set_option maxRecDepth 20000 in
theorem ggX5_count_X5_blocksOf : GoodIn wsX5_count wsX5_blocksOf := goodIn_r _ [16, 2, 3, 62, 63, 64, 50, 51, 52, 53, 54, 55, 56, 57, 58, 59, 60, 61] rfl (by decide +kernel)
set_option maxRecDepth 20000 in
theorem gX5_count_X5_blocksOf : GoodIn wsX5_count (wsV RX5 214 RX5 yX5_blocksOf wsX5_blocksOf) := goodIn_app (goodIn_r _ [12, 13, 14, 15] rfl (by decide +kernel)) ggX5_count_X5_blocksOf
set_option maxRecDepth 20000 in
theorem ggX5_count_X5_tallySpan : GoodIn wsX5_count wsX5_tallySpan := goodIn_r _ [20, 6, 4, 1, 21, 22, 23, 24, 25, 26, 27, 28, 29, 30, 31, 32, 33, 34, 35, 36, 37, 38, 39, 40, 41, 42, 50, 51, 52, 53, 54, 55, 56, 57, 58, 59, 60, 61, 62, 63, 64, 65, 66, 67, 68, 69, 70, 71, 72] rfl (by decide +kernel)
set_option maxRecDepth 20000 in
theorem gX5_count_X5_tallySpan : GoodIn wsX5_count (wsV RX5 173 RX5 yX5_tallySpan wsX5_tallySpan) := goodIn_app (goodIn_r _ [17, 18, 19, 15] rfl (by decide +kernel)) ggX5_count_X5_tallySpan
set_option maxRecDepth 20000 in
theorem ggX5_count_X2_allWeights : GoodIn wsX5_count wsX2_allWeights := goodIn_r _ [47, 48, 49, 62, 63, 64] rfl (by decide +kernel)
set_option maxRecDepth 20000 in
theorem gX5_count_X2_allWeights : GoodIn wsX5_count (wsV RX5 253 RX2 yX2_allWeights wsX2_allWeights) := goodIn_app (goodIn_r _ [43, 44, 45, 46] rfl (by decide +kernel)) ggX5_count_X2_allWeights
theorem dX5_count_0 : decode cX5_count 0 = .ok (.iload_n 1, 1) := by decide +kernel
theorem dX5_count_1 : decode cX5_count 1 = .ok (.tableswitch 129 0 8 #[51, 59, 64, 73, 78, 83, 105, 113, 121], 51) := by decide +kernel
theorem dX5_count_52 : decode cX5_count 52 = .ok (.aload_n 0, 1) := by decide +kernel
theorem dX5_count_53 : decode cX5_count 53 = .ok (.getfield 26, 3) := by decide +kernel
theorem dX5_count_56 : decode cX5_count 56 = .ok (.getfield 135, 3) := by decide +kernel
theorem dX5_count_59 : decode cX5_count 59 = .ok (.ireturn, 1) := by decide +kernel
theorem dX5_count_60 : decode cX5_count 60 = .ok (.aload_n 0, 1) := by decide +kernel
theorem dX5_count_61 : decode cX5_count 61 = .ok (.getfield 54, 3) := by decide +kernel
theorem dX5_count_64 : decode cX5_count 64 = .ok (.ireturn, 1) := by decide +kernel
theorem dX5_count_65 : decode cX5_count 65 = .ok (.aload_n 0, 1) := by decide +kernel
theorem dX5_count_66 : decode cX5_count 66 = .ok (.aload_n 0, 1) := by decide +kernel
theorem dX5_count_67 : decode cX5_count 67 = .ok (.getfield 26, 3) := by decide +kernel
theorem dX5_count_70 : decode cX5_count 70 = .ok (.invokevirtual 214, 3) := by decide +kernel
theorem dX5_count_73 : decode cX5_count 73 = .ok (.ireturn, 1) := by decide +kernel
theorem dX5_count_74 : decode cX5_count 74 = .ok (.aload_n 0, 1) := by decide +kernel
theorem dX5_count_75 : decode cX5_count 75 = .ok (.getfield 58, 3) := by decide +kernel
theorem dX5_count_78 : decode cX5_count 78 = .ok (.ireturn, 1) := by decide +kernel
theorem dX5_count_79 : decode cX5_count 79 = .ok (.aload_n 0, 1) := by decide +kernel
theorem dX5_count_80 : decode cX5_count 80 = .ok (.getfield 61, 3) := by decide +kernel
theorem dX5_count_83 : decode cX5_count 83 = .ok (.ireturn, 1) := by decide +kernel
theorem dX5_count_84 : decode cX5_count 84 = .ok (.aload_n 0, 1) := by decide +kernel
theorem dX5_count_85 : decode cX5_count 85 = .ok (.iconst 0, 1) := by decide +kernel
theorem dX5_count_86 : decode cX5_count 86 = .ok (.aload_n 0, 1) := by decide +kernel
theorem dX5_count_87 : decode cX5_count 87 = .ok (.getfield 26, 3) := by decide +kernel
theorem dX5_count_90 : decode cX5_count 90 = .ok (.getfield 135, 3) := by decide +kernel
theorem dX5_count_93 : decode cX5_count 93 = .ok (.iconst 1, 1) := by decide +kernel
theorem dX5_count_94 : decode cX5_count 94 = .ok (.isub, 1) := by decide +kernel
theorem dX5_count_95 : decode cX5_count 95 = .ok (.invokevirtual 173, 3) := by decide +kernel
theorem dX5_count_98 : decode cX5_count 98 = .ok (.aload_n 0, 1) := by decide +kernel
theorem dX5_count_99 : decode cX5_count 99 = .ok (.getfield 43, 3) := by decide +kernel
theorem dX5_count_102 : decode cX5_count 102 = .ok (.getfield 182, 3) := by decide +kernel
theorem dX5_count_105 : decode cX5_count 105 = .ok (.ireturn, 1) := by decide +kernel
theorem dX5_count_106 : decode cX5_count 106 = .ok (.aload_n 0, 1) := by decide +kernel
theorem dX5_count_107 : decode cX5_count 107 = .ok (.getfield 36, 3) := by decide +kernel
theorem dX5_count_110 : decode cX5_count 110 = .ok (.getfield 86, 3) := by decide +kernel
theorem dX5_count_113 : decode cX5_count 113 = .ok (.ireturn, 1) := by decide +kernel
theorem dX5_count_114 : decode cX5_count 114 = .ok (.aload_n 0, 1) := by decide +kernel
theorem dX5_count_115 : decode cX5_count 115 = .ok (.getfield 26, 3) := by decide +kernel
theorem dX5_count_118 : decode cX5_count 118 = .ok (.invokevirtual 253, 3) := by decide +kernel
theorem dX5_count_121 : decode cX5_count 121 = .ok (.ireturn, 1) := by decide +kernel
theorem dX5_count_122 : decode cX5_count 122 = .ok (.aload_n 0, 1) := by decide +kernel
theorem dX5_count_123 : decode cX5_count 123 = .ok (.getfield 10, 3) := by decide +kernel
theorem dX5_count_126 : decode cX5_count 126 = .ok (.getfield 67, 3) := by decide +kernel
theorem dX5_count_129 : decode cX5_count 129 = .ok (.ireturn, 1) := by decide +kernel
theorem dX5_count_130 : decode cX5_count 130 = .ok (.iconst (-1), 1) := by decide +kernel
theorem dX5_count_131 : decode cX5_count 131 = .ok (.ireturn, 1) := by decide +kernel
theorem dX5_isValue_0 : decode cX5_isValue 0 = .ok (.iload_n 0, 1) := by decide +kernel
theorem dX5_isValue_1 : decode cX5_isValue 1 = .ok (.ifCond .lt 14, 3) := by decide +kernel
theorem dX5_isValue_4 : decode cX5_isValue 4 = .ok (.iload_n 0, 1) := by decide +kernel
theorem dX5_isValue_5 : decode cX5_isValue 5 = .ok (.sipush 1000, 3) := by decide +kernel
theorem dX5_isValue_8 : decode cX5_isValue 8 = .ok (.if_icmp .ge 7, 3) := by decide +kernel
theorem dX5_isValue_11 : decode cX5_isValue 11 = .ok (.iconst 1, 1) := by decide +kernel
theorem dX5_isValue_12 : decode cX5_isValue 12 = .ok (.goto 4, 3) := by decide +kernel
theorem dX5_isValue_15 : decode cX5_isValue 15 = .ok (.iconst 0, 1) := by decide +kernel
theorem dX5_isValue_16 : decode cX5_isValue 16 = .ok (.ireturn, 1) := by decide +kernel
theorem dX5_isBelow_0 : decode cX5_isBelow 0 = .ok (.iload_n 0, 1) := by decide +kernel
theorem dX5_isBelow_1 : decode cX5_isBelow 1 = .ok (.ifCond .lt 12, 3) := by decide +kernel
theorem dX5_isBelow_4 : decode cX5_isBelow 4 = .ok (.iload_n 0, 1) := by decide +kernel
theorem dX5_isBelow_5 : decode cX5_isBelow 5 = .ok (.iload_n 1, 1) := by decide +kernel
theorem dX5_isBelow_6 : decode cX5_isBelow 6 = .ok (.if_icmp .ge 7, 3) := by decide +kernel
theorem dX5_isBelow_9 : decode cX5_isBelow 9 = .ok (.iconst 1, 1) := by decide +kernel
theorem dX5_isBelow_10 : decode cX5_isBelow 10 = .ok (.goto 4, 3) := by decide +kernel
theorem dX5_isBelow_13 : decode cX5_isBelow 13 = .ok (.iconst 0, 1) := by decide +kernel
theorem dX5_isBelow_14 : decode cX5_isBelow 14 = .ok (.ireturn, 1) := by decide +kernel
set_option maxRecDepth 20000 in
theorem ggX5_settle_X2_isLike : GoodIn wsX5_settle wsX2_isLike := goodIn_r _ [10, 11, 12, 13, 66, 67, 68] rfl (by decide +kernel)
set_option maxRecDepth 20000 in
theorem gX5_settle_X2_isLike : GoodIn wsX5_settle (wsV RX5 256 RX2 yX2_isLike wsX2_isLike) := goodIn_app (goodIn_r _ [6, 7, 8, 9] rfl (by decide +kernel)) ggX5_settle_X2_isLike
set_option maxRecDepth 20000 in
theorem ggX5_settle_X2_isOtherThan : GoodIn wsX5_settle wsX2_isOtherThan := goodIn_r _ [17, 11, 12, 66, 67, 68] rfl (by decide +kernel)
set_option maxRecDepth 20000 in
theorem gX5_settle_X2_isOtherThan : GoodIn wsX5_settle (wsV RX5 260 RX2 yX2_isOtherThan wsX2_isOtherThan) := goodIn_app (goodIn_r _ [14, 15, 16, 9] rfl (by decide +kernel)) ggX5_settle_X2_isOtherThan
set_option maxRecDepth 20000 in
theorem ggX5_settle_X0_keep : GoodIn wsX5_settle wsX0_keep := goodIn_r _ [22, 23, 24, 25, 26, 27, 28, 29, 30, 31, 32, 9, 33, 11, 12, 13, 69, 70, 71, 66, 67, 68] rfl (by decide +kernel)
set_option maxRecDepth 20000 in
theorem gX5_settle_X0_keep : GoodIn wsX5_settle (wsV RX5 264 RX0 yX0_keep wsX0_keep) := goodIn_app (goodIn_r _ [18, 19, 20, 21] rfl (by decide +kernel)) ggX5_settle_X0_keep
set_option maxRecDepth 20000 in
theorem ggX5_settle_X5_pairsTouched : GoodIn wsX5_settle wsX5_pairsTouched := goodIn_r _ [38, 39, 40, 41, 37, 42, 3, 43, 44, 45, 46, 47, 48, 49, 50, 51, 52, 27, 28, 29, 14, 15, 16, 9, 17, 11, 12, 66, 67, 68, 54, 55, 56, 57, 58, 59, 60, 61, 62, 63, 64, 65] rfl (by decide +kernel)
set_option maxRecDepth 20000 in
theorem gX5_settle_X5_pairsTouched : GoodIn wsX5_settle (wsV RX5 163 RX5 yX5_pairsTouched wsX5_pairsTouched) := goodIn_app (goodIn_r _ [34, 35, 36, 37] rfl (by decide +kernel)) ggX5_settle_X5_pairsTouched
set_option maxRecDepth 20000 in
theorem ggX5_settle_X2_take : GoodIn wsX5_settle wsX2_take := goodIn_r _ [33, 11, 12, 13, 66, 67, 68] rfl (by decide +kernel)
set_option maxRecDepth 20000 in
theorem gX5_settle_X2_take : GoodIn wsX5_settle (wsV RX5 79 RX2 yX2_take wsX2_take) := goodIn_app (goodIn_r _ [53, 31, 32, 9] rfl (by decide +kernel)) ggX5_settle_X2_take
theorem dX5_settle_0 : decode cX5_settle 0 = .ok (.aload_n 0, 1) := by decide +kernel
theorem dX5_settle_1 : decode cX5_settle 1 = .ok (.getfield 30, 3) := by decide +kernel
theorem dX5_settle_4 : decode cX5_settle 4 = .ok (.aload_n 0, 1) := by decide +kernel
theorem dX5_settle_5 : decode cX5_settle 5 = .ok (.getfield 26, 3) := by decide +kernel
theorem dX5_settle_8 : decode cX5_settle 8 = .ok (.invokevirtual 256, 3) := by decide +kernel
theorem dX5_settle_11 : decode cX5_settle 11 = .ok (.ifCond .eq 5, 3) := by decide +kernel
theorem dX5_settle_14 : decode cX5_settle 14 = .ok (.iconst 0, 1) := by decide +kernel
theorem dX5_settle_15 : decode cX5_settle 15 = .ok (.ireturn, 1) := by decide +kernel
theorem dX5_settle_16 : decode cX5_settle 16 = .ok (.iconst 0, 1) := by decide +kernel
theorem dX5_settle_17 : decode cX5_settle 17 = .ok (.istore_n 1, 1) := by decide +kernel
theorem dX5_settle_18 : decode cX5_settle 18 = .ok (.iconst 0, 1) := by decide +kernel
theorem dX5_settle_19 : decode cX5_settle 19 = .ok (.istore_n 2, 1) := by decide +kernel
theorem dX5_settle_20 : decode cX5_settle 20 = .ok (.iload_n 2, 1) := by decide +kernel
theorem dX5_settle_21 : decode cX5_settle 21 = .ok (.aload_n 0, 1) := by decide +kernel
theorem dX5_settle_22 : decode cX5_settle 22 = .ok (.getfield 30, 3) := by decide +kernel
theorem dX5_settle_25 : decode cX5_settle 25 = .ok (.getfield 135, 3) := by decide +kernel
theorem dX5_settle_28 : decode cX5_settle 28 = .ok (.if_icmp .ge 27, 3) := by decide +kernel
theorem dX5_settle_31 : decode cX5_settle 31 = .ok (.aload_n 0, 1) := by decide +kernel
theorem dX5_settle_32 : decode cX5_settle 32 = .ok (.getfield 30, 3) := by decide +kernel
theorem dX5_settle_35 : decode cX5_settle 35 = .ok (.aload_n 0, 1) := by decide +kernel
theorem dX5_settle_36 : decode cX5_settle 36 = .ok (.getfield 26, 3) := by decide +kernel
theorem dX5_settle_39 : decode cX5_settle 39 = .ok (.iload_n 2, 1) := by decide +kernel
theorem dX5_settle_40 : decode cX5_settle 40 = .ok (.invokevirtual 260, 3) := by decide +kernel
theorem dX5_settle_43 : decode cX5_settle 43 = .ok (.ifCond .eq 6, 3) := by decide +kernel
theorem dX5_settle_46 : decode cX5_settle 46 = .ok (.iinc 1 1, 3) := by decide +kernel
theorem dX5_settle_49 : decode cX5_settle 49 = .ok (.iinc 2 1, 3) := by decide +kernel
theorem dX5_settle_52 : decode cX5_settle 52 = .ok (.goto (-32), 3) := by decide +kernel
theorem dX5_settle_55 : decode cX5_settle 55 = .ok (.aload_n 0, 1) := by decide +kernel
theorem dX5_settle_56 : decode cX5_settle 56 = .ok (.getfield 36, 3) := by decide +kernel
theorem dX5_settle_59 : decode cX5_settle 59 = .ok (.aload_n 0, 1) := by decide +kernel
theorem dX5_settle_60 : decode cX5_settle 60 = .ok (.getfield 26, 3) := by decide +kernel
theorem dX5_settle_63 : decode cX5_settle 63 = .ok (.invokevirtual 264, 3) := by decide +kernel
theorem dX5_settle_66 : decode cX5_settle 66 = .ok (.aload_n 0, 1) := by decide +kernel
theorem dX5_settle_67 : decode cX5_settle 67 = .ok (.aload_n 0, 1) := by decide +kernel
theorem dX5_settle_68 : decode cX5_settle 68 = .ok (.aload_n 0, 1) := by decide +kernel
theorem dX5_settle_69 : decode cX5_settle 69 = .ok (.getfield 26, 3) := by decide +kernel
theorem dX5_settle_72 : decode cX5_settle 72 = .ok (.aload_n 0, 1) := by decide +kernel
theorem dX5_settle_73 : decode cX5_settle 73 = .ok (.getfield 30, 3) := by decide +kernel
theorem dX5_settle_76 : decode cX5_settle 76 = .ok (.invokevirtual 163, 3) := by decide +kernel
theorem dX5_settle_79 : decode cX5_settle 79 = .ok (.putfield 64, 3) := by decide +kernel
theorem dX5_settle_82 : decode cX5_settle 82 = .ok (.aload_n 0, 1) := by decide +kernel
theorem dX5_settle_83 : decode cX5_settle 83 = .ok (.getfield 26, 3) := by decide +kernel
theorem dX5_settle_86 : decode cX5_settle 86 = .ok (.aload_n 0, 1) := by decide +kernel
theorem dX5_settle_87 : decode cX5_settle 87 = .ok (.getfield 30, 3) := by decide +kernel
theorem dX5_settle_90 : decode cX5_settle 90 = .ok (.invokevirtual 79, 3) := by decide +kernel
theorem dX5_settle_93 : decode cX5_settle 93 = .ok (.iload_n 1, 1) := by decide +kernel
theorem dX5_settle_94 : decode cX5_settle 94 = .ok (.ireturn, 1) := by decide +kernel
set_option maxRecDepth 20000 in
theorem ggX5_pairsTouched_X5_blocksOf : GoodIn wsX5_pairsTouched wsX5_blocksOf := goodIn_r _ [5, 6, 7, 27, 28, 29, 30, 31, 32, 33, 34, 35, 36, 37, 38, 39, 40, 41] rfl (by decide +kernel)
set_option maxRecDepth 20000 in
theorem gX5_pairsTouched_X5_blocksOf : GoodIn wsX5_pairsTouched (wsV RX5 214 RX5 yX5_blocksOf wsX5_blocksOf) := goodIn_app (goodIn_r _ [1, 2, 3, 4] rfl (by decide +kernel)) ggX5_pairsTouched_X5_blocksOf
set_option maxRecDepth 20000 in
theorem ggX5_pairsTouched_X5_isTouched : GoodIn wsX5_pairsTouched wsX5_isTouched := goodIn_r _ [11, 7, 12, 13, 14, 4, 15, 6, 16, 17, 18, 19, 20, 21, 22, 23, 24, 25, 26, 30, 31, 32, 33, 34, 35, 36, 37, 38, 39, 40, 41, 27, 28, 29] rfl (by decide +kernel)
set_option maxRecDepth 20000 in
theorem gX5_pairsTouched_X5_isTouched : GoodIn wsX5_pairsTouched (wsV RX5 267 RX5 yX5_isTouched wsX5_isTouched) := goodIn_app (goodIn_r _ [8, 9, 10, 4] rfl (by decide +kernel)) ggX5_pairsTouched_X5_isTouched
theorem dX5_pairsTouched_0 : decode cX5_pairsTouched 0 = .ok (.aload_n 0, 1) := by decide +kernel
theorem dX5_pairsTouched_1 : decode cX5_pairsTouched 1 = .ok (.aload_n 2, 1) := by decide +kernel
theorem dX5_pairsTouched_2 : decode cX5_pairsTouched 2 = .ok (.invokevirtual 214, 3) := by decide +kernel
theorem dX5_pairsTouched_5 : decode cX5_pairsTouched 5 = .ok (.istore_n 3, 1) := by decide +kernel
theorem dX5_pairsTouched_6 : decode cX5_pairsTouched 6 = .ok (.iconst 0, 1) := by decide +kernel
theorem dX5_pairsTouched_7 : decode cX5_pairsTouched 7 = .ok (.istore 4, 2) := by decide +kernel
theorem dX5_pairsTouched_9 : decode cX5_pairsTouched 9 = .ok (.iconst 0, 1) := by decide +kernel
theorem dX5_pairsTouched_10 : decode cX5_pairsTouched 10 = .ok (.istore 5, 2) := by decide +kernel
theorem dX5_pairsTouched_12 : decode cX5_pairsTouched 12 = .ok (.iconst 0, 1) := by decide +kernel
theorem dX5_pairsTouched_13 : decode cX5_pairsTouched 13 = .ok (.istore 6, 2) := by decide +kernel
theorem dX5_pairsTouched_15 : decode cX5_pairsTouched 15 = .ok (.iload 6, 2) := by decide +kernel
theorem dX5_pairsTouched_17 : decode cX5_pairsTouched 17 = .ok (.iload_n 3, 1) := by decide +kernel
theorem dX5_pairsTouched_18 : decode cX5_pairsTouched 18 = .ok (.if_icmp .ge 37, 3) := by decide +kernel
theorem dX5_pairsTouched_21 : decode cX5_pairsTouched 21 = .ok (.aload_n 0, 1) := by decide +kernel
theorem dX5_pairsTouched_22 : decode cX5_pairsTouched 22 = .ok (.aload_n 1, 1) := by decide +kernel
theorem dX5_pairsTouched_23 : decode cX5_pairsTouched 23 = .ok (.aload_n 2, 1) := by decide +kernel
theorem dX5_pairsTouched_24 : decode cX5_pairsTouched 24 = .ok (.iload 6, 2) := by decide +kernel
theorem dX5_pairsTouched_26 : decode cX5_pairsTouched 26 = .ok (.invokevirtual 267, 3) := by decide +kernel
theorem dX5_pairsTouched_29 : decode cX5_pairsTouched 29 = .ok (.ifCond .eq 7, 3) := by decide +kernel
theorem dX5_pairsTouched_32 : decode cX5_pairsTouched 32 = .ok (.iconst 0, 1) := by decide +kernel
theorem dX5_pairsTouched_33 : decode cX5_pairsTouched 33 = .ok (.goto 7, 3) := by decide +kernel
theorem dX5_pairsTouched_36 : decode cX5_pairsTouched 36 = .ok (.iload 5, 2) := by decide +kernel
theorem dX5_pairsTouched_38 : decode cX5_pairsTouched 38 = .ok (.iconst 1, 1) := by decide +kernel
theorem dX5_pairsTouched_39 : decode cX5_pairsTouched 39 = .ok (.iadd, 1) := by decide +kernel
theorem dX5_pairsTouched_40 : decode cX5_pairsTouched 40 = .ok (.istore 5, 2) := by decide +kernel
theorem dX5_pairsTouched_42 : decode cX5_pairsTouched 42 = .ok (.iload 4, 2) := by decide +kernel
theorem dX5_pairsTouched_44 : decode cX5_pairsTouched 44 = .ok (.iload 5, 2) := by decide +kernel
theorem dX5_pairsTouched_46 : decode cX5_pairsTouched 46 = .ok (.iadd, 1) := by decide +kernel
theorem dX5_pairsTouched_47 : decode cX5_pairsTouched 47 = .ok (.istore 4, 2) := by decide +kernel
theorem dX5_pairsTouched_49 : decode cX5_pairsTouched 49 = .ok (.iinc 6 1, 3) := by decide +kernel
theorem dX5_pairsTouched_52 : decode cX5_pairsTouched 52 = .ok (.goto (-37), 3) := by decide +kernel
theorem dX5_pairsTouched_55 : decode cX5_pairsTouched 55 = .ok (.iload_n 3, 1) := by decide +kernel
theorem dX5_pairsTouched_56 : decode cX5_pairsTouched 56 = .ok (.iload_n 3, 1) := by decide +kernel
theorem dX5_pairsTouched_57 : decode cX5_pairsTouched 57 = .ok (.iconst 1, 1) := by decide +kernel
theorem dX5_pairsTouched_58 : decode cX5_pairsTouched 58 = .ok (.iadd, 1) := by decide +kernel
theorem dX5_pairsTouched_59 : decode cX5_pairsTouched 59 = .ok (.imul, 1) := by decide +kernel
theorem dX5_pairsTouched_60 : decode cX5_pairsTouched 60 = .ok (.iconst 2, 1) := by decide +kernel
theorem dX5_pairsTouched_61 : decode cX5_pairsTouched 61 = .ok (.idiv, 1) := by decide +kernel
theorem dX5_pairsTouched_62 : decode cX5_pairsTouched 62 = .ok (.iload 4, 2) := by decide +kernel
theorem dX5_pairsTouched_64 : decode cX5_pairsTouched 64 = .ok (.isub, 1) := by decide +kernel
theorem dX5_pairsTouched_65 : decode cX5_pairsTouched 65 = .ok (.ireturn, 1) := by decide +kernel
set_option maxRecDepth 20000 in
theorem ggX5_isTouched_X5_blockEnd : GoodIn wsX5_isTouched wsX5_blockEnd := goodIn_r _ [6, 7, 1, 8, 9, 10, 11, 31, 32, 33, 19, 20, 21, 22, 23, 24, 25, 26, 27, 28, 29, 30] rfl (by decide +kernel)
set_option maxRecDepth 20000 in
theorem gX5_isTouched_X5_blockEnd : GoodIn wsX5_isTouched (wsV RX5 218 RX5 yX5_blockEnd wsX5_blockEnd) := goodIn_app (goodIn_r _ [2, 3, 4, 5] rfl (by decide +kernel)) ggX5_isTouched_X5_blockEnd
set_option maxRecDepth 20000 in
theorem ggX5_isTouched_X2_isOtherThan : GoodIn wsX5_isTouched wsX2_isOtherThan := goodIn_r _ [16, 17, 18, 31, 32, 33] rfl (by decide +kernel)
set_option maxRecDepth 20000 in
theorem gX5_isTouched_X2_isOtherThan : GoodIn wsX5_isTouched (wsV RX5 260 RX2 yX2_isOtherThan wsX2_isOtherThan) := goodIn_app (goodIn_r _ [12, 13, 14, 15] rfl (by decide +kernel)) ggX5_isTouched_X2_isOtherThan
theorem dX5_isTouched_0 : decode cX5_isTouched 0 = .ok (.aload_n 0, 1) := by decide +kernel
theorem dX5_isTouched_1 : decode cX5_isTouched 1 = .ok (.aload_n 2, 1) := by decide +kernel
theorem dX5_isTouched_2 : decode cX5_isTouched 2 = .ok (.iload_n 3, 1) := by decide +kernel
theorem dX5_isTouched_3 : decode cX5_isTouched 3 = .ok (.invokevirtual 218, 3) := by decide +kernel
theorem dX5_isTouched_6 : decode cX5_isTouched 6 = .ok (.istore 4, 2) := by decide +kernel
theorem dX5_isTouched_8 : decode cX5_isTouched 8 = .ok (.iload_n 3, 1) := by decide +kernel
theorem dX5_isTouched_9 : decode cX5_isTouched 9 = .ok (.aload_n 0, 1) := by decide +kernel
theorem dX5_isTouched_10 : decode cX5_isTouched 10 = .ok (.getfield 54, 3) := by decide +kernel
theorem dX5_isTouched_13 : decode cX5_isTouched 13 = .ok (.imul, 1) := by decide +kernel
theorem dX5_isTouched_14 : decode cX5_isTouched 14 = .ok (.istore 5, 2) := by decide +kernel
theorem dX5_isTouched_16 : decode cX5_isTouched 16 = .ok (.iload 5, 2) := by decide +kernel
theorem dX5_isTouched_18 : decode cX5_isTouched 18 = .ok (.iload 4, 2) := by decide +kernel
theorem dX5_isTouched_20 : decode cX5_isTouched 20 = .ok (.if_icmp .ge 21, 3) := by decide +kernel
theorem dX5_isTouched_23 : decode cX5_isTouched 23 = .ok (.aload_n 2, 1) := by decide +kernel
theorem dX5_isTouched_24 : decode cX5_isTouched 24 = .ok (.aload_n 1, 1) := by decide +kernel
theorem dX5_isTouched_25 : decode cX5_isTouched 25 = .ok (.iload 5, 2) := by decide +kernel
theorem dX5_isTouched_27 : decode cX5_isTouched 27 = .ok (.invokevirtual 260, 3) := by decide +kernel
theorem dX5_isTouched_30 : decode cX5_isTouched 30 = .ok (.ifCond .eq 5, 3) := by decide +kernel
theorem dX5_isTouched_33 : decode cX5_isTouched 33 = .ok (.iconst 1, 1) := by decide +kernel
theorem dX5_isTouched_34 : decode cX5_isTouched 34 = .ok (.ireturn, 1) := by decide +kernel
theorem dX5_isTouched_35 : decode cX5_isTouched 35 = .ok (.iinc 5 1, 3) := by decide +kernel
theorem dX5_isTouched_38 : decode cX5_isTouched 38 = .ok (.goto (-22), 3) := by decide +kernel
theorem dX5_isTouched_41 : decode cX5_isTouched 41 = .ok (.iload 4, 2) := by decide +kernel
theorem dX5_isTouched_43 : decode cX5_isTouched 43 = .ok (.aload_n 0, 1) := by decide +kernel
theorem dX5_isTouched_44 : decode cX5_isTouched 44 = .ok (.aload_n 1, 1) := by decide +kernel
theorem dX5_isTouched_45 : decode cX5_isTouched 45 = .ok (.iload_n 3, 1) := by decide +kernel
theorem dX5_isTouched_46 : decode cX5_isTouched 46 = .ok (.invokevirtual 218, 3) := by decide +kernel
theorem dX5_isTouched_49 : decode cX5_isTouched 49 = .ok (.if_icmp .ge 7, 3) := by decide +kernel
theorem dX5_isTouched_52 : decode cX5_isTouched 52 = .ok (.iconst 1, 1) := by decide +kernel
theorem dX5_isTouched_53 : decode cX5_isTouched 53 = .ok (.goto 4, 3) := by decide +kernel
theorem dX5_isTouched_56 : decode cX5_isTouched 56 = .ok (.iconst 0, 1) := by decide +kernel
theorem dX5_isTouched_57 : decode cX5_isTouched 57 = .ok (.ireturn, 1) := by decide +kernel
theorem dX5_blocksOf_0 : decode cX5_blocksOf 0 = .ok (.aload_n 1, 1) := by decide +kernel
theorem dX5_blocksOf_1 : decode cX5_blocksOf 1 = .ok (.getfield 135, 3) := by decide +kernel
theorem dX5_blocksOf_4 : decode cX5_blocksOf 4 = .ok (.aload_n 0, 1) := by decide +kernel
theorem dX5_blocksOf_5 : decode cX5_blocksOf 5 = .ok (.getfield 54, 3) := by decide +kernel
theorem dX5_blocksOf_8 : decode cX5_blocksOf 8 = .ok (.iadd, 1) := by decide +kernel
theorem dX5_blocksOf_9 : decode cX5_blocksOf 9 = .ok (.iconst 1, 1) := by decide +kernel
theorem dX5_blocksOf_10 : decode cX5_blocksOf 10 = .ok (.isub, 1) := by decide +kernel
theorem dX5_blocksOf_11 : decode cX5_blocksOf 11 = .ok (.aload_n 0, 1) := by decide +kernel
theorem dX5_blocksOf_12 : decode cX5_blocksOf 12 = .ok (.getfield 54, 3) := by decide +kernel
theorem dX5_blocksOf_15 : decode cX5_blocksOf 15 = .ok (.idiv, 1) := by decide +kernel
theorem dX5_blocksOf_16 : decode cX5_blocksOf 16 = .ok (.ireturn, 1) := by decide +kernel
theorem dX5_blockEnd_0 : decode cX5_blockEnd 0 = .ok (.aload_n 1, 1) := by decide +kernel
theorem dX5_blockEnd_1 : decode cX5_blockEnd 1 = .ok (.getfield 135, 3) := by decide +kernel
theorem dX5_blockEnd_4 : decode cX5_blockEnd 4 = .ok (.iload_n 2, 1) := by decide +kernel
theorem dX5_blockEnd_5 : decode cX5_blockEnd 5 = .ok (.iconst 1, 1) := by decide +kernel
theorem dX5_blockEnd_6 : decode cX5_blockEnd 6 = .ok (.iadd, 1) := by decide +kernel
theorem dX5_blockEnd_7 : decode cX5_blockEnd 7 = .ok (.aload_n 0, 1) := by decide +kernel
theorem dX5_blockEnd_8 : decode cX5_blockEnd 8 = .ok (.getfield 54, 3) := by decide +kernel
theorem dX5_blockEnd_11 : decode cX5_blockEnd 11 = .ok (.imul, 1) := by decide +kernel
theorem dX5_blockEnd_12 : decode cX5_blockEnd 12 = .ok (.invokestatic 234, 3) := by decide +kernel
theorem dX5_blockEnd_15 : decode cX5_blockEnd 15 = .ok (.ireturn, 1) := by decide +kernel
set_option maxRecDepth 20000 in
theorem ggX5_tallySpan_X3_begin : GoodIn wsX5_tallySpan wsX3_begin := goodIn_r _ [9, 10, 11, 12, 13, 14, 15, 41, 42, 43, 44, 45, 46, 47, 48] rfl (by decide +kernel)
set_option maxRecDepth 20000 in
theorem gX5_tallySpan_X3_begin : GoodIn wsX5_tallySpan (wsV RX5 228 RX3 yX3_begin wsX3_begin) := goodIn_app (goodIn_r _ [5, 6, 7, 8] rfl (by decide +kernel)) ggX5_tallySpan_X3_begin
set_option maxRecDepth 20000 in
theorem ggX5_tallySpan_X3_push : GoodIn wsX5_tallySpan wsX3_push := goodIn_r _ [19, 11, 20, 13, 12, 10, 21, 14, 22, 23, 24, 8, 25, 15, 41, 42, 43, 44, 45, 46, 47, 48] rfl (by decide +kernel)
set_option maxRecDepth 20000 in
theorem gX5_tallySpan_X3_push : GoodIn wsX5_tallySpan (wsV RX5 231 RX3 yX3_push wsX3_push) := goodIn_app (goodIn_r _ [16, 17, 18, 8] rfl (by decide +kernel)) ggX5_tallySpan_X3_push
theorem dX5_tallySpan_0 : decode cX5_tallySpan 0 = .ok (.aload_n 0, 1) := by decide +kernel
theorem dX5_tallySpan_1 : decode cX5_tallySpan 1 = .ok (.getfield 43, 3) := by decide +kernel
theorem dX5_tallySpan_4 : decode cX5_tallySpan 4 = .ok (.aload_n 0, 1) := by decide +kernel
theorem dX5_tallySpan_5 : decode cX5_tallySpan 5 = .ok (.getfield 58, 3) := by decide +kernel
theorem dX5_tallySpan_8 : decode cX5_tallySpan 8 = .ok (.invokevirtual 228, 3) := by decide +kernel
theorem dX5_tallySpan_11 : decode cX5_tallySpan 11 = .ok (.iload_n 1, 1) := by decide +kernel
theorem dX5_tallySpan_12 : decode cX5_tallySpan 12 = .ok (.istore_n 3, 1) := by decide +kernel
theorem dX5_tallySpan_13 : decode cX5_tallySpan 13 = .ok (.iload_n 3, 1) := by decide +kernel
theorem dX5_tallySpan_14 : decode cX5_tallySpan 14 = .ok (.iload_n 2, 1) := by decide +kernel
theorem dX5_tallySpan_15 : decode cX5_tallySpan 15 = .ok (.if_icmp .gt 25, 3) := by decide +kernel
theorem dX5_tallySpan_18 : decode cX5_tallySpan 18 = .ok (.aload_n 0, 1) := by decide +kernel
theorem dX5_tallySpan_19 : decode cX5_tallySpan 19 = .ok (.getfield 43, 3) := by decide +kernel
theorem dX5_tallySpan_22 : decode cX5_tallySpan 22 = .ok (.aload_n 0, 1) := by decide +kernel
theorem dX5_tallySpan_23 : decode cX5_tallySpan 23 = .ok (.getfield 26, 3) := by decide +kernel
theorem dX5_tallySpan_26 : decode cX5_tallySpan 26 = .ok (.getfield 106, 3) := by decide +kernel
theorem dX5_tallySpan_29 : decode cX5_tallySpan 29 = .ok (.iload_n 3, 1) := by decide +kernel
theorem dX5_tallySpan_30 : decode cX5_tallySpan 30 = .ok (.iaload, 1) := by decide +kernel
theorem dX5_tallySpan_31 : decode cX5_tallySpan 31 = .ok (.invokevirtual 231, 3) := by decide +kernel
theorem dX5_tallySpan_34 : decode cX5_tallySpan 34 = .ok (.iinc 3 1, 3) := by decide +kernel
theorem dX5_tallySpan_37 : decode cX5_tallySpan 37 = .ok (.goto (-24), 3) := by decide +kernel
theorem dX5_tallySpan_40 : decode cX5_tallySpan 40 = .ok (.return_, 1) := by decide +kernel
