set_option maxRecDepth 20000 in
theorem ggX5_init_X4_init : GoodIn wsX5_init wsX4_init := goodIn_r _ [33, 34, 2, 3, 35, 36, 37, 38, 39, 40, 41, 42, 80, 81, 82, 83, 84, 85, 86] rfl (by decide +kernel)
set_option maxRecDepth 20000 in
theorem gX5_init_X4_init_n9 : GoodIn wsX5_init (wsX4_init) := ggX5_init_X4_init
set_option maxRecDepth 20000 in
theorem ggX5_init_X1_init : GoodIn wsX5_init wsX1_init := goodIn_r _ [44, 45, 2, 3, 46, 13, 14, 47, 48, 49, 50, 51, 52, 53, 54, 55, 56, 57, 26, 58, 59, 60, 107, 108, 109, 99, 100, 101, 102, 103, 104, 105, 106] rfl (by decide +kernel)
set_option maxRecDepth 20000 in
theorem gX5_init_X1_init_n18 : GoodIn wsX5_init (wsX1_init) := ggX5_init_X1_init
set_option maxRecDepth 20000 in
theorem ggX5_init_X2_init : GoodIn wsX5_init wsX2_init := goodIn_r _ [56, 57, 2, 3, 26, 58, 59, 60, 107, 108, 109] rfl (by decide +kernel)
set_option maxRecDepth 20000 in
theorem gX5_init_X2_init_n25 : GoodIn wsX5_init (wsX2_init) := ggX5_init_X2_init
set_option maxRecDepth 20000 in
theorem ggX5_init_X0_init : GoodIn wsX5_init wsX0_init := goodIn_r _ [63, 64, 2, 3, 65, 66, 67, 68, 13, 14, 55, 56, 57, 26, 58, 59, 60, 110, 111, 112, 107, 108, 109] rfl (by decide +kernel)
set_option maxRecDepth 20000 in
theorem gX5_init_X0_init : GoodIn wsX5_init (wsX0_init) := ggX5_init_X0_init
set_option maxRecDepth 20000 in
theorem ggX5_init_X3_init : GoodIn wsX5_init wsX3_init := goodIn_r _ [70, 71, 2, 3, 26, 72, 73, 74, 75, 76, 77, 78, 79, 113, 114, 115, 116, 117, 118, 119, 120] rfl (by decide +kernel)
set_option maxRecDepth 20000 in
theorem gX5_init_X3_init_n42 : GoodIn wsX5_init (wsX3_init) := ggX5_init_X3_init
theorem dX5_init_0 : decode cX5_init 0 = .ok (.aload_n 0, 1) := by decide +kernel
theorem dX5_init_1 : decode cX5_init 1 = .ok (.invokespecial 1, 3) := by decide +kernel
theorem dX5_init_4 : decode cX5_init 4 = .ok (.aload_n 0, 1) := by decide +kernel
theorem dX5_init_5 : decode cX5_init 5 = .ok (.new 7, 3) := by decide +kernel
theorem dX5_init_8 : decode cX5_init 8 = .ok (.dup, 1) := by decide +kernel
theorem dX5_init_9 : decode cX5_init 9 = .ok (.invokespecial 9, 3) := by decide +kernel
theorem dX5_init_12 : decode cX5_init 12 = .ok (.putfield 10, 3) := by decide +kernel
theorem dX5_init_15 : decode cX5_init 15 = .ok (.aload_n 0, 1) := by decide +kernel
theorem dX5_init_16 : decode cX5_init 16 = .ok (.new 16, 3) := by decide +kernel
theorem dX5_init_19 : decode cX5_init 19 = .ok (.dup, 1) := by decide +kernel
theorem dX5_init_20 : decode cX5_init 20 = .ok (.invokespecial 18, 3) := by decide +kernel
theorem dX5_init_23 : decode cX5_init 23 = .ok (.putfield 19, 3) := by decide +kernel
theorem dX5_init_26 : decode cX5_init 26 = .ok (.aload_n 0, 1) := by decide +kernel
theorem dX5_init_27 : decode cX5_init 27 = .ok (.new 23, 3) := by decide +kernel
theorem dX5_init_30 : decode cX5_init 30 = .ok (.dup, 1) := by decide +kernel
theorem dX5_init_31 : decode cX5_init 31 = .ok (.invokespecial 25, 3) := by decide +kernel
theorem dX5_init_34 : decode cX5_init 34 = .ok (.putfield 26, 3) := by decide +kernel
theorem dX5_init_37 : decode cX5_init 37 = .ok (.aload_n 0, 1) := by decide +kernel
theorem dX5_init_38 : decode cX5_init 38 = .ok (.new 23, 3) := by decide +kernel
theorem dX5_init_41 : decode cX5_init 41 = .ok (.dup, 1) := by decide +kernel
theorem dX5_init_42 : decode cX5_init 42 = .ok (.invokespecial 25, 3) := by decide +kernel
theorem dX5_init_45 : decode cX5_init 45 = .ok (.putfield 30, 3) := by decide +kernel
theorem dX5_init_48 : decode cX5_init 48 = .ok (.aload_n 0, 1) := by decide +kernel
theorem dX5_init_49 : decode cX5_init 49 = .ok (.new 33, 3) := by decide +kernel
theorem dX5_init_52 : decode cX5_init 52 = .ok (.dup, 1) := by decide +kernel
theorem dX5_init_53 : decode cX5_init 53 = .ok (.invokespecial 35, 3) := by decide +kernel
theorem dX5_init_56 : decode cX5_init 56 = .ok (.putfield 36, 3) := by decide +kernel
theorem dX5_init_59 : decode cX5_init 59 = .ok (.aload_n 0, 1) := by decide +kernel
theorem dX5_init_60 : decode cX5_init 60 = .ok (.new 40, 3) := by decide +kernel
theorem dX5_init_63 : decode cX5_init 63 = .ok (.dup, 1) := by decide +kernel
theorem dX5_init_64 : decode cX5_init 64 = .ok (.invokespecial 42, 3) := by decide +kernel
theorem dX5_init_67 : decode cX5_init 67 = .ok (.putfield 43, 3) := by decide +kernel
theorem dX5_init_70 : decode cX5_init 70 = .ok (.aload_n 0, 1) := by decide +kernel
theorem dX5_init_71 : decode cX5_init 71 = .ok (.new 40, 3) := by decide +kernel
theorem dX5_init_74 : decode cX5_init 74 = .ok (.dup, 1) := by decide +kernel
theorem dX5_init_75 : decode cX5_init 75 = .ok (.invokespecial 42, 3) := by decide +kernel
theorem dX5_init_78 : decode cX5_init 78 = .ok (.putfield 47, 3) := by decide +kernel
theorem dX5_init_81 : decode cX5_init 81 = .ok (.aload_n 0, 1) := by decide +kernel
theorem dX5_init_82 : decode cX5_init 82 = .ok (.bipush 121, 2) := by decide +kernel
theorem dX5_init_84 : decode cX5_init 84 = .ok (.newarray .int, 2) := by decide +kernel
theorem dX5_init_86 : decode cX5_init 86 = .ok (.putfield 50, 3) := by decide +kernel
theorem dX5_init_89 : decode cX5_init 89 = .ok (.aload_n 0, 1) := by decide +kernel
theorem dX5_init_90 : decode cX5_init 90 = .ok (.bipush 8, 2) := by decide +kernel
theorem dX5_init_92 : decode cX5_init 92 = .ok (.putfield 54, 3) := by decide +kernel
theorem dX5_init_95 : decode cX5_init 95 = .ok (.aload_n 0, 1) := by decide +kernel
theorem dX5_init_96 : decode cX5_init 96 = .ok (.iconst 0, 1) := by decide +kernel
theorem dX5_init_97 : decode cX5_init 97 = .ok (.putfield 58, 3) := by decide +kernel
theorem dX5_init_100 : decode cX5_init 100 = .ok (.aload_n 0, 1) := by decide +kernel
theorem dX5_init_101 : decode cX5_init 101 = .ok (.iconst 0, 1) := by decide +kernel
theorem dX5_init_102 : decode cX5_init 102 = .ok (.putfield 61, 3) := by decide +kernel
theorem dX5_init_105 : decode cX5_init 105 = .ok (.aload_n 0, 1) := by decide +kernel
theorem dX5_init_106 : decode cX5_init 106 = .ok (.bipush (-2), 2) := by decide +kernel
theorem dX5_init_108 : decode cX5_init 108 = .ok (.putfield 64, 3) := by decide +kernel
theorem dX5_init_111 : decode cX5_init 111 = .ok (.return_, 1) := by decide +kernel
set_option maxRecDepth 20000 in
theorem ggX5_feed_X4_put : GoodIn wsX5_feed wsX4_put := goodIn_r _ [7, 8, 9, 22, 23, 24, 25, 26, 27, 28] rfl (by decide +kernel)
set_option maxRecDepth 20000 in
theorem gX5_feed_X4_put : GoodIn wsX5_feed (wsV RX5 70 RX4 yX4_put wsX4_put) := goodIn_app (goodIn_r _ [3, 4, 5, 6] rfl (by decide +kernel)) ggX5_feed_X4_put
theorem dX5_feed_0 : decode cX5_feed 0 = .ok (.aload_n 0, 1) := by decide +kernel
theorem dX5_feed_1 : decode cX5_feed 1 = .ok (.getfield 10, 3) := by decide +kernel
theorem dX5_feed_4 : decode cX5_feed 4 = .ok (.getfield 67, 3) := by decide +kernel
theorem dX5_feed_7 : decode cX5_feed 7 = .ok (.bipush 20, 2) := by decide +kernel
theorem dX5_feed_9 : decode cX5_feed 9 = .ok (.iadd, 1) := by decide +kernel
theorem dX5_feed_10 : decode cX5_feed 10 = .ok (.sipush 900, 3) := by decide +kernel
theorem dX5_feed_13 : decode cX5_feed 13 = .ok (.if_icmp .le 5, 3) := by decide +kernel
theorem dX5_feed_16 : decode cX5_feed 16 = .ok (.iconst (-1), 1) := by decide +kernel
theorem dX5_feed_17 : decode cX5_feed 17 = .ok (.ireturn, 1) := by decide +kernel
theorem dX5_feed_18 : decode cX5_feed 18 = .ok (.aload_n 0, 1) := by decide +kernel
theorem dX5_feed_19 : decode cX5_feed 19 = .ok (.getfield 10, 3) := by decide +kernel
theorem dX5_feed_22 : decode cX5_feed 22 = .ok (.iload_n 1, 1) := by decide +kernel
theorem dX5_feed_23 : decode cX5_feed 23 = .ok (.invokevirtual 70, 3) := by decide +kernel
theorem dX5_feed_26 : decode cX5_feed 26 = .ok (.aload_n 0, 1) := by decide +kernel
theorem dX5_feed_27 : decode cX5_feed 27 = .ok (.getfield 10, 3) := by decide +kernel
theorem dX5_feed_30 : decode cX5_feed 30 = .ok (.iload_n 2, 1) := by decide +kernel
theorem dX5_feed_31 : decode cX5_feed 31 = .ok (.invokevirtual 70, 3) := by decide +kernel
theorem dX5_feed_34 : decode cX5_feed 34 = .ok (.aload_n 0, 1) := by decide +kernel
theorem dX5_feed_35 : decode cX5_feed 35 = .ok (.getfield 10, 3) := by decide +kernel
theorem dX5_feed_38 : decode cX5_feed 38 = .ok (.iload_n 3, 1) := by decide +kernel
theorem dX5_feed_39 : decode cX5_feed 39 = .ok (.invokevirtual 70, 3) := by decide +kernel
theorem dX5_feed_42 : decode cX5_feed 42 = .ok (.aload_n 0, 1) := by decide +kernel
theorem dX5_feed_43 : decode cX5_feed 43 = .ok (.getfield 10, 3) := by decide +kernel
theorem dX5_feed_46 : decode cX5_feed 46 = .ok (.iload 4, 2) := by decide +kernel
theorem dX5_feed_48 : decode cX5_feed 48 = .ok (.invokevirtual 70, 3) := by decide +kernel
theorem dX5_feed_51 : decode cX5_feed 51 = .ok (.aload_n 0, 1) := by decide +kernel
theorem dX5_feed_52 : decode cX5_feed 52 = .ok (.getfield 10, 3) := by decide +kernel
theorem dX5_feed_55 : decode cX5_feed 55 = .ok (.iload 5, 2) := by decide +kernel
theorem dX5_feed_57 : decode cX5_feed 57 = .ok (.invokevirtual 70, 3) := by decide +kernel
theorem dX5_feed_60 : decode cX5_feed 60 = .ok (.aload_n 0, 1) := by decide +kernel
theorem dX5_feed_61 : decode cX5_feed 61 = .ok (.getfield 10, 3) := by decide +kernel
theorem dX5_feed_64 : decode cX5_feed 64 = .ok (.getfield 67, 3) := by decide +kernel
theorem dX5_feed_67 : decode cX5_feed 67 = .ok (.ireturn, 1) := by decide +kernel
set_option maxRecDepth 20000 in
theorem ggX5_text_X1_read : GoodIn wsX5_text wsX1_read := goodIn_r _ [19, 20, 21, 22, 23, 24, 25, 26, 27, 28, 29, 30, 31, 32, 33, 34, 35, 36, 37, 38, 39, 40, 41, 42, 43, 44, 45, 46, 47, 48, 49, 50, 51, 52, 53, 54, 55, 56, 57, 58, 59, 60, 61, 62, 63, 64, 65, 66, 67, 68, 69, 18, 70, 71, 72, 73, 74, 75, 76, 77, 78, 79, 80, 81, 82, 83, 84, 85, 86, 87, 88, 89, 90, 91, 92, 93, 94, 95, 96, 97, 98, 99, 100, 101, 102, 103, 104, 105, 106, 107, 108, 109, 110, 111, 112, 113, 114, 115, 116, 117, 118, 119, 120, 121, 122, 123, 124, 125, 126, 127, 128, 129, 130, 131, 132, 133, 134, 135, 136, 137, 138, 139, 140, 141, 142, 143, 144, 145, 146, 147, 148, 149, 150, 151, 152, 153, 154, 155, 156, 157, 158, 159, 160, 161, 162, 163, 164, 165, 166, 167, 168, 169, 170, 171, 172, 173, 197, 198, 199, 200, 201, 202, 203, 204, 208, 209, 210, 190, 191, 192, 193, 194, 195, 196] rfl (by decide +kernel)
set_option maxRecDepth 20000 in
theorem gX5_text_X1_read : GoodIn wsX5_text (wsV RX5 74 RX1 yX1_read wsX1_read) := goodIn_app (goodIn_r _ [15, 16, 17, 18] rfl (by decide +kernel)) ggX5_text_X1_read
set_option maxRecDepth 20000 in
theorem ggX5_text_X2_take : GoodIn wsX5_text wsX2_take := goodIn_r _ [177, 143, 144, 145, 208, 209, 210] rfl (by decide +kernel)
set_option maxRecDepth 20000 in
theorem gX5_text_X2_take : GoodIn wsX5_text (wsV RX5 79 RX2 yX2_take wsX2_take) := goodIn_app (goodIn_r _ [174, 175, 176, 141] rfl (by decide +kernel)) ggX5_text_X2_take
theorem dX5_text_0 : decode cX5_text 0 = .ok (.iload_n 1, 1) := by decide +kernel
theorem dX5_text_1 : decode cX5_text 1 = .ok (.ifCond .lt 14, 3) := by decide +kernel
theorem dX5_text_4 : decode cX5_text 4 = .ok (.iload_n 1, 1) := by decide +kernel
theorem dX5_text_5 : decode cX5_text 5 = .ok (.aload_n 0, 1) := by decide +kernel
theorem dX5_text_6 : decode cX5_text 6 = .ok (.getfield 10, 3) := by decide +kernel
theorem dX5_text_9 : decode cX5_text 9 = .ok (.getfield 67, 3) := by decide +kernel
theorem dX5_text_12 : decode cX5_text 12 = .ok (.if_icmp .le 6, 3) := by decide +kernel
theorem dX5_text_15 : decode cX5_text 15 = .ok (.bipush (-2), 2) := by decide +kernel
theorem dX5_text_17 : decode cX5_text 17 = .ok (.ireturn, 1) := by decide +kernel
theorem dX5_text_18 : decode cX5_text 18 = .ok (.aload_n 0, 1) := by decide +kernel
theorem dX5_text_19 : decode cX5_text 19 = .ok (.getfield 19, 3) := by decide +kernel
theorem dX5_text_22 : decode cX5_text 22 = .ok (.aload_n 0, 1) := by decide +kernel
theorem dX5_text_23 : decode cX5_text 23 = .ok (.getfield 10, 3) := by decide +kernel
theorem dX5_text_26 : decode cX5_text 26 = .ok (.iload_n 1, 1) := by decide +kernel
theorem dX5_text_27 : decode cX5_text 27 = .ok (.invokevirtual 74, 3) := by decide +kernel
theorem dX5_text_30 : decode cX5_text 30 = .ok (.istore_n 2, 1) := by decide +kernel
theorem dX5_text_31 : decode cX5_text 31 = .ok (.aload_n 0, 1) := by decide +kernel
theorem dX5_text_32 : decode cX5_text 32 = .ok (.getfield 10, 3) := by decide +kernel
theorem dX5_text_35 : decode cX5_text 35 = .ok (.iconst 0, 1) := by decide +kernel
theorem dX5_text_36 : decode cX5_text 36 = .ok (.putfield 67, 3) := by decide +kernel
theorem dX5_text_39 : decode cX5_text 39 = .ok (.iload_n 2, 1) := by decide +kernel
theorem dX5_text_40 : decode cX5_text 40 = .ok (.ifCond .ne 5, 3) := by decide +kernel
theorem dX5_text_43 : decode cX5_text 43 = .ok (.iconst (-1), 1) := by decide +kernel
theorem dX5_text_44 : decode cX5_text 44 = .ok (.ireturn, 1) := by decide +kernel
theorem dX5_text_45 : decode cX5_text 45 = .ok (.aload_n 0, 1) := by decide +kernel
theorem dX5_text_46 : decode cX5_text 46 = .ok (.getfield 26, 3) := by decide +kernel
theorem dX5_text_49 : decode cX5_text 49 = .ok (.aload_n 0, 1) := by decide +kernel
theorem dX5_text_50 : decode cX5_text 50 = .ok (.getfield 19, 3) := by decide +kernel
theorem dX5_text_53 : decode cX5_text 53 = .ok (.getfield 78, 3) := by decide +kernel
theorem dX5_text_56 : decode cX5_text 56 = .ok (.invokevirtual 79, 3) := by decide +kernel
theorem dX5_text_59 : decode cX5_text 59 = .ok (.aload_n 0, 1) := by decide +kernel
theorem dX5_text_60 : decode cX5_text 60 = .ok (.aload_n 0, 1) := by decide +kernel
theorem dX5_text_61 : decode cX5_text 61 = .ok (.getfield 19, 3) := by decide +kernel
theorem dX5_text_64 : decode cX5_text 64 = .ok (.getfield 83, 3) := by decide +kernel
theorem dX5_text_67 : decode cX5_text 67 = .ok (.putfield 54, 3) := by decide +kernel
theorem dX5_text_70 : decode cX5_text 70 = .ok (.aload_n 0, 1) := by decide +kernel
theorem dX5_text_71 : decode cX5_text 71 = .ok (.aload_n 0, 1) := by decide +kernel
theorem dX5_text_72 : decode cX5_text 72 = .ok (.getfield 19, 3) := by decide +kernel
theorem dX5_text_75 : decode cX5_text 75 = .ok (.getfield 84, 3) := by decide +kernel
theorem dX5_text_78 : decode cX5_text 78 = .ok (.putfield 58, 3) := by decide +kernel
theorem dX5_text_81 : decode cX5_text 81 = .ok (.aload_n 0, 1) := by decide +kernel
theorem dX5_text_82 : decode cX5_text 82 = .ok (.aload_n 0, 1) := by decide +kernel
theorem dX5_text_83 : decode cX5_text 83 = .ok (.getfield 19, 3) := by decide +kernel
theorem dX5_text_86 : decode cX5_text 86 = .ok (.getfield 85, 3) := by decide +kernel
theorem dX5_text_89 : decode cX5_text 89 = .ok (.putfield 61, 3) := by decide +kernel
theorem dX5_text_92 : decode cX5_text 92 = .ok (.aload_n 0, 1) := by decide +kernel
theorem dX5_text_93 : decode cX5_text 93 = .ok (.getfield 36, 3) := by decide +kernel
theorem dX5_text_96 : decode cX5_text 96 = .ok (.iconst 0, 1) := by decide +kernel
theorem dX5_text_97 : decode cX5_text 97 = .ok (.putfield 86, 3) := by decide +kernel
theorem dX5_text_100 : decode cX5_text 100 = .ok (.aload_n 0, 1) := by decide +kernel
theorem dX5_text_101 : decode cX5_text 101 = .ok (.bipush (-2), 2) := by decide +kernel
theorem dX5_text_103 : decode cX5_text 103 = .ok (.putfield 64, 3) := by decide +kernel
theorem dX5_text_106 : decode cX5_text 106 = .ok (.aload_n 0, 1) := by decide +kernel
theorem dX5_text_107 : decode cX5_text 107 = .ok (.getfield 61, 3) := by decide +kernel
theorem dX5_text_110 : decode cX5_text 110 = .ok (.ireturn, 1) := by decide +kernel
theorem dX5_fault_0 : decode cX5_fault 0 = .ok (.iload_n 1, 1) := by decide +kernel
theorem dX5_fault_1 : decode cX5_fault 1 = .ok (.ifCond .ne 11, 3) := by decide +kernel
theorem dX5_fault_4 : decode cX5_fault 4 = .ok (.aload_n 0, 1) := by decide +kernel
theorem dX5_fault_5 : decode cX5_fault 5 = .ok (.getfield 19, 3) := by decide +kernel
theorem dX5_fault_8 : decode cX5_fault 8 = .ok (.getfield 89, 3) := by decide +kernel
theorem dX5_fault_11 : decode cX5_fault 11 = .ok (.ireturn, 1) := by decide +kernel
theorem dX5_fault_12 : decode cX5_fault 12 = .ok (.iload_n 1, 1) := by decide +kernel
theorem dX5_fault_13 : decode cX5_fault 13 = .ok (.iconst 1, 1) := by decide +kernel
theorem dX5_fault_14 : decode cX5_fault 14 = .ok (.if_icmp .ne 13, 3) := by decide +kernel
theorem dX5_fault_17 : decode cX5_fault 17 = .ok (.aload_n 0, 1) := by decide +kernel
theorem dX5_fault_18 : decode cX5_fault 18 = .ok (.getfield 19, 3) := by decide +kernel
theorem dX5_fault_21 : decode cX5_fault 21 = .ok (.getfield 92, 3) := by decide +kernel
theorem dX5_fault_24 : decode cX5_fault 24 = .ok (.goto 4, 3) := by decide +kernel
theorem dX5_fault_27 : decode cX5_fault 27 = .ok (.iconst (-1), 1) := by decide +kernel
theorem dX5_fault_28 : decode cX5_fault 28 = .ok (.ireturn, 1) := by decide +kernel
set_option maxRecDepth 20000 in
theorem ggX5_place_X2_has : GoodIn wsX5_place wsX2_has := goodIn_r _ [13, 14, 44, 45, 46] rfl (by decide +kernel)
set_option maxRecDepth 20000 in
theorem gX5_place_X2_has : GoodIn wsX5_place (wsV RX5 95 RX2 yX2_has wsX2_has) := goodIn_app (goodIn_of _ (by decide +kernel)) ggX5_place_X2_has
set_option maxRecDepth 20000 in
theorem ggX5_place_X2_howOften : GoodIn wsX5_place wsX2_howOften := goodIn_r _ [18, 19, 44, 45, 46] rfl (by decide +kernel)
set_option maxRecDepth 20000 in
theorem gX5_place_X2_howOften : GoodIn wsX5_place (wsV RX5 112 RX2 yX2_howOften wsX2_howOften) := goodIn_app (goodIn_of _ (by decide +kernel)) ggX5_place_X2_howOften
set_option maxRecDepth 20000 in
theorem ggX5_place_X2_from : GoodIn wsX5_place wsX2_from := goodIn_r _ [23, 24, 25, 26, 12, 27, 14, 19, 44, 45, 46] rfl (by decide +kernel)
set_option maxRecDepth 20000 in
theorem gX5_place_X2_from : GoodIn wsX5_place (wsV RX5 116 RX2 yX2_from wsX2_from) := goodIn_app (goodIn_of _ (by decide +kernel)) ggX5_place_X2_from
set_option maxRecDepth 20000 in
theorem ggX5_place_X2_upTo : GoodIn wsX5_place wsX2_upTo := goodIn_r _ [31, 19, 44, 45, 46] rfl (by decide +kernel)
set_option maxRecDepth 20000 in
theorem gX5_place_X2_upTo : GoodIn wsX5_place (wsV RX5 120 RX2 yX2_upTo wsX2_upTo) := goodIn_app (goodIn_of _ (by decide +kernel)) ggX5_place_X2_upTo
theorem dX5_place_0 : decode cX5_place 0 = .ok (.aload_n 0, 1) := by decide +kernel
theorem dX5_place_1 : decode cX5_place 1 = .ok (.getfield 26, 3) := by decide +kernel
theorem dX5_place_4 : decode cX5_place 4 = .ok (.iload_n 1, 1) := by decide +kernel
theorem dX5_place_5 : decode cX5_place 5 = .ok (.invokevirtual 95, 3) := by decide +kernel
theorem dX5_place_8 : decode cX5_place 8 = .ok (.ifCond .ne 13, 3) := by decide +kernel
theorem dX5_place_11 : decode cX5_place 11 = .ok (.new 99, 3) := by decide +kernel
theorem dX5_place_14 : decode cX5_place 14 = .ok (.dup, 1) := by decide +kernel
theorem dX5_place_15 : decode cX5_place 15 = .ok (.ldc 101, 2) := by decide +kernel
theorem dX5_place_17 : decode cX5_place 17 = .ok (.invokespecial 103, 3) := by decide +kernel
theorem dX5_place_20 : decode cX5_place 20 = .ok (.athrow, 1) := by decide +kernel
theorem dX5_place_21 : decode cX5_place 21 = .ok (.aload_n 0, 1) := by decide +kernel
theorem dX5_place_22 : decode cX5_place 22 = .ok (.getfield 26, 3) := by decide +kernel
theorem dX5_place_25 : decode cX5_place 25 = .ok (.getfield 106, 3) := by decide +kernel
theorem dX5_place_28 : decode cX5_place 28 = .ok (.iload_n 1, 1) := by decide +kernel
theorem dX5_place_29 : decode cX5_place 29 = .ok (.iaload, 1) := by decide +kernel
theorem dX5_place_30 : decode cX5_place 30 = .ok (.istore_n 3, 1) := by decide +kernel
theorem dX5_place_31 : decode cX5_place 31 = .ok (.iload_n 2, 1) := by decide +kernel
theorem dX5_place_32 : decode cX5_place 32 = .ok (.tableswitch 96 0 5 #[40, 42, 52, 59, 72, 84], 40) := by decide +kernel
theorem dX5_place_72 : decode cX5_place 72 = .ok (.iload_n 3, 1) := by decide +kernel
theorem dX5_place_73 : decode cX5_place 73 = .ok (.ireturn, 1) := by decide +kernel
theorem dX5_place_74 : decode cX5_place 74 = .ok (.aload_n 0, 1) := by decide +kernel
theorem dX5_place_75 : decode cX5_place 75 = .ok (.getfield 26, 3) := by decide +kernel
theorem dX5_place_78 : decode cX5_place 78 = .ok (.getfield 109, 3) := by decide +kernel
theorem dX5_place_81 : decode cX5_place 81 = .ok (.iload_n 1, 1) := by decide +kernel
theorem dX5_place_82 : decode cX5_place 82 = .ok (.iaload, 1) := by decide +kernel
theorem dX5_place_83 : decode cX5_place 83 = .ok (.ireturn, 1) := by decide +kernel
theorem dX5_place_84 : decode cX5_place 84 = .ok (.iload_n 1, 1) := by decide +kernel
theorem dX5_place_85 : decode cX5_place 85 = .ok (.aload_n 0, 1) := by decide +kernel
theorem dX5_place_86 : decode cX5_place 86 = .ok (.getfield 54, 3) := by decide +kernel
theorem dX5_place_89 : decode cX5_place 89 = .ok (.idiv, 1) := by decide +kernel
theorem dX5_place_90 : decode cX5_place 90 = .ok (.ireturn, 1) := by decide +kernel
theorem dX5_place_91 : decode cX5_place 91 = .ok (.aload_n 0, 1) := by decide +kernel
theorem dX5_place_92 : decode cX5_place 92 = .ok (.getfield 26, 3) := by decide +kernel
theorem dX5_place_95 : decode cX5_place 95 = .ok (.iload_n 3, 1) := by decide +kernel
theorem dX5_place_96 : decode cX5_place 96 = .ok (.iconst 0, 1) := by decide +kernel
theorem dX5_place_97 : decode cX5_place 97 = .ok (.iload_n 1, 1) := by decide +kernel
theorem dX5_place_98 : decode cX5_place 98 = .ok (.iconst 1, 1) := by decide +kernel
theorem dX5_place_99 : decode cX5_place 99 = .ok (.isub, 1) := by decide +kernel
theorem dX5_place_100 : decode cX5_place 100 = .ok (.invokevirtual 112, 3) := by decide +kernel
theorem dX5_place_103 : decode cX5_place 103 = .ok (.ireturn, 1) := by decide +kernel
theorem dX5_place_104 : decode cX5_place 104 = .ok (.aload_n 0, 1) := by decide +kernel
theorem dX5_place_105 : decode cX5_place 105 = .ok (.getfield 26, 3) := by decide +kernel
theorem dX5_place_108 : decode cX5_place 108 = .ok (.iload_n 3, 1) := by decide +kernel
theorem dX5_place_109 : decode cX5_place 109 = .ok (.iload_n 1, 1) := by decide +kernel
theorem dX5_place_110 : decode cX5_place 110 = .ok (.iconst 1, 1) := by decide +kernel
theorem dX5_place_111 : decode cX5_place 111 = .ok (.iadd, 1) := by decide +kernel
theorem dX5_place_112 : decode cX5_place 112 = .ok (.invokevirtual 116, 3) := by decide +kernel
theorem dX5_place_115 : decode cX5_place 115 = .ok (.ireturn, 1) := by decide +kernel
theorem dX5_place_116 : decode cX5_place 116 = .ok (.aload_n 0, 1) := by decide +kernel
theorem dX5_place_117 : decode cX5_place 117 = .ok (.getfield 26, 3) := by decide +kernel
theorem dX5_place_120 : decode cX5_place 120 = .ok (.iload_n 3, 1) := by decide +kernel
theorem dX5_place_121 : decode cX5_place 121 = .ok (.iload_n 1, 1) := by decide +kernel
theorem dX5_place_122 : decode cX5_place 122 = .ok (.iconst 1, 1) := by decide +kernel
theorem dX5_place_123 : decode cX5_place 123 = .ok (.isub, 1) := by decide +kernel
theorem dX5_place_124 : decode cX5_place 124 = .ok (.invokevirtual 120, 3) := by decide +kernel
theorem dX5_place_127 : decode cX5_place 127 = .ok (.ireturn, 1) := by decide +kernel
theorem dX5_place_128 : decode cX5_place 128 = .ok (.new 123, 3) := by decide +kernel
theorem dX5_place_131 : decode cX5_place 131 = .ok (.dup, 1) := by decide +kernel
theorem dX5_place_132 : decode cX5_place 132 = .ok (.ldc 125, 2) := by decide +kernel
theorem dX5_place_134 : decode cX5_place 134 = .ok (.invokespecial 127, 3) := by decide +kernel
theorem dX5_place_137 : decode cX5_place 137 = .ok (.athrow, 1) := by decide +kernel
set_option maxRecDepth 20000 in
theorem ggX5_set_X2_has : GoodIn wsX5_set wsX2_has := goodIn_r _ [8, 9, 78, 79, 80] rfl (by decide +kernel)
set_option maxRecDepth 20000 in
theorem gX5_set_X2_has : GoodIn wsX5_set (wsV RX5 95 RX2 yX2_has wsX2_has) := goodIn_app (goodIn_r _ [4, 5, 6, 7] rfl (by decide +kernel)) ggX5_set_X2_has
set_option maxRecDepth 20000 in
theorem ggX5_set_X5_isValue : GoodIn wsX5_set wsX5_isValue := goodIn_r _ [13] rfl (by decide +kernel)
set_option maxRecDepth 20000 in
theorem gX5_set_X5_isValue : GoodIn wsX5_set (va_wsS RX5 128 yX5_isValue wsX5_isValue) := goodIn_app (goodIn_r _ [10, 11, 12] rfl (by decide +kernel)) ggX5_set_X5_isValue
set_option maxRecDepth 20000 in
theorem ggX5_set_X2_take : GoodIn wsX5_set wsX2_take := goodIn_r _ [17, 9, 18, 19, 78, 79, 80] rfl (by decide +kernel)
set_option maxRecDepth 20000 in
theorem gX5_set_X2_take : GoodIn wsX5_set (wsV RX5 79 RX2 yX2_take wsX2_take) := goodIn_app (goodIn_r _ [14, 15, 16, 7] rfl (by decide +kernel)) ggX5_set_X2_take
set_option maxRecDepth 20000 in
theorem ggX5_set_X5_settle : GoodIn wsX5_set wsX5_settle := goodIn_r _ [23, 3, 1, 24, 25, 26, 27, 28, 29, 7, 30, 9, 18, 19, 31, 32, 33, 34, 35, 36, 37, 38, 39, 40, 41, 42, 43, 44, 45, 46, 47, 15, 16, 17, 48, 49, 50, 12, 51, 52, 53, 54, 55, 56, 57, 58, 59, 60, 61, 62, 63, 64, 65, 14, 66, 67, 68, 69, 70, 71, 72, 73, 74, 75, 76, 77, 78, 79, 80, 81, 82, 83] rfl (by decide +kernel)
set_option maxRecDepth 20000 in
theorem gX5_set_X5_settle : GoodIn wsX5_set (wsV RX5 131 RX5 yX5_settle wsX5_settle) := goodIn_app (goodIn_r _ [20, 21, 22, 12] rfl (by decide +kernel)) ggX5_set_X5_settle
theorem dX5_set_0 : decode cX5_set 0 = .ok (.aload_n 0, 1) := by decide +kernel
theorem dX5_set_1 : decode cX5_set 1 = .ok (.getfield 26, 3) := by decide +kernel
theorem dX5_set_4 : decode cX5_set 4 = .ok (.iload_n 1, 1) := by decide +kernel
theorem dX5_set_5 : decode cX5_set 5 = .ok (.invokevirtual 95, 3) := by decide +kernel
theorem dX5_set_8 : decode cX5_set 8 = .ok (.ifCond .eq 10, 3) := by decide +kernel
theorem dX5_set_11 : decode cX5_set 11 = .ok (.iload_n 2, 1) := by decide +kernel
theorem dX5_set_12 : decode cX5_set 12 = .ok (.invokestatic 128, 3) := by decide +kernel
theorem dX5_set_15 : decode cX5_set 15 = .ok (.ifCond .ne 5, 3) := by decide +kernel
theorem dX5_set_18 : decode cX5_set 18 = .ok (.iconst (-1), 1) := by decide +kernel
theorem dX5_set_19 : decode cX5_set 19 = .ok (.ireturn, 1) := by decide +kernel
theorem dX5_set_20 : decode cX5_set 20 = .ok (.aload_n 0, 1) := by decide +kernel
theorem dX5_set_21 : decode cX5_set 21 = .ok (.getfield 26, 3) := by decide +kernel
theorem dX5_set_24 : decode cX5_set 24 = .ok (.getfield 106, 3) := by decide +kernel
theorem dX5_set_27 : decode cX5_set 27 = .ok (.iload_n 1, 1) := by decide +kernel
theorem dX5_set_28 : decode cX5_set 28 = .ok (.iaload, 1) := by decide +kernel
theorem dX5_set_29 : decode cX5_set 29 = .ok (.istore_n 3, 1) := by decide +kernel
theorem dX5_set_30 : decode cX5_set 30 = .ok (.aload_n 0, 1) := by decide +kernel
theorem dX5_set_31 : decode cX5_set 31 = .ok (.getfield 30, 3) := by decide +kernel
theorem dX5_set_34 : decode cX5_set 34 = .ok (.aload_n 0, 1) := by decide +kernel
theorem dX5_set_35 : decode cX5_set 35 = .ok (.getfield 26, 3) := by decide +kernel
theorem dX5_set_38 : decode cX5_set 38 = .ok (.invokevirtual 79, 3) := by decide +kernel
theorem dX5_set_41 : decode cX5_set 41 = .ok (.aload_n 0, 1) := by decide +kernel
theorem dX5_set_42 : decode cX5_set 42 = .ok (.getfield 30, 3) := by decide +kernel
theorem dX5_set_45 : decode cX5_set 45 = .ok (.getfield 106, 3) := by decide +kernel
theorem dX5_set_48 : decode cX5_set 48 = .ok (.iload_n 1, 1) := by decide +kernel
theorem dX5_set_49 : decode cX5_set 49 = .ok (.iload_n 2, 1) := by decide +kernel
theorem dX5_set_50 : decode cX5_set 50 = .ok (.iastore, 1) := by decide +kernel
theorem dX5_set_51 : decode cX5_set 51 = .ok (.aload_n 0, 1) := by decide +kernel
theorem dX5_set_52 : decode cX5_set 52 = .ok (.invokevirtual 131, 3) := by decide +kernel
theorem dX5_set_55 : decode cX5_set 55 = .ok (.pop, 1) := by decide +kernel
theorem dX5_set_56 : decode cX5_set 56 = .ok (.iload_n 3, 1) := by decide +kernel
theorem dX5_set_57 : decode cX5_set 57 = .ok (.ireturn, 1) := by decide +kernel
set_option maxRecDepth 20000 in
theorem ggX5_weigh_X2_has : GoodIn wsX5_weigh wsX2_has := goodIn_r _ [8, 9, 75, 76, 77] rfl (by decide +kernel)
set_option maxRecDepth 20000 in
theorem gX5_weigh_X2_has : GoodIn wsX5_weigh (wsV RX5 95 RX2 yX2_has wsX2_has) := goodIn_app (goodIn_r _ [4, 5, 6, 7] rfl (by decide +kernel)) ggX5_weigh_X2_has
set_option maxRecDepth 20000 in
theorem ggX5_weigh_X2_take : GoodIn wsX5_weigh wsX2_take := goodIn_r _ [13, 9, 14, 15, 75, 76, 77] rfl (by decide +kernel)
set_option maxRecDepth 20000 in
theorem gX5_weigh_X2_take : GoodIn wsX5_weigh (wsV RX5 79 RX2 yX2_take wsX2_take) := goodIn_app (goodIn_r _ [10, 11, 12, 7] rfl (by decide +kernel)) ggX5_weigh_X2_take
set_option maxRecDepth 20000 in
theorem ggX5_weigh_X5_settle : GoodIn wsX5_weigh wsX5_settle := goodIn_r _ [20, 3, 1, 21, 22, 23, 24, 25, 26, 7, 27, 9, 14, 15, 28, 29, 30, 31, 32, 33, 34, 35, 36, 37, 38, 39, 40, 41, 42, 43, 44, 11, 12, 13, 45, 46, 47, 19, 48, 49, 50, 51, 52, 53, 54, 55, 56, 57, 58, 59, 60, 61, 62, 10, 63, 64, 65, 66, 67, 68, 69, 70, 71, 72, 73, 74, 75, 76, 77, 78, 79, 80] rfl (by decide +kernel)
set_option maxRecDepth 20000 in
theorem gX5_weigh_X5_settle : GoodIn wsX5_weigh (wsV RX5 131 RX5 yX5_settle wsX5_settle) := goodIn_app (goodIn_r _ [16, 17, 18, 19] rfl (by decide +kernel)) ggX5_weigh_X5_settle
theorem dX5_weigh_0 : decode cX5_weigh 0 = .ok (.aload_n 0, 1) := by decide +kernel
theorem dX5_weigh_1 : decode cX5_weigh 1 = .ok (.getfield 26, 3) := by decide +kernel
theorem dX5_weigh_4 : decode cX5_weigh 4 = .ok (.iload_n 1, 1) := by decide +kernel
theorem dX5_weigh_5 : decode cX5_weigh 5 = .ok (.invokevirtual 95, 3) := by decide +kernel
theorem dX5_weigh_8 : decode cX5_weigh 8 = .ok (.ifCond .eq 14, 3) := by decide +kernel
theorem dX5_weigh_11 : decode cX5_weigh 11 = .ok (.iload_n 2, 1) := by decide +kernel
theorem dX5_weigh_12 : decode cX5_weigh 12 = .ok (.iconst 1, 1) := by decide +kernel
theorem dX5_weigh_13 : decode cX5_weigh 13 = .ok (.if_icmp .lt 9, 3) := by decide +kernel
theorem dX5_weigh_16 : decode cX5_weigh 16 = .ok (.iload_n 2, 1) := by decide +kernel
theorem dX5_weigh_17 : decode cX5_weigh 17 = .ok (.bipush 9, 2) := by decide +kernel
theorem dX5_weigh_19 : decode cX5_weigh 19 = .ok (.if_icmp .le 5, 3) := by decide +kernel
theorem dX5_weigh_22 : decode cX5_weigh 22 = .ok (.iconst (-1), 1) := by decide +kernel
theorem dX5_weigh_23 : decode cX5_weigh 23 = .ok (.ireturn, 1) := by decide +kernel
theorem dX5_weigh_24 : decode cX5_weigh 24 = .ok (.aload_n 0, 1) := by decide +kernel
theorem dX5_weigh_25 : decode cX5_weigh 25 = .ok (.getfield 26, 3) := by decide +kernel
theorem dX5_weigh_28 : decode cX5_weigh 28 = .ok (.getfield 109, 3) := by decide +kernel
theorem dX5_weigh_31 : decode cX5_weigh 31 = .ok (.iload_n 1, 1) := by decide +kernel
theorem dX5_weigh_32 : decode cX5_weigh 32 = .ok (.iaload, 1) := by decide +kernel
theorem dX5_weigh_33 : decode cX5_weigh 33 = .ok (.istore_n 3, 1) := by decide +kernel
theorem dX5_weigh_34 : decode cX5_weigh 34 = .ok (.aload_n 0, 1) := by decide +kernel
theorem dX5_weigh_35 : decode cX5_weigh 35 = .ok (.getfield 30, 3) := by decide +kernel
theorem dX5_weigh_38 : decode cX5_weigh 38 = .ok (.aload_n 0, 1) := by decide +kernel
theorem dX5_weigh_39 : decode cX5_weigh 39 = .ok (.getfield 26, 3) := by decide +kernel
theorem dX5_weigh_42 : decode cX5_weigh 42 = .ok (.invokevirtual 79, 3) := by decide +kernel
theorem dX5_weigh_45 : decode cX5_weigh 45 = .ok (.aload_n 0, 1) := by decide +kernel
theorem dX5_weigh_46 : decode cX5_weigh 46 = .ok (.getfield 30, 3) := by decide +kernel
theorem dX5_weigh_49 : decode cX5_weigh 49 = .ok (.getfield 109, 3) := by decide +kernel
theorem dX5_weigh_52 : decode cX5_weigh 52 = .ok (.iload_n 1, 1) := by decide +kernel
theorem dX5_weigh_53 : decode cX5_weigh 53 = .ok (.iload_n 2, 1) := by decide +kernel
theorem dX5_weigh_54 : decode cX5_weigh 54 = .ok (.iastore, 1) := by decide +kernel
theorem dX5_weigh_55 : decode cX5_weigh 55 = .ok (.aload_n 0, 1) := by decide +kernel
theorem dX5_weigh_56 : decode cX5_weigh 56 = .ok (.invokevirtual 131, 3) := by decide +kernel
theorem dX5_weigh_59 : decode cX5_weigh 59 = .ok (.pop, 1) := by decide +kernel
theorem dX5_weigh_60 : decode cX5_weigh 60 = .ok (.iload_n 3, 1) := by decide +kernel
theorem dX5_weigh_61 : decode cX5_weigh 61 = .ok (.ireturn, 1) := by decide +kernel
set_option maxRecDepth 20000 in
theorem ggX5_insert_X5_isValue : GoodIn wsX5_insert wsX5_isValue := goodIn_r _ [7] rfl (by decide +kernel)
set_option maxRecDepth 20000 in
theorem gX5_insert_X5_isValue : GoodIn wsX5_insert (va_wsS RX5 128 yX5_isValue wsX5_isValue) := goodIn_app (goodIn_r _ [4, 5, 6] rfl (by decide +kernel)) ggX5_insert_X5_isValue
set_option maxRecDepth 20000 in
theorem ggX5_insert_X2_take : GoodIn wsX5_insert wsX2_take := goodIn_r _ [12, 13, 14, 15, 77, 78, 79] rfl (by decide +kernel)
set_option maxRecDepth 20000 in
theorem gX5_insert_X2_take : GoodIn wsX5_insert (wsV RX5 79 RX2 yX2_take wsX2_take) := goodIn_app (goodIn_r _ [8, 9, 10, 11] rfl (by decide +kernel)) ggX5_insert_X2_take
set_option maxRecDepth 20000 in
theorem ggX5_insert_X2_open : GoodIn wsX5_insert wsX2_open := goodIn_r _ [19, 13, 14, 15, 77, 78, 79] rfl (by decide +kernel)
set_option maxRecDepth 20000 in
theorem gX5_insert_X2_open : GoodIn wsX5_insert (wsV RX5 138 RX2 yX2_open wsX2_open) := goodIn_app (goodIn_r _ [16, 17, 18, 11] rfl (by decide +kernel)) ggX5_insert_X2_open
set_option maxRecDepth 20000 in
theorem ggX5_insert_X5_settle : GoodIn wsX5_insert wsX5_settle := goodIn_r _ [23, 3, 1, 2, 24, 25, 26, 27, 28, 11, 29, 13, 14, 15, 30, 31, 32, 33, 34, 35, 36, 37, 38, 39, 40, 41, 42, 43, 44, 45, 46, 9, 10, 12, 47, 48, 49, 6, 50, 51, 52, 53, 54, 55, 56, 57, 58, 59, 60, 61, 62, 63, 64, 8, 65, 66, 67, 68, 69, 70, 71, 72, 73, 74, 75, 76, 77, 78, 79, 80, 81, 82] rfl (by decide +kernel)
set_option maxRecDepth 20000 in
theorem gX5_insert_X5_settle : GoodIn wsX5_insert (wsV RX5 131 RX5 yX5_settle wsX5_settle) := goodIn_app (goodIn_r _ [20, 21, 22, 6] rfl (by decide +kernel)) ggX5_insert_X5_settle
theorem dX5_insert_0 : decode cX5_insert 0 = .ok (.iload_n 1, 1) := by decide +kernel
theorem dX5_insert_1 : decode cX5_insert 1 = .ok (.ifCond .lt 33, 3) := by decide +kernel
theorem dX5_insert_4 : decode cX5_insert 4 = .ok (.iload_n 1, 1) := by decide +kernel
theorem dX5_insert_5 : decode cX5_insert 5 = .ok (.aload_n 0, 1) := by decide +kernel
theorem dX5_insert_6 : decode cX5_insert 6 = .ok (.getfield 26, 3) := by decide +kernel
theorem dX5_insert_9 : decode cX5_insert 9 = .ok (.getfield 135, 3) := by decide +kernel
theorem dX5_insert_12 : decode cX5_insert 12 = .ok (.if_icmp .gt 22, 3) := by decide +kernel
theorem dX5_insert_15 : decode cX5_insert 15 = .ok (.iload_n 2, 1) := by decide +kernel
theorem dX5_insert_16 : decode cX5_insert 16 = .ok (.invokestatic 128, 3) := by decide +kernel
theorem dX5_insert_19 : decode cX5_insert 19 = .ok (.ifCond .eq 15, 3) := by decide +kernel
theorem dX5_insert_22 : decode cX5_insert 22 = .ok (.aload_n 0, 1) := by decide +kernel
theorem dX5_insert_23 : decode cX5_insert 23 = .ok (.getfield 26, 3) := by decide +kernel
theorem dX5_insert_26 : decode cX5_insert 26 = .ok (.getfield 135, 3) := by decide +kernel
theorem dX5_insert_29 : decode cX5_insert 29 = .ok (.bipush 120, 2) := by decide +kernel
theorem dX5_insert_31 : decode cX5_insert 31 = .ok (.if_icmp .lt 5, 3) := by decide +kernel
theorem dX5_insert_34 : decode cX5_insert 34 = .ok (.iconst (-1), 1) := by decide +kernel
theorem dX5_insert_35 : decode cX5_insert 35 = .ok (.ireturn, 1) := by decide +kernel
theorem dX5_insert_36 : decode cX5_insert 36 = .ok (.aload_n 0, 1) := by decide +kernel
theorem dX5_insert_37 : decode cX5_insert 37 = .ok (.getfield 30, 3) := by decide +kernel
theorem dX5_insert_40 : decode cX5_insert 40 = .ok (.aload_n 0, 1) := by decide +kernel
theorem dX5_insert_41 : decode cX5_insert 41 = .ok (.getfield 26, 3) := by decide +kernel
theorem dX5_insert_44 : decode cX5_insert 44 = .ok (.invokevirtual 79, 3) := by decide +kernel
theorem dX5_insert_47 : decode cX5_insert 47 = .ok (.aload_n 0, 1) := by decide +kernel
theorem dX5_insert_48 : decode cX5_insert 48 = .ok (.getfield 30, 3) := by decide +kernel
theorem dX5_insert_51 : decode cX5_insert 51 = .ok (.iload_n 1, 1) := by decide +kernel
theorem dX5_insert_52 : decode cX5_insert 52 = .ok (.iload_n 2, 1) := by decide +kernel
theorem dX5_insert_53 : decode cX5_insert 53 = .ok (.invokevirtual 138, 3) := by decide +kernel
theorem dX5_insert_56 : decode cX5_insert 56 = .ok (.aload_n 0, 1) := by decide +kernel
theorem dX5_insert_57 : decode cX5_insert 57 = .ok (.invokevirtual 131, 3) := by decide +kernel
theorem dX5_insert_60 : decode cX5_insert 60 = .ok (.pop, 1) := by decide +kernel
theorem dX5_insert_61 : decode cX5_insert 61 = .ok (.aload_n 0, 1) := by decide +kernel
theorem dX5_insert_62 : decode cX5_insert 62 = .ok (.getfield 26, 3) := by decide +kernel
theorem dX5_insert_65 : decode cX5_insert 65 = .ok (.getfield 135, 3) := by decide +kernel
theorem dX5_insert_68 : decode cX5_insert 68 = .ok (.ireturn, 1) := by decide +kernel
set_option maxRecDepth 20000 in
theorem ggX5_remove_X2_has : GoodIn wsX5_remove wsX2_has := goodIn_r _ [8, 9, 79, 80, 81] rfl (by decide +kernel)
set_option maxRecDepth 20000 in
theorem gX5_remove_X2_has : GoodIn wsX5_remove (wsV RX5 95 RX2 yX2_has wsX2_has) := goodIn_app (goodIn_r _ [4, 5, 6, 7] rfl (by decide +kernel)) ggX5_remove_X2_has
set_option maxRecDepth 20000 in
theorem ggX5_remove_X2_take : GoodIn wsX5_remove wsX2_take := goodIn_r _ [13, 9, 14, 15, 79, 80, 81] rfl (by decide +kernel)
set_option maxRecDepth 20000 in
theorem gX5_remove_X2_take : GoodIn wsX5_remove (wsV RX5 79 RX2 yX2_take wsX2_take) := goodIn_app (goodIn_r _ [10, 11, 12, 7] rfl (by decide +kernel)) ggX5_remove_X2_take
set_option maxRecDepth 20000 in
theorem ggX5_remove_X2_close : GoodIn wsX5_remove wsX2_close := goodIn_r _ [19, 9, 14, 15, 79, 80, 81] rfl (by decide +kernel)
set_option maxRecDepth 20000 in
theorem gX5_remove_X2_close : GoodIn wsX5_remove (wsV RX5 142 RX2 yX2_close wsX2_close) := goodIn_app (goodIn_r _ [16, 17, 18, 7] rfl (by decide +kernel)) ggX5_remove_X2_close
set_option maxRecDepth 20000 in
theorem ggX5_remove_X5_settle : GoodIn wsX5_remove wsX5_settle := goodIn_r _ [24, 3, 1, 25, 26, 27, 28, 29, 30, 7, 31, 9, 14, 15, 32, 33, 34, 35, 36, 37, 38, 39, 40, 41, 42, 43, 44, 45, 46, 47, 48, 11, 12, 13, 49, 50, 51, 23, 52, 53, 54, 55, 56, 57, 58, 59, 60, 61, 62, 63, 64, 65, 66, 10, 67, 68, 69, 70, 71, 72, 73, 74, 75, 76, 77, 78, 79, 80, 81, 82, 83, 84] rfl (by decide +kernel)
set_option maxRecDepth 20000 in
theorem gX5_remove_X5_settle : GoodIn wsX5_remove (wsV RX5 131 RX5 yX5_settle wsX5_settle) := goodIn_app (goodIn_r _ [20, 21, 22, 23] rfl (by decide +kernel)) ggX5_remove_X5_settle
theorem dX5_remove_0 : decode cX5_remove 0 = .ok (.aload_n 0, 1) := by decide +kernel
theorem dX5_remove_1 : decode cX5_remove 1 = .ok (.getfield 26, 3) := by decide +kernel
theorem dX5_remove_4 : decode cX5_remove 4 = .ok (.iload_n 1, 1) := by decide +kernel
theorem dX5_remove_5 : decode cX5_remove 5 = .ok (.invokevirtual 95, 3) := by decide +kernel
theorem dX5_remove_8 : decode cX5_remove 8 = .ok (.ifCond .ne 5, 3) := by decide +kernel
theorem dX5_remove_11 : decode cX5_remove 11 = .ok (.iconst (-1), 1) := by decide +kernel
theorem dX5_remove_12 : decode cX5_remove 12 = .ok (.ireturn, 1) := by decide +kernel
theorem dX5_remove_13 : decode cX5_remove 13 = .ok (.aload_n 0, 1) := by decide +kernel
theorem dX5_remove_14 : decode cX5_remove 14 = .ok (.getfield 26, 3) := by decide +kernel
theorem dX5_remove_17 : decode cX5_remove 17 = .ok (.getfield 106, 3) := by decide +kernel
theorem dX5_remove_20 : decode cX5_remove 20 = .ok (.iload_n 1, 1) := by decide +kernel
theorem dX5_remove_21 : decode cX5_remove 21 = .ok (.iaload, 1) := by decide +kernel
theorem dX5_remove_22 : decode cX5_remove 22 = .ok (.istore_n 2, 1) := by decide +kernel
theorem dX5_remove_23 : decode cX5_remove 23 = .ok (.aload_n 0, 1) := by decide +kernel
theorem dX5_remove_24 : decode cX5_remove 24 = .ok (.getfield 30, 3) := by decide +kernel
theorem dX5_remove_27 : decode cX5_remove 27 = .ok (.aload_n 0, 1) := by decide +kernel
theorem dX5_remove_28 : decode cX5_remove 28 = .ok (.getfield 26, 3) := by decide +kernel
theorem dX5_remove_31 : decode cX5_remove 31 = .ok (.invokevirtual 79, 3) := by decide +kernel
theorem dX5_remove_34 : decode cX5_remove 34 = .ok (.aload_n 0, 1) := by decide +kernel
theorem dX5_remove_35 : decode cX5_remove 35 = .ok (.getfield 30, 3) := by decide +kernel
theorem dX5_remove_38 : decode cX5_remove 38 = .ok (.iload_n 1, 1) := by decide +kernel
theorem dX5_remove_39 : decode cX5_remove 39 = .ok (.invokevirtual 142, 3) := by decide +kernel
theorem dX5_remove_42 : decode cX5_remove 42 = .ok (.aload_n 0, 1) := by decide +kernel
theorem dX5_remove_43 : decode cX5_remove 43 = .ok (.invokevirtual 131, 3) := by decide +kernel
theorem dX5_remove_46 : decode cX5_remove 46 = .ok (.pop, 1) := by decide +kernel
theorem dX5_remove_47 : decode cX5_remove 47 = .ok (.iload_n 2, 1) := by decide +kernel
theorem dX5_remove_48 : decode cX5_remove 48 = .ok (.ireturn, 1) := by decide +kernel
set_option maxRecDepth 20000 in
theorem ggX5_fill_X2_hasSpan : GoodIn wsX5_fill wsX2_hasSpan := goodIn_r _ [8, 9, 78, 79, 80] rfl (by decide +kernel)
set_option maxRecDepth 20000 in
theorem gX5_fill_X2_hasSpan : GoodIn wsX5_fill (wsV RX5 145 RX2 yX2_hasSpan wsX2_hasSpan) := goodIn_app (goodIn_r _ [4, 5, 6, 7] rfl (by decide +kernel)) ggX5_fill_X2_hasSpan
set_option maxRecDepth 20000 in
theorem ggX5_fill_X5_isValue : GoodIn wsX5_fill wsX5_isValue := goodIn_r _ [13] rfl (by decide +kernel)
set_option maxRecDepth 20000 in
theorem gX5_fill_X5_isValue : GoodIn wsX5_fill (va_wsS RX5 128 yX5_isValue wsX5_isValue) := goodIn_app (goodIn_r _ [10, 11, 12] rfl (by decide +kernel)) ggX5_fill_X5_isValue
set_option maxRecDepth 20000 in
theorem ggX5_fill_X2_take : GoodIn wsX5_fill wsX2_take := goodIn_r _ [17, 9, 18, 19, 78, 79, 80] rfl (by decide +kernel)
set_option maxRecDepth 20000 in
theorem gX5_fill_X2_take : GoodIn wsX5_fill (wsV RX5 79 RX2 yX2_take wsX2_take) := goodIn_app (goodIn_r _ [14, 15, 16, 7] rfl (by decide +kernel)) ggX5_fill_X2_take
set_option maxRecDepth 20000 in
theorem ggX5_fill_X5_settle : GoodIn wsX5_fill wsX5_settle := goodIn_r _ [23, 2, 1, 24, 25, 26, 27, 28, 29, 7, 30, 9, 18, 19, 31, 32, 33, 34, 35, 36, 37, 38, 39, 40, 41, 42, 43, 44, 45, 46, 47, 15, 16, 17, 48, 49, 50, 12, 51, 52, 53, 54, 55, 56, 57, 58, 59, 60, 61, 62, 63, 64, 65, 14, 66, 67, 68, 69, 70, 71, 72, 73, 74, 75, 76, 77, 78, 79, 80, 81, 82, 83] rfl (by decide +kernel)
set_option maxRecDepth 20000 in
theorem gX5_fill_X5_settle : GoodIn wsX5_fill (wsV RX5 131 RX5 yX5_settle wsX5_settle) := goodIn_app (goodIn_r _ [20, 21, 22, 12] rfl (by decide +kernel)) ggX5_fill_X5_settle
theorem dX5_fill_0 : decode cX5_fill 0 = .ok (.aload_n 0, 1) := by decide +kernel
theorem dX5_fill_1 : decode cX5_fill 1 = .ok (.getfield 26, 3) := by decide +kernel
theorem dX5_fill_4 : decode cX5_fill 4 = .ok (.iload_n 1, 1) := by decide +kernel
theorem dX5_fill_5 : decode cX5_fill 5 = .ok (.iload_n 2, 1) := by decide +kernel
theorem dX5_fill_6 : decode cX5_fill 6 = .ok (.invokevirtual 145, 3) := by decide +kernel
theorem dX5_fill_9 : decode cX5_fill 9 = .ok (.ifCond .eq 10, 3) := by decide +kernel
theorem dX5_fill_12 : decode cX5_fill 12 = .ok (.iload_n 3, 1) := by decide +kernel
theorem dX5_fill_13 : decode cX5_fill 13 = .ok (.invokestatic 128, 3) := by decide +kernel
theorem dX5_fill_16 : decode cX5_fill 16 = .ok (.ifCond .ne 5, 3) := by decide +kernel
theorem dX5_fill_19 : decode cX5_fill 19 = .ok (.iconst (-1), 1) := by decide +kernel
theorem dX5_fill_20 : decode cX5_fill 20 = .ok (.ireturn, 1) := by decide +kernel
theorem dX5_fill_21 : decode cX5_fill 21 = .ok (.aload_n 0, 1) := by decide +kernel
theorem dX5_fill_22 : decode cX5_fill 22 = .ok (.getfield 30, 3) := by decide +kernel
theorem dX5_fill_25 : decode cX5_fill 25 = .ok (.aload_n 0, 1) := by decide +kernel
theorem dX5_fill_26 : decode cX5_fill 26 = .ok (.getfield 26, 3) := by decide +kernel
theorem dX5_fill_29 : decode cX5_fill 29 = .ok (.invokevirtual 79, 3) := by decide +kernel
theorem dX5_fill_32 : decode cX5_fill 32 = .ok (.iload_n 1, 1) := by decide +kernel
theorem dX5_fill_33 : decode cX5_fill 33 = .ok (.istore 4, 2) := by decide +kernel
theorem dX5_fill_35 : decode cX5_fill 35 = .ok (.iload 4, 2) := by decide +kernel
theorem dX5_fill_37 : decode cX5_fill 37 = .ok (.iload_n 2, 1) := by decide +kernel
theorem dX5_fill_38 : decode cX5_fill 38 = .ok (.if_icmp .gt 20, 3) := by decide +kernel
theorem dX5_fill_41 : decode cX5_fill 41 = .ok (.aload_n 0, 1) := by decide +kernel
theorem dX5_fill_42 : decode cX5_fill 42 = .ok (.getfield 30, 3) := by decide +kernel
theorem dX5_fill_45 : decode cX5_fill 45 = .ok (.getfield 106, 3) := by decide +kernel
theorem dX5_fill_48 : decode cX5_fill 48 = .ok (.iload 4, 2) := by decide +kernel
theorem dX5_fill_50 : decode cX5_fill 50 = .ok (.iload_n 3, 1) := by decide +kernel
theorem dX5_fill_51 : decode cX5_fill 51 = .ok (.iastore, 1) := by decide +kernel
theorem dX5_fill_52 : decode cX5_fill 52 = .ok (.iinc 4 1, 3) := by decide +kernel
theorem dX5_fill_55 : decode cX5_fill 55 = .ok (.goto (-20), 3) := by decide +kernel
theorem dX5_fill_58 : decode cX5_fill 58 = .ok (.aload_n 0, 1) := by decide +kernel
theorem dX5_fill_59 : decode cX5_fill 59 = .ok (.invokevirtual 131, 3) := by decide +kernel
theorem dX5_fill_62 : decode cX5_fill 62 = .ok (.ireturn, 1) := by decide +kernel
set_option maxRecDepth 20000 in
theorem ggX5_swap_X2_has : GoodIn wsX5_swap wsX2_has := goodIn_r _ [7, 8, 78, 79, 80] rfl (by decide +kernel)
set_option maxRecDepth 20000 in
theorem gX5_swap_X2_has : GoodIn wsX5_swap (wsV RX5 95 RX2 yX2_has wsX2_has) := goodIn_app (goodIn_r _ [3, 4, 5, 6] rfl (by decide +kernel)) ggX5_swap_X2_has
set_option maxRecDepth 20000 in
theorem ggX5_swap_X2_take : GoodIn wsX5_swap wsX2_take := goodIn_r _ [12, 8, 13, 14, 78, 79, 80] rfl (by decide +kernel)
set_option maxRecDepth 20000 in
theorem gX5_swap_X2_take : GoodIn wsX5_swap (wsV RX5 79 RX2 yX2_take wsX2_take) := goodIn_app (goodIn_r _ [9, 10, 11, 6] rfl (by decide +kernel)) ggX5_swap_X2_take
set_option maxRecDepth 20000 in
theorem ggX5_swap_X2_exchange : GoodIn wsX5_swap wsX2_exchange := goodIn_r _ [18, 13, 14, 78, 79, 80] rfl (by decide +kernel)
set_option maxRecDepth 20000 in
theorem gX5_swap_X2_exchange : GoodIn wsX5_swap (wsV RX5 149 RX2 yX2_exchange wsX2_exchange) := goodIn_app (goodIn_r _ [15, 16, 17, 6] rfl (by decide +kernel)) ggX5_swap_X2_exchange
set_option maxRecDepth 20000 in
theorem ggX5_swap_X5_settle : GoodIn wsX5_swap wsX5_settle := goodIn_r _ [23, 2, 1, 24, 25, 26, 27, 28, 29, 6, 30, 8, 13, 14, 31, 32, 33, 34, 35, 36, 37, 38, 39, 40, 41, 42, 43, 44, 45, 46, 47, 10, 11, 12, 48, 49, 50, 22, 51, 52, 53, 54, 55, 56, 57, 58, 59, 60, 61, 62, 63, 64, 65, 9, 66, 67, 68, 69, 70, 71, 72, 73, 74, 75, 76, 77, 78, 79, 80, 81, 82, 83] rfl (by decide +kernel)
set_option maxRecDepth 20000 in
theorem gX5_swap_X5_settle : GoodIn wsX5_swap (wsV RX5 131 RX5 yX5_settle wsX5_settle) := goodIn_app (goodIn_r _ [19, 20, 21, 22] rfl (by decide +kernel)) ggX5_swap_X5_settle
theorem dX5_swap_0 : decode cX5_swap 0 = .ok (.aload_n 0, 1) := by decide +kernel
theorem dX5_swap_1 : decode cX5_swap 1 = .ok (.getfield 26, 3) := by decide +kernel
theorem dX5_swap_4 : decode cX5_swap 4 = .ok (.iload_n 1, 1) := by decide +kernel
theorem dX5_swap_5 : decode cX5_swap 5 = .ok (.invokevirtual 95, 3) := by decide +kernel
theorem dX5_swap_8 : decode cX5_swap 8 = .ok (.ifCond .eq 19, 3) := by decide +kernel
theorem dX5_swap_11 : decode cX5_swap 11 = .ok (.aload_n 0, 1) := by decide +kernel
theorem dX5_swap_12 : decode cX5_swap 12 = .ok (.getfield 26, 3) := by decide +kernel
theorem dX5_swap_15 : decode cX5_swap 15 = .ok (.iload_n 2, 1) := by decide +kernel
theorem dX5_swap_16 : decode cX5_swap 16 = .ok (.invokevirtual 95, 3) := by decide +kernel
theorem dX5_swap_19 : decode cX5_swap 19 = .ok (.ifCond .eq 8, 3) := by decide +kernel
theorem dX5_swap_22 : decode cX5_swap 22 = .ok (.iload_n 1, 1) := by decide +kernel
theorem dX5_swap_23 : decode cX5_swap 23 = .ok (.iload_n 2, 1) := by decide +kernel
theorem dX5_swap_24 : decode cX5_swap 24 = .ok (.if_icmp .ne 5, 3) := by decide +kernel
theorem dX5_swap_27 : decode cX5_swap 27 = .ok (.iconst 0, 1) := by decide +kernel
theorem dX5_swap_28 : decode cX5_swap 28 = .ok (.ireturn, 1) := by decide +kernel
theorem dX5_swap_29 : decode cX5_swap 29 = .ok (.aload_n 0, 1) := by decide +kernel
theorem dX5_swap_30 : decode cX5_swap 30 = .ok (.getfield 30, 3) := by decide +kernel
theorem dX5_swap_33 : decode cX5_swap 33 = .ok (.aload_n 0, 1) := by decide +kernel
theorem dX5_swap_34 : decode cX5_swap 34 = .ok (.getfield 26, 3) := by decide +kernel
theorem dX5_swap_37 : decode cX5_swap 37 = .ok (.invokevirtual 79, 3) := by decide +kernel
theorem dX5_swap_40 : decode cX5_swap 40 = .ok (.aload_n 0, 1) := by decide +kernel
theorem dX5_swap_41 : decode cX5_swap 41 = .ok (.getfield 30, 3) := by decide +kernel
theorem dX5_swap_44 : decode cX5_swap 44 = .ok (.iload_n 1, 1) := by decide +kernel
theorem dX5_swap_45 : decode cX5_swap 45 = .ok (.iload_n 2, 1) := by decide +kernel
theorem dX5_swap_46 : decode cX5_swap 46 = .ok (.invokevirtual 149, 3) := by decide +kernel
theorem dX5_swap_49 : decode cX5_swap 49 = .ok (.aload_n 0, 1) := by decide +kernel
theorem dX5_swap_50 : decode cX5_swap 50 = .ok (.invokevirtual 131, 3) := by decide +kernel
theorem dX5_swap_53 : decode cX5_swap 53 = .ok (.pop, 1) := by decide +kernel
theorem dX5_swap_54 : decode cX5_swap 54 = .ok (.iconst 1, 1) := by decide +kernel
theorem dX5_swap_55 : decode cX5_swap 55 = .ok (.ireturn, 1) := by decide +kernel
set_option maxRecDepth 20000 in
theorem ggX5_flip_X2_hasSpan : GoodIn wsX5_flip wsX2_hasSpan := goodIn_r _ [7, 8, 82, 83, 84] rfl (by decide +kernel)
set_option maxRecDepth 20000 in
theorem gX5_flip_X2_hasSpan : GoodIn wsX5_flip (wsV RX5 145 RX2 yX2_hasSpan wsX2_hasSpan) := goodIn_app (goodIn_r _ [3, 4, 5, 6] rfl (by decide +kernel)) ggX5_flip_X2_hasSpan
set_option maxRecDepth 20000 in
theorem ggX5_flip_X2_take : GoodIn wsX5_flip wsX2_take := goodIn_r _ [12, 8, 13, 14, 82, 83, 84] rfl (by decide +kernel)
set_option maxRecDepth 20000 in
theorem gX5_flip_X2_take : GoodIn wsX5_flip (wsV RX5 79 RX2 yX2_take wsX2_take) := goodIn_app (goodIn_r _ [9, 10, 11, 6] rfl (by decide +kernel)) ggX5_flip_X2_take
set_option maxRecDepth 20000 in
theorem ggX5_flip_X2_turn : GoodIn wsX5_flip wsX2_turn := goodIn_r _ [18, 19, 20, 21, 6, 22, 13, 14, 82, 83, 84] rfl (by decide +kernel)
set_option maxRecDepth 20000 in
theorem gX5_flip_X2_turn : GoodIn wsX5_flip (wsV RX5 152 RX2 yX2_turn wsX2_turn) := goodIn_app (goodIn_r _ [15, 16, 17, 6] rfl (by decide +kernel)) ggX5_flip_X2_turn
set_option maxRecDepth 20000 in
theorem ggX5_flip_X5_settle : GoodIn wsX5_flip wsX5_settle := goodIn_r _ [27, 2, 1, 28, 29, 30, 31, 32, 33, 6, 34, 8, 13, 14, 35, 36, 37, 38, 39, 40, 41, 42, 43, 44, 45, 46, 47, 48, 49, 50, 51, 10, 11, 12, 52, 53, 54, 26, 55, 56, 57, 58, 59, 60, 61, 62, 63, 64, 65, 66, 67, 68, 69, 9, 70, 71, 72, 73, 74, 75, 76, 77, 78, 79, 80, 81, 82, 83, 84, 85, 86, 87] rfl (by decide +kernel)
set_option maxRecDepth 20000 in
theorem gX5_flip_X5_settle : GoodIn wsX5_flip (wsV RX5 131 RX5 yX5_settle wsX5_settle) := goodIn_app (goodIn_r _ [23, 24, 25, 26] rfl (by decide +kernel)) ggX5_flip_X5_settle
theorem dX5_flip_0 : decode cX5_flip 0 = .ok (.aload_n 0, 1) := by decide +kernel
theorem dX5_flip_1 : decode cX5_flip 1 = .ok (.getfield 26, 3) := by decide +kernel
theorem dX5_flip_4 : decode cX5_flip 4 = .ok (.iload_n 1, 1) := by decide +kernel
theorem dX5_flip_5 : decode cX5_flip 5 = .ok (.iload_n 2, 1) := by decide +kernel
theorem dX5_flip_6 : decode cX5_flip 6 = .ok (.invokevirtual 145, 3) := by decide +kernel
theorem dX5_flip_9 : decode cX5_flip 9 = .ok (.ifCond .ne 5, 3) := by decide +kernel
theorem dX5_flip_12 : decode cX5_flip 12 = .ok (.iconst (-1), 1) := by decide +kernel
theorem dX5_flip_13 : decode cX5_flip 13 = .ok (.ireturn, 1) := by decide +kernel
theorem dX5_flip_14 : decode cX5_flip 14 = .ok (.aload_n 0, 1) := by decide +kernel
theorem dX5_flip_15 : decode cX5_flip 15 = .ok (.getfield 30, 3) := by decide +kernel
theorem dX5_flip_18 : decode cX5_flip 18 = .ok (.aload_n 0, 1) := by decide +kernel
theorem dX5_flip_19 : decode cX5_flip 19 = .ok (.getfield 26, 3) := by decide +kernel
theorem dX5_flip_22 : decode cX5_flip 22 = .ok (.invokevirtual 79, 3) := by decide +kernel
theorem dX5_flip_25 : decode cX5_flip 25 = .ok (.aload_n 0, 1) := by decide +kernel
theorem dX5_flip_26 : decode cX5_flip 26 = .ok (.getfield 30, 3) := by decide +kernel
theorem dX5_flip_29 : decode cX5_flip 29 = .ok (.iload_n 1, 1) := by decide +kernel
theorem dX5_flip_30 : decode cX5_flip 30 = .ok (.iload_n 2, 1) := by decide +kernel
theorem dX5_flip_31 : decode cX5_flip 31 = .ok (.invokevirtual 152, 3) := by decide +kernel
theorem dX5_flip_34 : decode cX5_flip 34 = .ok (.aload_n 0, 1) := by decide +kernel
theorem dX5_flip_35 : decode cX5_flip 35 = .ok (.invokevirtual 131, 3) := by decide +kernel
theorem dX5_flip_38 : decode cX5_flip 38 = .ok (.ireturn, 1) := by decide +kernel
set_option maxRecDepth 20000 in
theorem ggX5_shift_X2_hasSpan : GoodIn wsX5_shift wsX2_hasSpan := goodIn_r _ [7, 8, 82, 83, 84] rfl (by decide +kernel)
set_option maxRecDepth 20000 in
theorem gX5_shift_X2_hasSpan : GoodIn wsX5_shift (wsV RX5 145 RX2 yX2_hasSpan wsX2_hasSpan) := goodIn_app (goodIn_r _ [3, 4, 5, 6] rfl (by decide +kernel)) ggX5_shift_X2_hasSpan
set_option maxRecDepth 20000 in
theorem ggX5_shift_X2_take : GoodIn wsX5_shift wsX2_take := goodIn_r _ [12, 8, 13, 14, 82, 83, 84] rfl (by decide +kernel)
set_option maxRecDepth 20000 in
theorem gX5_shift_X2_take : GoodIn wsX5_shift (wsV RX5 79 RX2 yX2_take wsX2_take) := goodIn_app (goodIn_r _ [9, 10, 11, 6] rfl (by decide +kernel)) ggX5_shift_X2_take
set_option maxRecDepth 20000 in
theorem ggX5_shift_X2_turn : GoodIn wsX5_shift wsX2_turn := goodIn_r _ [18, 19, 20, 21, 6, 22, 13, 14, 82, 83, 84] rfl (by decide +kernel)
set_option maxRecDepth 20000 in
theorem gX5_shift_X2_turn : GoodIn wsX5_shift (wsV RX5 152 RX2 yX2_turn wsX2_turn) := goodIn_app (goodIn_r _ [15, 16, 17, 6] rfl (by decide +kernel)) ggX5_shift_X2_turn
set_option maxRecDepth 20000 in
theorem ggX5_shift_X5_settle : GoodIn wsX5_shift wsX5_settle := goodIn_r _ [27, 2, 1, 28, 29, 30, 31, 32, 33, 6, 34, 8, 13, 14, 35, 36, 37, 38, 39, 40, 41, 42, 43, 44, 45, 46, 47, 48, 49, 50, 51, 10, 11, 12, 52, 53, 54, 26, 55, 56, 57, 58, 59, 60, 61, 62, 63, 64, 65, 66, 67, 68, 69, 9, 70, 71, 72, 73, 74, 75, 76, 77, 78, 79, 80, 81, 82, 83, 84, 85, 86, 87] rfl (by decide +kernel)
set_option maxRecDepth 20000 in
theorem gX5_shift_X5_settle : GoodIn wsX5_shift (wsV RX5 131 RX5 yX5_settle wsX5_settle) := goodIn_app (goodIn_r _ [23, 24, 25, 26] rfl (by decide +kernel)) ggX5_shift_X5_settle
theorem dX5_shift_0 : decode cX5_shift 0 = .ok (.aload_n 0, 1) := by decide +kernel
theorem dX5_shift_1 : decode cX5_shift 1 = .ok (.getfield 26, 3) := by decide +kernel
theorem dX5_shift_4 : decode cX5_shift 4 = .ok (.iload_n 1, 1) := by decide +kernel
theorem dX5_shift_5 : decode cX5_shift 5 = .ok (.iload_n 2, 1) := by decide +kernel
theorem dX5_shift_6 : decode cX5_shift 6 = .ok (.invokevirtual 145, 3) := by decide +kernel
theorem dX5_shift_9 : decode cX5_shift 9 = .ok (.ifCond .eq 16, 3) := by decide +kernel
theorem dX5_shift_12 : decode cX5_shift 12 = .ok (.iload_n 3, 1) := by decide +kernel
theorem dX5_shift_13 : decode cX5_shift 13 = .ok (.ifCond .lt 12, 3) := by decide +kernel
theorem dX5_shift_16 : decode cX5_shift 16 = .ok (.iload_n 3, 1) := by decide +kernel
theorem dX5_shift_17 : decode cX5_shift 17 = .ok (.iload_n 2, 1) := by decide +kernel
theorem dX5_shift_18 : decode cX5_shift 18 = .ok (.iload_n 1, 1) := by decide +kernel
theorem dX5_shift_19 : decode cX5_shift 19 = .ok (.isub, 1) := by decide +kernel
theorem dX5_shift_20 : decode cX5_shift 20 = .ok (.iconst 1, 1) := by decide +kernel
theorem dX5_shift_21 : decode cX5_shift 21 = .ok (.iadd, 1) := by decide +kernel
theorem dX5_shift_22 : decode cX5_shift 22 = .ok (.if_icmp .le 5, 3) := by decide +kernel
theorem dX5_shift_25 : decode cX5_shift 25 = .ok (.iconst (-1), 1) := by decide +kernel
theorem dX5_shift_26 : decode cX5_shift 26 = .ok (.ireturn, 1) := by decide +kernel
theorem dX5_shift_27 : decode cX5_shift 27 = .ok (.aload_n 0, 1) := by decide +kernel
theorem dX5_shift_28 : decode cX5_shift 28 = .ok (.getfield 30, 3) := by decide +kernel
theorem dX5_shift_31 : decode cX5_shift 31 = .ok (.aload_n 0, 1) := by decide +kernel
theorem dX5_shift_32 : decode cX5_shift 32 = .ok (.getfield 26, 3) := by decide +kernel
theorem dX5_shift_35 : decode cX5_shift 35 = .ok (.invokevirtual 79, 3) := by decide +kernel
theorem dX5_shift_38 : decode cX5_shift 38 = .ok (.aload_n 0, 1) := by decide +kernel
theorem dX5_shift_39 : decode cX5_shift 39 = .ok (.getfield 30, 3) := by decide +kernel
theorem dX5_shift_42 : decode cX5_shift 42 = .ok (.iload_n 1, 1) := by decide +kernel
theorem dX5_shift_43 : decode cX5_shift 43 = .ok (.iload_n 2, 1) := by decide +kernel
theorem dX5_shift_44 : decode cX5_shift 44 = .ok (.invokevirtual 152, 3) := by decide +kernel
theorem dX5_shift_47 : decode cX5_shift 47 = .ok (.aload_n 0, 1) := by decide +kernel
theorem dX5_shift_48 : decode cX5_shift 48 = .ok (.getfield 30, 3) := by decide +kernel
theorem dX5_shift_51 : decode cX5_shift 51 = .ok (.iload_n 1, 1) := by decide +kernel
theorem dX5_shift_52 : decode cX5_shift 52 = .ok (.iload_n 1, 1) := by decide +kernel
theorem dX5_shift_53 : decode cX5_shift 53 = .ok (.iload_n 3, 1) := by decide +kernel
theorem dX5_shift_54 : decode cX5_shift 54 = .ok (.iadd, 1) := by decide +kernel
theorem dX5_shift_55 : decode cX5_shift 55 = .ok (.iconst 1, 1) := by decide +kernel
theorem dX5_shift_56 : decode cX5_shift 56 = .ok (.isub, 1) := by decide +kernel
theorem dX5_shift_57 : decode cX5_shift 57 = .ok (.invokevirtual 152, 3) := by decide +kernel
theorem dX5_shift_60 : decode cX5_shift 60 = .ok (.aload_n 0, 1) := by decide +kernel
theorem dX5_shift_61 : decode cX5_shift 61 = .ok (.getfield 30, 3) := by decide +kernel
theorem dX5_shift_64 : decode cX5_shift 64 = .ok (.iload_n 1, 1) := by decide +kernel
theorem dX5_shift_65 : decode cX5_shift 65 = .ok (.iload_n 3, 1) := by decide +kernel
theorem dX5_shift_66 : decode cX5_shift 66 = .ok (.iadd, 1) := by decide +kernel
theorem dX5_shift_67 : decode cX5_shift 67 = .ok (.iload_n 2, 1) := by decide +kernel
theorem dX5_shift_68 : decode cX5_shift 68 = .ok (.invokevirtual 152, 3) := by decide +kernel
theorem dX5_shift_71 : decode cX5_shift 71 = .ok (.aload_n 0, 1) := by decide +kernel
theorem dX5_shift_72 : decode cX5_shift 72 = .ok (.invokevirtual 131, 3) := by decide +kernel
theorem dX5_shift_75 : decode cX5_shift 75 = .ok (.ireturn, 1) := by decide +kernel
set_option maxRecDepth 20000 in
theorem ggX5_replace_X5_isValue : GoodIn wsX5_replace wsX5_isValue := goodIn_r _ [8] rfl (by decide +kernel)
set_option maxRecDepth 20000 in
theorem gX5_replace_X5_isValue : GoodIn wsX5_replace (va_wsS RX5 128 yX5_isValue wsX5_isValue) := goodIn_app (goodIn_r _ [5, 6, 7] rfl (by decide +kernel)) ggX5_replace_X5_isValue
set_option maxRecDepth 20000 in
theorem ggX5_replace_X2_take : GoodIn wsX5_replace wsX2_take := goodIn_r _ [13, 14, 15, 16, 74, 75, 76] rfl (by decide +kernel)
set_option maxRecDepth 20000 in
theorem gX5_replace_X2_take : GoodIn wsX5_replace (wsV RX5 79 RX2 yX2_take wsX2_take) := goodIn_app (goodIn_r _ [9, 10, 11, 12] rfl (by decide +kernel)) ggX5_replace_X2_take
set_option maxRecDepth 20000 in
theorem ggX5_replace_X5_settle : GoodIn wsX5_replace wsX5_settle := goodIn_r _ [20, 1, 2, 3, 21, 22, 23, 24, 25, 12, 26, 14, 15, 16, 27, 28, 29, 30, 31, 32, 33, 34, 35, 36, 37, 38, 39, 40, 41, 42, 43, 10, 11, 13, 44, 45, 46, 7, 47, 48, 49, 50, 51, 52, 53, 54, 55, 56, 57, 58, 59, 60, 61, 9, 62, 63, 64, 65, 66, 67, 68, 69, 70, 71, 72, 73, 74, 75, 76, 77, 78, 79] rfl (by decide +kernel)
set_option maxRecDepth 20000 in
theorem gX5_replace_X5_settle : GoodIn wsX5_replace (wsV RX5 131 RX5 yX5_settle wsX5_settle) := goodIn_app (goodIn_r _ [17, 18, 19, 7] rfl (by decide +kernel)) ggX5_replace_X5_settle
theorem dX5_replace_0 : decode cX5_replace 0 = .ok (.iload_n 1, 1) := by decide +kernel
theorem dX5_replace_1 : decode cX5_replace 1 = .ok (.invokestatic 128, 3) := by decide +kernel
theorem dX5_replace_4 : decode cX5_replace 4 = .ok (.ifCond .eq 10, 3) := by decide +kernel
theorem dX5_replace_7 : decode cX5_replace 7 = .ok (.iload_n 2, 1) := by decide +kernel
theorem dX5_replace_8 : decode cX5_replace 8 = .ok (.invokestatic 128, 3) := by decide +kernel
theorem dX5_replace_11 : decode cX5_replace 11 = .ok (.ifCond .ne 5, 3) := by decide +kernel
theorem dX5_replace_14 : decode cX5_replace 14 = .ok (.iconst (-1), 1) := by decide +kernel
theorem dX5_replace_15 : decode cX5_replace 15 = .ok (.ireturn, 1) := by decide +kernel
theorem dX5_replace_16 : decode cX5_replace 16 = .ok (.aload_n 0, 1) := by decide +kernel
theorem dX5_replace_17 : decode cX5_replace 17 = .ok (.getfield 30, 3) := by decide +kernel
theorem dX5_replace_20 : decode cX5_replace 20 = .ok (.aload_n 0, 1) := by decide +kernel
theorem dX5_replace_21 : decode cX5_replace 21 = .ok (.getfield 26, 3) := by decide +kernel
theorem dX5_replace_24 : decode cX5_replace 24 = .ok (.invokevirtual 79, 3) := by decide +kernel
theorem dX5_replace_27 : decode cX5_replace 27 = .ok (.iconst 0, 1) := by decide +kernel
theorem dX5_replace_28 : decode cX5_replace 28 = .ok (.istore_n 3, 1) := by decide +kernel
theorem dX5_replace_29 : decode cX5_replace 29 = .ok (.iload_n 3, 1) := by decide +kernel
theorem dX5_replace_30 : decode cX5_replace 30 = .ok (.aload_n 0, 1) := by decide +kernel
theorem dX5_replace_31 : decode cX5_replace 31 = .ok (.getfield 30, 3) := by decide +kernel
theorem dX5_replace_34 : decode cX5_replace 34 = .ok (.getfield 135, 3) := by decide +kernel
theorem dX5_replace_37 : decode cX5_replace 37 = .ok (.if_icmp .ge 32, 3) := by decide +kernel
theorem dX5_replace_40 : decode cX5_replace 40 = .ok (.aload_n 0, 1) := by decide +kernel
theorem dX5_replace_41 : decode cX5_replace 41 = .ok (.getfield 30, 3) := by decide +kernel
theorem dX5_replace_44 : decode cX5_replace 44 = .ok (.getfield 106, 3) := by decide +kernel
theorem dX5_replace_47 : decode cX5_replace 47 = .ok (.iload_n 3, 1) := by decide +kernel
theorem dX5_replace_48 : decode cX5_replace 48 = .ok (.iaload, 1) := by decide +kernel
theorem dX5_replace_49 : decode cX5_replace 49 = .ok (.iload_n 1, 1) := by decide +kernel
theorem dX5_replace_50 : decode cX5_replace 50 = .ok (.if_icmp .ne 13, 3) := by decide +kernel
theorem dX5_replace_53 : decode cX5_replace 53 = .ok (.aload_n 0, 1) := by decide +kernel
theorem dX5_replace_54 : decode cX5_replace 54 = .ok (.getfield 30, 3) := by decide +kernel
theorem dX5_replace_57 : decode cX5_replace 57 = .ok (.getfield 106, 3) := by decide +kernel
theorem dX5_replace_60 : decode cX5_replace 60 = .ok (.iload_n 3, 1) := by decide +kernel
theorem dX5_replace_61 : decode cX5_replace 61 = .ok (.iload_n 2, 1) := by decide +kernel
theorem dX5_replace_62 : decode cX5_replace 62 = .ok (.iastore, 1) := by decide +kernel
theorem dX5_replace_63 : decode cX5_replace 63 = .ok (.iinc 3 1, 3) := by decide +kernel
theorem dX5_replace_66 : decode cX5_replace 66 = .ok (.goto (-37), 3) := by decide +kernel
theorem dX5_replace_69 : decode cX5_replace 69 = .ok (.aload_n 0, 1) := by decide +kernel
theorem dX5_replace_70 : decode cX5_replace 70 = .ok (.invokevirtual 131, 3) := by decide +kernel
theorem dX5_replace_73 : decode cX5_replace 73 = .ok (.ireturn, 1) := by decide +kernel
set_option maxRecDepth 20000 in
theorem ggX5_sort_X2_hasSpan : GoodIn wsX5_sort wsX2_hasSpan := goodIn_r _ [7, 8, 86, 87, 88] rfl (by decide +kernel)
set_option maxRecDepth 20000 in
theorem gX5_sort_X2_hasSpan : GoodIn wsX5_sort (wsV RX5 145 RX2 yX2_hasSpan wsX2_hasSpan) := goodIn_app (goodIn_r _ [3, 4, 5, 6] rfl (by decide +kernel)) ggX5_sort_X2_hasSpan
set_option maxRecDepth 20000 in
theorem ggX5_sort_X2_take : GoodIn wsX5_sort wsX2_take := goodIn_r _ [12, 8, 13, 14, 86, 87, 88] rfl (by decide +kernel)
set_option maxRecDepth 20000 in
theorem gX5_sort_X2_take : GoodIn wsX5_sort (wsV RX5 79 RX2 yX2_take wsX2_take) := goodIn_app (goodIn_r _ [9, 10, 11, 6] rfl (by decide +kernel)) ggX5_sort_X2_take
set_option maxRecDepth 20000 in
theorem ggX5_sort_X2_order : GoodIn wsX5_sort wsX2_order := goodIn_r _ [18, 13, 19, 20, 21, 6, 22, 23, 24, 25, 26, 14, 86, 87, 88] rfl (by decide +kernel)
set_option maxRecDepth 20000 in
theorem gX5_sort_X2_order : GoodIn wsX5_sort (wsV RX5 155 RX2 yX2_order wsX2_order) := goodIn_app (goodIn_r _ [15, 16, 17, 6] rfl (by decide +kernel)) ggX5_sort_X2_order
set_option maxRecDepth 20000 in
theorem ggX5_sort_X5_settle : GoodIn wsX5_sort wsX5_settle := goodIn_r _ [31, 2, 1, 32, 33, 34, 35, 36, 37, 6, 38, 8, 13, 14, 39, 40, 41, 42, 43, 44, 45, 46, 47, 48, 49, 50, 51, 52, 53, 54, 55, 10, 11, 12, 56, 57, 58, 30, 59, 60, 61, 62, 63, 64, 65, 66, 67, 68, 69, 70, 71, 72, 73, 9, 74, 75, 76, 77, 78, 79, 80, 81, 82, 83, 84, 85, 86, 87, 88, 89, 90, 91] rfl (by decide +kernel)
set_option maxRecDepth 20000 in
theorem gX5_sort_X5_settle : GoodIn wsX5_sort (wsV RX5 131 RX5 yX5_settle wsX5_settle) := goodIn_app (goodIn_r _ [27, 28, 29, 30] rfl (by decide +kernel)) ggX5_sort_X5_settle
theorem dX5_sort_0 : decode cX5_sort 0 = .ok (.aload_n 0, 1) := by decide +kernel
theorem dX5_sort_1 : decode cX5_sort 1 = .ok (.getfield 26, 3) := by decide +kernel
theorem dX5_sort_4 : decode cX5_sort 4 = .ok (.iload_n 1, 1) := by decide +kernel
theorem dX5_sort_5 : decode cX5_sort 5 = .ok (.iload_n 2, 1) := by decide +kernel
theorem dX5_sort_6 : decode cX5_sort 6 = .ok (.invokevirtual 145, 3) := by decide +kernel
theorem dX5_sort_9 : decode cX5_sort 9 = .ok (.ifCond .ne 5, 3) := by decide +kernel
theorem dX5_sort_12 : decode cX5_sort 12 = .ok (.iconst (-1), 1) := by decide +kernel
theorem dX5_sort_13 : decode cX5_sort 13 = .ok (.ireturn, 1) := by decide +kernel
theorem dX5_sort_14 : decode cX5_sort 14 = .ok (.aload_n 0, 1) := by decide +kernel
theorem dX5_sort_15 : decode cX5_sort 15 = .ok (.getfield 30, 3) := by decide +kernel
theorem dX5_sort_18 : decode cX5_sort 18 = .ok (.aload_n 0, 1) := by decide +kernel
theorem dX5_sort_19 : decode cX5_sort 19 = .ok (.getfield 26, 3) := by decide +kernel
theorem dX5_sort_22 : decode cX5_sort 22 = .ok (.invokevirtual 79, 3) := by decide +kernel
theorem dX5_sort_25 : decode cX5_sort 25 = .ok (.aload_n 0, 1) := by decide +kernel
theorem dX5_sort_26 : decode cX5_sort 26 = .ok (.getfield 30, 3) := by decide +kernel
theorem dX5_sort_29 : decode cX5_sort 29 = .ok (.iload_n 1, 1) := by decide +kernel
theorem dX5_sort_30 : decode cX5_sort 30 = .ok (.iload_n 2, 1) := by decide +kernel
theorem dX5_sort_31 : decode cX5_sort 31 = .ok (.iload_n 3, 1) := by decide +kernel
theorem dX5_sort_32 : decode cX5_sort 32 = .ok (.invokevirtual 155, 3) := by decide +kernel
theorem dX5_sort_35 : decode cX5_sort 35 = .ok (.aload_n 0, 1) := by decide +kernel
theorem dX5_sort_36 : decode cX5_sort 36 = .ok (.invokevirtual 131, 3) := by decide +kernel
theorem dX5_sort_39 : decode cX5_sort 39 = .ok (.ireturn, 1) := by decide +kernel
theorem dX5_refreshed_0 : decode cX5_refreshed 0 = .ok (.aload_n 0, 1) := by decide +kernel
theorem dX5_refreshed_1 : decode cX5_refreshed 1 = .ok (.getfield 64, 3) := by decide +kernel
theorem dX5_refreshed_4 : decode cX5_refreshed 4 = .ok (.ireturn, 1) := by decide +kernel
set_option maxRecDepth 20000 in
theorem ggX5_undo_X0_ago : GoodIn wsX5_undo wsX0_ago := goodIn_r _ [9, 10, 11, 12, 13, 14, 15, 68, 69, 70] rfl (by decide +kernel)
set_option maxRecDepth 20000 in
theorem gX5_undo_X0_ago : GoodIn wsX5_undo (wsV RX5 159 RX0 yX0_ago wsX0_ago) := goodIn_app (goodIn_r _ [5, 6, 7, 8] rfl (by decide +kernel)) ggX5_undo_X0_ago
set_option maxRecDepth 20000 in
theorem ggX5_undo_X5_pairsTouched : GoodIn wsX5_undo wsX5_pairsTouched := goodIn_r _ [20, 21, 22, 23, 19, 24, 25, 26, 27, 28, 29, 30, 31, 32, 33, 34, 35, 36, 37, 38, 39, 40, 41, 42, 43, 44, 45, 71, 72, 73, 56, 57, 58, 59, 60, 61, 62, 63, 64, 65, 66, 67] rfl (by decide +kernel)
set_option maxRecDepth 20000 in
theorem gX5_undo_X5_pairsTouched : GoodIn wsX5_undo (wsV RX5 163 RX5 yX5_pairsTouched wsX5_pairsTouched) := goodIn_app (goodIn_r _ [16, 17, 18, 19] rfl (by decide +kernel)) ggX5_undo_X5_pairsTouched
set_option maxRecDepth 20000 in
theorem ggX5_undo_X2_take : GoodIn wsX5_undo wsX2_take := goodIn_r _ [49, 44, 45, 50, 71, 72, 73] rfl (by decide +kernel)
set_option maxRecDepth 20000 in
theorem gX5_undo_X2_take : GoodIn wsX5_undo (wsV RX5 79 RX2 yX2_take wsX2_take) := goodIn_app (goodIn_r _ [46, 47, 48, 42] rfl (by decide +kernel)) ggX5_undo_X2_take
set_option maxRecDepth 20000 in
theorem ggX5_undo_X0_dropLatest : GoodIn wsX5_undo wsX0_dropLatest := goodIn_r _ [54, 11, 55, 12, 13, 14, 15, 68, 69, 70] rfl (by decide +kernel)
set_option maxRecDepth 20000 in
theorem gX5_undo_X0_dropLatest : GoodIn wsX5_undo (wsV RX5 167 RX0 yX0_dropLatest wsX0_dropLatest) := goodIn_app (goodIn_r _ [51, 52, 53, 8] rfl (by decide +kernel)) ggX5_undo_X0_dropLatest
theorem dX5_undo_0 : decode cX5_undo 0 = .ok (.aload_n 0, 1) := by decide +kernel
theorem dX5_undo_1 : decode cX5_undo 1 = .ok (.getfield 36, 3) := by decide +kernel
theorem dX5_undo_4 : decode cX5_undo 4 = .ok (.getfield 86, 3) := by decide +kernel
theorem dX5_undo_7 : decode cX5_undo 7 = .ok (.ifCond .ne 5, 3) := by decide +kernel
theorem dX5_undo_10 : decode cX5_undo 10 = .ok (.iconst (-1), 1) := by decide +kernel
theorem dX5_undo_11 : decode cX5_undo 11 = .ok (.ireturn, 1) := by decide +kernel
theorem dX5_undo_12 : decode cX5_undo 12 = .ok (.aload_n 0, 1) := by decide +kernel
theorem dX5_undo_13 : decode cX5_undo 13 = .ok (.getfield 36, 3) := by decide +kernel
theorem dX5_undo_16 : decode cX5_undo 16 = .ok (.iconst 1, 1) := by decide +kernel
theorem dX5_undo_17 : decode cX5_undo 17 = .ok (.invokevirtual 159, 3) := by decide +kernel
theorem dX5_undo_20 : decode cX5_undo 20 = .ok (.astore_n 1, 1) := by decide +kernel
theorem dX5_undo_21 : decode cX5_undo 21 = .ok (.aload_n 0, 1) := by decide +kernel
theorem dX5_undo_22 : decode cX5_undo 22 = .ok (.aload_n 0, 1) := by decide +kernel
theorem dX5_undo_23 : decode cX5_undo 23 = .ok (.aload_n 0, 1) := by decide +kernel
theorem dX5_undo_24 : decode cX5_undo 24 = .ok (.getfield 26, 3) := by decide +kernel
theorem dX5_undo_27 : decode cX5_undo 27 = .ok (.aload_n 1, 1) := by decide +kernel
theorem dX5_undo_28 : decode cX5_undo 28 = .ok (.invokevirtual 163, 3) := by decide +kernel
theorem dX5_undo_31 : decode cX5_undo 31 = .ok (.putfield 64, 3) := by decide +kernel
theorem dX5_undo_34 : decode cX5_undo 34 = .ok (.aload_n 0, 1) := by decide +kernel
theorem dX5_undo_35 : decode cX5_undo 35 = .ok (.getfield 26, 3) := by decide +kernel
theorem dX5_undo_38 : decode cX5_undo 38 = .ok (.aload_n 1, 1) := by decide +kernel
theorem dX5_undo_39 : decode cX5_undo 39 = .ok (.invokevirtual 79, 3) := by decide +kernel
theorem dX5_undo_42 : decode cX5_undo 42 = .ok (.aload_n 0, 1) := by decide +kernel
theorem dX5_undo_43 : decode cX5_undo 43 = .ok (.getfield 36, 3) := by decide +kernel
theorem dX5_undo_46 : decode cX5_undo 46 = .ok (.invokevirtual 167, 3) := by decide +kernel
theorem dX5_undo_49 : decode cX5_undo 49 = .ok (.aload_n 0, 1) := by decide +kernel
theorem dX5_undo_50 : decode cX5_undo 50 = .ok (.getfield 36, 3) := by decide +kernel
theorem dX5_undo_53 : decode cX5_undo 53 = .ok (.getfield 86, 3) := by decide +kernel
theorem dX5_undo_56 : decode cX5_undo 56 = .ok (.ireturn, 1) := by decide +kernel
set_option maxRecDepth 20000 in
theorem ggX5_was_X0_ago : GoodIn wsX5_was wsX0_ago := goodIn_r _ [9, 10, 11, 12, 13, 14, 15, 34, 35, 36] rfl (by decide +kernel)
set_option maxRecDepth 20000 in
theorem gX5_was_X0_ago : GoodIn wsX5_was (wsV RX5 159 RX0 yX0_ago wsX0_ago) := goodIn_app (goodIn_r _ [5, 6, 7, 8] rfl (by decide +kernel)) ggX5_was_X0_ago
set_option maxRecDepth 20000 in
theorem ggX5_was_X2_has : GoodIn wsX5_was wsX2_has := goodIn_r _ [20, 21, 37, 38, 39] rfl (by decide +kernel)
set_option maxRecDepth 20000 in
theorem gX5_was_X2_has : GoodIn wsX5_was (wsV RX5 95 RX2 yX2_has wsX2_has) := goodIn_app (goodIn_r _ [16, 17, 18, 19] rfl (by decide +kernel)) ggX5_was_X2_has
theorem dX5_was_0 : decode cX5_was 0 = .ok (.iload_n 1, 1) := by decide +kernel
theorem dX5_was_1 : decode cX5_was 1 = .ok (.ifCond .lt 18, 3) := by decide +kernel
theorem dX5_was_4 : decode cX5_was 4 = .ok (.iload_n 1, 1) := by decide +kernel
theorem dX5_was_5 : decode cX5_was 5 = .ok (.aload_n 0, 1) := by decide +kernel
theorem dX5_was_6 : decode cX5_was 6 = .ok (.getfield 36, 3) := by decide +kernel
theorem dX5_was_9 : decode cX5_was 9 = .ok (.getfield 86, 3) := by decide +kernel
theorem dX5_was_12 : decode cX5_was 12 = .ok (.if_icmp .gt 7, 3) := by decide +kernel
theorem dX5_was_15 : decode cX5_was 15 = .ok (.iload_n 2, 1) := by decide +kernel
theorem dX5_was_16 : decode cX5_was 16 = .ok (.ifCond .ge 5, 3) := by decide +kernel
theorem dX5_was_19 : decode cX5_was 19 = .ok (.iconst (-1), 1) := by decide +kernel
theorem dX5_was_20 : decode cX5_was 20 = .ok (.ireturn, 1) := by decide +kernel
theorem dX5_was_21 : decode cX5_was 21 = .ok (.iload_n 1, 1) := by decide +kernel
theorem dX5_was_22 : decode cX5_was 22 = .ok (.ifCond .ne 10, 3) := by decide +kernel
theorem dX5_was_25 : decode cX5_was 25 = .ok (.aload_n 0, 1) := by decide +kernel
theorem dX5_was_26 : decode cX5_was 26 = .ok (.getfield 26, 3) := by decide +kernel
theorem dX5_was_29 : decode cX5_was 29 = .ok (.goto 11, 3) := by decide +kernel
theorem dX5_was_32 : decode cX5_was 32 = .ok (.aload_n 0, 1) := by decide +kernel
theorem dX5_was_33 : decode cX5_was 33 = .ok (.getfield 36, 3) := by decide +kernel
theorem dX5_was_36 : decode cX5_was 36 = .ok (.iload_n 1, 1) := by decide +kernel
theorem dX5_was_37 : decode cX5_was 37 = .ok (.invokevirtual 159, 3) := by decide +kernel
theorem dX5_was_40 : decode cX5_was 40 = .ok (.astore_n 3, 1) := by decide +kernel
theorem dX5_was_41 : decode cX5_was 41 = .ok (.aload_n 3, 1) := by decide +kernel
theorem dX5_was_42 : decode cX5_was 42 = .ok (.iload_n 2, 1) := by decide +kernel
theorem dX5_was_43 : decode cX5_was 43 = .ok (.invokevirtual 95, 3) := by decide +kernel
theorem dX5_was_46 : decode cX5_was 46 = .ok (.ifCond .eq 12, 3) := by decide +kernel
theorem dX5_was_49 : decode cX5_was 49 = .ok (.aload_n 3, 1) := by decide +kernel
theorem dX5_was_50 : decode cX5_was 50 = .ok (.getfield 106, 3) := by decide +kernel
theorem dX5_was_53 : decode cX5_was 53 = .ok (.iload_n 2, 1) := by decide +kernel
theorem dX5_was_54 : decode cX5_was 54 = .ok (.iaload, 1) := by decide +kernel
theorem dX5_was_55 : decode cX5_was 55 = .ok (.goto 5, 3) := by decide +kernel
theorem dX5_was_58 : decode cX5_was 58 = .ok (.bipush (-2), 2) := by decide +kernel
theorem dX5_was_60 : decode cX5_was 60 = .ok (.ireturn, 1) := by decide +kernel
set_option maxRecDepth 20000 in
theorem ggX5_since_X2_has : GoodIn wsX5_since wsX2_has := goodIn_r _ [9, 10, 37, 38, 39] rfl (by decide +kernel)
set_option maxRecDepth 20000 in
theorem gX5_since_X2_has : GoodIn wsX5_since (wsV RX5 95 RX2 yX2_has wsX2_has) := goodIn_app (goodIn_r _ [5, 6, 7, 8] rfl (by decide +kernel)) ggX5_since_X2_has
set_option maxRecDepth 20000 in
theorem ggX5_since_X0_ago : GoodIn wsX5_since wsX0_ago := goodIn_r _ [15, 16, 17, 18, 19, 20, 21, 34, 35, 36] rfl (by decide +kernel)
set_option maxRecDepth 20000 in
theorem gX5_since_X0_ago : GoodIn wsX5_since (wsV RX5 159 RX0 yX0_ago wsX0_ago) := goodIn_app (goodIn_r _ [11, 12, 13, 14] rfl (by decide +kernel)) ggX5_since_X0_ago
theorem dX5_since_0 : decode cX5_since 0 = .ok (.aload_n 0, 1) := by decide +kernel
theorem dX5_since_1 : decode cX5_since 1 = .ok (.getfield 26, 3) := by decide +kernel
theorem dX5_since_4 : decode cX5_since 4 = .ok (.iload_n 1, 1) := by decide +kernel
theorem dX5_since_5 : decode cX5_since 5 = .ok (.invokevirtual 95, 3) := by decide +kernel
theorem dX5_since_8 : decode cX5_since 8 = .ok (.ifCond .ne 5, 3) := by decide +kernel
theorem dX5_since_11 : decode cX5_since 11 = .ok (.iconst (-1), 1) := by decide +kernel
theorem dX5_since_12 : decode cX5_since 12 = .ok (.ireturn, 1) := by decide +kernel
theorem dX5_since_13 : decode cX5_since 13 = .ok (.iconst 0, 1) := by decide +kernel
theorem dX5_since_14 : decode cX5_since 14 = .ok (.istore_n 2, 1) := by decide +kernel
theorem dX5_since_15 : decode cX5_since 15 = .ok (.iload_n 2, 1) := by decide +kernel
theorem dX5_since_16 : decode cX5_since 16 = .ok (.aload_n 0, 1) := by decide +kernel
theorem dX5_since_17 : decode cX5_since 17 = .ok (.getfield 36, 3) := by decide +kernel
theorem dX5_since_20 : decode cX5_since 20 = .ok (.getfield 86, 3) := by decide +kernel
theorem dX5_since_23 : decode cX5_since 23 = .ok (.if_icmp .ge 48, 3) := by decide +kernel
theorem dX5_since_26 : decode cX5_since 26 = .ok (.aload_n 0, 1) := by decide +kernel
theorem dX5_since_27 : decode cX5_since 27 = .ok (.getfield 36, 3) := by decide +kernel
theorem dX5_since_30 : decode cX5_since 30 = .ok (.iload_n 2, 1) := by decide +kernel
theorem dX5_since_31 : decode cX5_since 31 = .ok (.iconst 1, 1) := by decide +kernel
theorem dX5_since_32 : decode cX5_since 32 = .ok (.iadd, 1) := by decide +kernel
theorem dX5_since_33 : decode cX5_since 33 = .ok (.invokevirtual 159, 3) := by decide +kernel
theorem dX5_since_36 : decode cX5_since 36 = .ok (.astore_n 3, 1) := by decide +kernel
theorem dX5_since_37 : decode cX5_since 37 = .ok (.aload_n 3, 1) := by decide +kernel
theorem dX5_since_38 : decode cX5_since 38 = .ok (.iload_n 1, 1) := by decide +kernel
theorem dX5_since_39 : decode cX5_since 39 = .ok (.invokevirtual 95, 3) := by decide +kernel
theorem dX5_since_42 : decode cX5_since 42 = .ok (.ifCond .eq 21, 3) := by decide +kernel
theorem dX5_since_45 : decode cX5_since 45 = .ok (.aload_n 3, 1) := by decide +kernel
theorem dX5_since_46 : decode cX5_since 46 = .ok (.getfield 106, 3) := by decide +kernel
theorem dX5_since_49 : decode cX5_since 49 = .ok (.iload_n 1, 1) := by decide +kernel
theorem dX5_since_50 : decode cX5_since 50 = .ok (.iaload, 1) := by decide +kernel
theorem dX5_since_51 : decode cX5_since 51 = .ok (.aload_n 0, 1) := by decide +kernel
theorem dX5_since_52 : decode cX5_since 52 = .ok (.getfield 26, 3) := by decide +kernel
theorem dX5_since_55 : decode cX5_since 55 = .ok (.getfield 106, 3) := by decide +kernel
theorem dX5_since_58 : decode cX5_since 58 = .ok (.iload_n 1, 1) := by decide +kernel
theorem dX5_since_59 : decode cX5_since 59 = .ok (.iaload, 1) := by decide +kernel
theorem dX5_since_60 : decode cX5_since 60 = .ok (.if_icmp .eq 5, 3) := by decide +kernel
theorem dX5_since_63 : decode cX5_since 63 = .ok (.iload_n 2, 1) := by decide +kernel
theorem dX5_since_64 : decode cX5_since 64 = .ok (.ireturn, 1) := by decide +kernel
theorem dX5_since_65 : decode cX5_since 65 = .ok (.iinc 2 1, 3) := by decide +kernel
theorem dX5_since_68 : decode cX5_since 68 = .ok (.goto (-53), 3) := by decide +kernel
theorem dX5_since_71 : decode cX5_since 71 = .ok (.bipush (-2), 2) := by decide +kernel
theorem dX5_since_73 : decode cX5_since 73 = .ok (.ireturn, 1) := by decide +kernel
set_option maxRecDepth 20000 in
theorem ggX5_mode_X2_hasSpan : GoodIn wsX5_mode wsX2_hasSpan := goodIn_r _ [8, 9, 65, 66, 67] rfl (by decide +kernel)
set_option maxRecDepth 20000 in
theorem gX5_mode_X2_hasSpan : GoodIn wsX5_mode (wsV RX5 145 RX2 yX2_hasSpan wsX2_hasSpan) := goodIn_app (goodIn_r _ [4, 5, 6, 7] rfl (by decide +kernel)) ggX5_mode_X2_hasSpan
set_option maxRecDepth 20000 in
theorem ggX5_mode_X5_isBelow : GoodIn wsX5_mode wsX5_isBelow := goodIn_r _ [13] rfl (by decide +kernel)
set_option maxRecDepth 20000 in
theorem gX5_mode_X5_isBelow : GoodIn wsX5_mode (va_wsS RX5 170 yX5_isBelow wsX5_isBelow) := goodIn_app (goodIn_r _ [10, 11, 12] rfl (by decide +kernel)) ggX5_mode_X5_isBelow
set_option maxRecDepth 20000 in
theorem ggX5_mode_X5_tallySpan : GoodIn wsX5_mode wsX5_tallySpan := goodIn_r _ [17, 2, 18, 1, 19, 20, 21, 22, 23, 24, 25, 26, 27, 28, 29, 30, 31, 32, 33, 34, 35, 36, 37, 38, 39, 40, 45, 46, 47, 48, 49, 50, 51, 52, 53, 54, 55, 56, 65, 66, 67, 57, 58, 59, 60, 61, 62, 63, 64] rfl (by decide +kernel)
set_option maxRecDepth 20000 in
theorem gX5_mode_X5_tallySpan : GoodIn wsX5_mode (wsV RX5 173 RX5 yX5_tallySpan wsX5_tallySpan) := goodIn_app (goodIn_r _ [14, 15, 16, 12] rfl (by decide +kernel)) ggX5_mode_X5_tallySpan
set_option maxRecDepth 20000 in
theorem ggX5_mode_X3_told : GoodIn wsX5_mode wsX3_told := goodIn_r _ [44, 26, 35, 36, 57, 58, 59, 60, 61, 62, 63, 64] rfl (by decide +kernel)
set_option maxRecDepth 20000 in
theorem gX5_mode_X3_told : GoodIn wsX5_mode (wsV RX5 179 RX3 yX3_told wsX3_told) := goodIn_app (goodIn_r _ [41, 42, 43, 23] rfl (by decide +kernel)) ggX5_mode_X3_told
theorem dX5_mode_0 : decode cX5_mode 0 = .ok (.aload_n 0, 1) := by decide +kernel
theorem dX5_mode_1 : decode cX5_mode 1 = .ok (.getfield 26, 3) := by decide +kernel
theorem dX5_mode_4 : decode cX5_mode 4 = .ok (.iload_n 1, 1) := by decide +kernel
theorem dX5_mode_5 : decode cX5_mode 5 = .ok (.iload_n 2, 1) := by decide +kernel
theorem dX5_mode_6 : decode cX5_mode 6 = .ok (.invokevirtual 145, 3) := by decide +kernel
theorem dX5_mode_9 : decode cX5_mode 9 = .ok (.ifCond .eq 11, 3) := by decide +kernel
theorem dX5_mode_12 : decode cX5_mode 12 = .ok (.iload_n 3, 1) := by decide +kernel
theorem dX5_mode_13 : decode cX5_mode 13 = .ok (.iconst 4, 1) := by decide +kernel
theorem dX5_mode_14 : decode cX5_mode 14 = .ok (.invokestatic 170, 3) := by decide +kernel
theorem dX5_mode_17 : decode cX5_mode 17 = .ok (.ifCond .ne 5, 3) := by decide +kernel
theorem dX5_mode_20 : decode cX5_mode 20 = .ok (.iconst (-1), 1) := by decide +kernel
theorem dX5_mode_21 : decode cX5_mode 21 = .ok (.ireturn, 1) := by decide +kernel
theorem dX5_mode_22 : decode cX5_mode 22 = .ok (.aload_n 0, 1) := by decide +kernel
theorem dX5_mode_23 : decode cX5_mode 23 = .ok (.iload_n 1, 1) := by decide +kernel
theorem dX5_mode_24 : decode cX5_mode 24 = .ok (.iload_n 2, 1) := by decide +kernel
theorem dX5_mode_25 : decode cX5_mode 25 = .ok (.invokevirtual 173, 3) := by decide +kernel
theorem dX5_mode_28 : decode cX5_mode 28 = .ok (.aload_n 0, 1) := by decide +kernel
theorem dX5_mode_29 : decode cX5_mode 29 = .ok (.getfield 43, 3) := by decide +kernel
theorem dX5_mode_32 : decode cX5_mode 32 = .ok (.aload_n 0, 1) := by decide +kernel
theorem dX5_mode_33 : decode cX5_mode 33 = .ok (.getfield 43, 3) := by decide +kernel
theorem dX5_mode_36 : decode cX5_mode 36 = .ok (.getfield 176, 3) := by decide +kernel
theorem dX5_mode_39 : decode cX5_mode 39 = .ok (.iload_n 3, 1) := by decide +kernel
theorem dX5_mode_40 : decode cX5_mode 40 = .ok (.iload_n 1, 1) := by decide +kernel
theorem dX5_mode_41 : decode cX5_mode 41 = .ok (.invokevirtual 179, 3) := by decide +kernel
theorem dX5_mode_44 : decode cX5_mode 44 = .ok (.ireturn, 1) := by decide +kernel
set_option maxRecDepth 20000 in
theorem ggX5_ranked_X2_hasSpan : GoodIn wsX5_ranked wsX2_hasSpan := goodIn_r _ [9, 10, 70, 71, 72] rfl (by decide +kernel)
set_option maxRecDepth 20000 in
theorem gX5_ranked_X2_hasSpan : GoodIn wsX5_ranked (wsV RX5 145 RX2 yX2_hasSpan wsX2_hasSpan) := goodIn_app (goodIn_r _ [5, 6, 7, 8] rfl (by decide +kernel)) ggX5_ranked_X2_hasSpan
set_option maxRecDepth 20000 in
theorem ggX5_ranked_X5_isBelow : GoodIn wsX5_ranked wsX5_isBelow := goodIn_r _ [14] rfl (by decide +kernel)
set_option maxRecDepth 20000 in
theorem gX5_ranked_X5_isBelow : GoodIn wsX5_ranked (va_wsS RX5 170 yX5_isBelow wsX5_isBelow) := goodIn_app (goodIn_r _ [11, 12, 13] rfl (by decide +kernel)) ggX5_ranked_X5_isBelow
set_option maxRecDepth 20000 in
theorem ggX5_ranked_X5_tallySpan : GoodIn wsX5_ranked wsX5_tallySpan := goodIn_r _ [18, 2, 19, 1, 20, 21, 22, 23, 24, 25, 26, 27, 28, 29, 30, 31, 32, 33, 34, 35, 36, 37, 38, 39, 40, 41, 50, 51, 52, 53, 54, 55, 56, 57, 58, 59, 60, 61, 70, 71, 72, 62, 63, 64, 65, 66, 67, 68, 69] rfl (by decide +kernel)
set_option maxRecDepth 20000 in
theorem gX5_ranked_X5_tallySpan : GoodIn wsX5_ranked (wsV RX5 173 RX5 yX5_tallySpan wsX5_tallySpan) := goodIn_app (goodIn_r _ [15, 16, 17, 13] rfl (by decide +kernel)) ggX5_ranked_X5_tallySpan
set_option maxRecDepth 20000 in
theorem ggX5_ranked_X3_order : GoodIn wsX5_ranked wsX3_order := goodIn_r _ [45, 26, 28, 38, 39, 40, 24, 41, 27, 31, 36, 37, 62, 63, 64, 65, 66, 67, 68, 69] rfl (by decide +kernel)
set_option maxRecDepth 20000 in
theorem gX5_ranked_X3_order : GoodIn wsX5_ranked (wsV RX5 185 RX3 yX3_order wsX3_order) := goodIn_app (goodIn_r _ [42, 43, 44, 24] rfl (by decide +kernel)) ggX5_ranked_X3_order
set_option maxRecDepth 20000 in
theorem ggX5_ranked_X3_told : GoodIn wsX5_ranked wsX3_told := goodIn_r _ [49, 27, 36, 37, 62, 63, 64, 65, 66, 67, 68, 69] rfl (by decide +kernel)
set_option maxRecDepth 20000 in
theorem gX5_ranked_X3_told : GoodIn wsX5_ranked (wsV RX5 179 RX3 yX3_told wsX3_told) := goodIn_app (goodIn_r _ [46, 47, 48, 24] rfl (by decide +kernel)) ggX5_ranked_X3_told
theorem dX5_ranked_0 : decode cX5_ranked 0 = .ok (.aload_n 0, 1) := by decide +kernel
theorem dX5_ranked_1 : decode cX5_ranked 1 = .ok (.getfield 26, 3) := by decide +kernel
theorem dX5_ranked_4 : decode cX5_ranked 4 = .ok (.iload_n 1, 1) := by decide +kernel
theorem dX5_ranked_5 : decode cX5_ranked 5 = .ok (.iload_n 2, 1) := by decide +kernel
theorem dX5_ranked_6 : decode cX5_ranked 6 = .ok (.invokevirtual 145, 3) := by decide +kernel
theorem dX5_ranked_9 : decode cX5_ranked 9 = .ok (.ifCond .eq 16, 3) := by decide +kernel
theorem dX5_ranked_12 : decode cX5_ranked 12 = .ok (.iload_n 3, 1) := by decide +kernel
theorem dX5_ranked_13 : decode cX5_ranked 13 = .ok (.ifCond .lt 12, 3) := by decide +kernel
theorem dX5_ranked_16 : decode cX5_ranked 16 = .ok (.iload 4, 2) := by decide +kernel
theorem dX5_ranked_18 : decode cX5_ranked 18 = .ok (.iconst 4, 1) := by decide +kernel
theorem dX5_ranked_19 : decode cX5_ranked 19 = .ok (.invokestatic 170, 3) := by decide +kernel
theorem dX5_ranked_22 : decode cX5_ranked 22 = .ok (.ifCond .ne 5, 3) := by decide +kernel
theorem dX5_ranked_25 : decode cX5_ranked 25 = .ok (.iconst (-1), 1) := by decide +kernel
theorem dX5_ranked_26 : decode cX5_ranked 26 = .ok (.ireturn, 1) := by decide +kernel
theorem dX5_ranked_27 : decode cX5_ranked 27 = .ok (.aload_n 0, 1) := by decide +kernel
theorem dX5_ranked_28 : decode cX5_ranked 28 = .ok (.iload_n 1, 1) := by decide +kernel
theorem dX5_ranked_29 : decode cX5_ranked 29 = .ok (.iload_n 2, 1) := by decide +kernel
theorem dX5_ranked_30 : decode cX5_ranked 30 = .ok (.invokevirtual 173, 3) := by decide +kernel
theorem dX5_ranked_33 : decode cX5_ranked 33 = .ok (.iload_n 3, 1) := by decide +kernel
theorem dX5_ranked_34 : decode cX5_ranked 34 = .ok (.aload_n 0, 1) := by decide +kernel
theorem dX5_ranked_35 : decode cX5_ranked 35 = .ok (.getfield 43, 3) := by decide +kernel
theorem dX5_ranked_38 : decode cX5_ranked 38 = .ok (.getfield 182, 3) := by decide +kernel
theorem dX5_ranked_41 : decode cX5_ranked 41 = .ok (.if_icmp .lt 6, 3) := by decide +kernel
theorem dX5_ranked_44 : decode cX5_ranked 44 = .ok (.bipush (-2), 2) := by decide +kernel
theorem dX5_ranked_46 : decode cX5_ranked 46 = .ok (.ireturn, 1) := by decide +kernel
theorem dX5_ranked_47 : decode cX5_ranked 47 = .ok (.aload_n 0, 1) := by decide +kernel
theorem dX5_ranked_48 : decode cX5_ranked 48 = .ok (.getfield 43, 3) := by decide +kernel
theorem dX5_ranked_51 : decode cX5_ranked 51 = .ok (.invokevirtual 185, 3) := by decide +kernel
theorem dX5_ranked_54 : decode cX5_ranked 54 = .ok (.aload_n 0, 1) := by decide +kernel
theorem dX5_ranked_55 : decode cX5_ranked 55 = .ok (.getfield 43, 3) := by decide +kernel
theorem dX5_ranked_58 : decode cX5_ranked 58 = .ok (.aload_n 0, 1) := by decide +kernel
theorem dX5_ranked_59 : decode cX5_ranked 59 = .ok (.getfield 43, 3) := by decide +kernel
theorem dX5_ranked_62 : decode cX5_ranked 62 = .ok (.getfield 187, 3) := by decide +kernel
theorem dX5_ranked_65 : decode cX5_ranked 65 = .ok (.iload_n 3, 1) := by decide +kernel
theorem dX5_ranked_66 : decode cX5_ranked 66 = .ok (.iaload, 1) := by decide +kernel
theorem dX5_ranked_67 : decode cX5_ranked 67 = .ok (.iload 4, 2) := by decide +kernel
theorem dX5_ranked_69 : decode cX5_ranked 69 = .ok (.iload_n 1, 1) := by decide +kernel
theorem dX5_ranked_70 : decode cX5_ranked 70 = .ok (.invokevirtual 179, 3) := by decide +kernel
theorem dX5_ranked_73 : decode cX5_ranked 73 = .ok (.ireturn, 1) := by decide +kernel
set_option maxRecDepth 20000 in
theorem ggX5_rank_X2_hasSpan : GoodIn wsX5_rank wsX2_hasSpan := goodIn_r _ [10, 11, 64, 65, 66] rfl (by decide +kernel)
set_option maxRecDepth 20000 in
theorem gX5_rank_X2_hasSpan : GoodIn wsX5_rank (wsV RX5 145 RX2 yX2_hasSpan wsX2_hasSpan) := goodIn_app (goodIn_r _ [6, 7, 8, 9] rfl (by decide +kernel)) ggX5_rank_X2_hasSpan
set_option maxRecDepth 20000 in
theorem ggX5_rank_X5_isValue : GoodIn wsX5_rank wsX5_isValue := goodIn_r _ [15] rfl (by decide +kernel)
set_option maxRecDepth 20000 in
theorem gX5_rank_X5_isValue : GoodIn wsX5_rank (va_wsS RX5 128 yX5_isValue wsX5_isValue) := goodIn_app (goodIn_r _ [12, 13, 14] rfl (by decide +kernel)) ggX5_rank_X5_isValue
set_option maxRecDepth 20000 in
theorem ggX5_rank_X5_tallySpan : GoodIn wsX5_rank wsX5_tallySpan := goodIn_r _ [19, 2, 20, 1, 21, 22, 23, 24, 25, 26, 27, 28, 29, 30, 31, 32, 33, 34, 35, 36, 37, 38, 39, 40, 41, 42, 44, 45, 46, 47, 48, 49, 50, 51, 52, 53, 54, 55, 64, 65, 66, 56, 57, 58, 59, 60, 61, 62, 63] rfl (by decide +kernel)
set_option maxRecDepth 20000 in
theorem gX5_rank_X5_tallySpan : GoodIn wsX5_rank (wsV RX5 173 RX5 yX5_tallySpan wsX5_tallySpan) := goodIn_app (goodIn_r _ [16, 17, 18, 14] rfl (by decide +kernel)) ggX5_rank_X5_tallySpan
set_option maxRecDepth 20000 in
theorem ggX5_rank_X3_isAhead : GoodIn wsX5_rank wsX3_isAhead := goodIn_r _ [42, 28, 32, 37, 38, 56, 57, 58, 59, 60, 61, 62, 63] rfl (by decide +kernel)
set_option maxRecDepth 20000 in
theorem gX5_rank_X3_isAhead : GoodIn wsX5_rank (wsV RX5 193 RX3 yX3_isAhead wsX3_isAhead) := goodIn_app (goodIn_r _ [43, 40, 41, 25] rfl (by decide +kernel)) ggX5_rank_X3_isAhead
theorem dX5_rank_0 : decode cX5_rank 0 = .ok (.aload_n 0, 1) := by decide +kernel
theorem dX5_rank_1 : decode cX5_rank 1 = .ok (.getfield 26, 3) := by decide +kernel
theorem dX5_rank_4 : decode cX5_rank 4 = .ok (.iload_n 1, 1) := by decide +kernel
theorem dX5_rank_5 : decode cX5_rank 5 = .ok (.iload_n 2, 1) := by decide +kernel
theorem dX5_rank_6 : decode cX5_rank 6 = .ok (.invokevirtual 145, 3) := by decide +kernel
theorem dX5_rank_9 : decode cX5_rank 9 = .ok (.ifCond .eq 10, 3) := by decide +kernel
theorem dX5_rank_12 : decode cX5_rank 12 = .ok (.iload_n 3, 1) := by decide +kernel
theorem dX5_rank_13 : decode cX5_rank 13 = .ok (.invokestatic 128, 3) := by decide +kernel
theorem dX5_rank_16 : decode cX5_rank 16 = .ok (.ifCond .ne 5, 3) := by decide +kernel
theorem dX5_rank_19 : decode cX5_rank 19 = .ok (.iconst (-1), 1) := by decide +kernel
theorem dX5_rank_20 : decode cX5_rank 20 = .ok (.ireturn, 1) := by decide +kernel
theorem dX5_rank_21 : decode cX5_rank 21 = .ok (.aload_n 0, 1) := by decide +kernel
theorem dX5_rank_22 : decode cX5_rank 22 = .ok (.iload_n 1, 1) := by decide +kernel
theorem dX5_rank_23 : decode cX5_rank 23 = .ok (.iload_n 2, 1) := by decide +kernel
theorem dX5_rank_24 : decode cX5_rank 24 = .ok (.invokevirtual 173, 3) := by decide +kernel
theorem dX5_rank_27 : decode cX5_rank 27 = .ok (.aload_n 0, 1) := by decide +kernel
theorem dX5_rank_28 : decode cX5_rank 28 = .ok (.getfield 43, 3) := by decide +kernel
theorem dX5_rank_31 : decode cX5_rank 31 = .ok (.getfield 190, 3) := by decide +kernel
theorem dX5_rank_34 : decode cX5_rank 34 = .ok (.iload_n 3, 1) := by decide +kernel
theorem dX5_rank_35 : decode cX5_rank 35 = .ok (.iaload, 1) := by decide +kernel
theorem dX5_rank_36 : decode cX5_rank 36 = .ok (.ifCond .ne 6, 3) := by decide +kernel
theorem dX5_rank_39 : decode cX5_rank 39 = .ok (.bipush (-2), 2) := by decide +kernel
theorem dX5_rank_41 : decode cX5_rank 41 = .ok (.ireturn, 1) := by decide +kernel
theorem dX5_rank_42 : decode cX5_rank 42 = .ok (.iconst 0, 1) := by decide +kernel
theorem dX5_rank_43 : decode cX5_rank 43 = .ok (.istore 4, 2) := by decide +kernel
theorem dX5_rank_45 : decode cX5_rank 45 = .ok (.iconst 0, 1) := by decide +kernel
theorem dX5_rank_46 : decode cX5_rank 46 = .ok (.istore 5, 2) := by decide +kernel
theorem dX5_rank_48 : decode cX5_rank 48 = .ok (.iload 5, 2) := by decide +kernel
theorem dX5_rank_50 : decode cX5_rank 50 = .ok (.aload_n 0, 1) := by decide +kernel
theorem dX5_rank_51 : decode cX5_rank 51 = .ok (.getfield 43, 3) := by decide +kernel
theorem dX5_rank_54 : decode cX5_rank 54 = .ok (.getfield 182, 3) := by decide +kernel
theorem dX5_rank_57 : decode cX5_rank 57 = .ok (.if_icmp .ge 33, 3) := by decide +kernel
theorem dX5_rank_60 : decode cX5_rank 60 = .ok (.aload_n 0, 1) := by decide +kernel
theorem dX5_rank_61 : decode cX5_rank 61 = .ok (.getfield 43, 3) := by decide +kernel
theorem dX5_rank_64 : decode cX5_rank 64 = .ok (.aload_n 0, 1) := by decide +kernel
theorem dX5_rank_65 : decode cX5_rank 65 = .ok (.getfield 43, 3) := by decide +kernel
theorem dX5_rank_68 : decode cX5_rank 68 = .ok (.getfield 187, 3) := by decide +kernel
theorem dX5_rank_71 : decode cX5_rank 71 = .ok (.iload 5, 2) := by decide +kernel
theorem dX5_rank_73 : decode cX5_rank 73 = .ok (.iaload, 1) := by decide +kernel
theorem dX5_rank_74 : decode cX5_rank 74 = .ok (.iload_n 3, 1) := by decide +kernel
theorem dX5_rank_75 : decode cX5_rank 75 = .ok (.invokevirtual 193, 3) := by decide +kernel
theorem dX5_rank_78 : decode cX5_rank 78 = .ok (.ifCond .eq 6, 3) := by decide +kernel
theorem dX5_rank_81 : decode cX5_rank 81 = .ok (.iinc 4 1, 3) := by decide +kernel
theorem dX5_rank_84 : decode cX5_rank 84 = .ok (.iinc 5 1, 3) := by decide +kernel
theorem dX5_rank_87 : decode cX5_rank 87 = .ok (.goto (-39), 3) := by decide +kernel
theorem dX5_rank_90 : decode cX5_rank 90 = .ok (.iload 4, 2) := by decide +kernel
theorem dX5_rank_92 : decode cX5_rank 92 = .ok (.ireturn, 1) := by decide +kernel
set_option maxRecDepth 20000 in
theorem ggX5_often_X2_hasSpan : GoodIn wsX5_often wsX2_hasSpan := goodIn_r _ [6, 7, 29, 30, 31] rfl (by decide +kernel)
set_option maxRecDepth 20000 in
theorem gX5_often_X2_hasSpan : GoodIn wsX5_often (wsV RX5 145 RX2 yX2_hasSpan wsX2_hasSpan) := goodIn_app (goodIn_r _ [2, 3, 4, 5] rfl (by decide +kernel)) ggX5_often_X2_hasSpan
set_option maxRecDepth 20000 in
theorem ggX5_often_X5_isValue : GoodIn wsX5_often wsX5_isValue := goodIn_r _ [11] rfl (by decide +kernel)
set_option maxRecDepth 20000 in
theorem gX5_often_X5_isValue : GoodIn wsX5_often (va_wsS RX5 128 yX5_isValue wsX5_isValue) := goodIn_app (goodIn_r _ [8, 9, 10] rfl (by decide +kernel)) ggX5_often_X5_isValue
set_option maxRecDepth 20000 in
theorem ggX5_often_X2_howOften : GoodIn wsX5_often wsX2_howOften := goodIn_r _ [15, 16, 29, 30, 31] rfl (by decide +kernel)
set_option maxRecDepth 20000 in
theorem gX5_often_X2_howOften : GoodIn wsX5_often (wsV RX5 112 RX2 yX2_howOften wsX2_howOften) := goodIn_app (goodIn_r _ [12, 13, 14, 5] rfl (by decide +kernel)) ggX5_often_X2_howOften
theorem dX5_often_0 : decode cX5_often 0 = .ok (.aload_n 0, 1) := by decide +kernel
theorem dX5_often_1 : decode cX5_often 1 = .ok (.getfield 26, 3) := by decide +kernel
theorem dX5_often_4 : decode cX5_often 4 = .ok (.iload_n 1, 1) := by decide +kernel
theorem dX5_often_5 : decode cX5_often 5 = .ok (.iload_n 2, 1) := by decide +kernel
theorem dX5_often_6 : decode cX5_often 6 = .ok (.invokevirtual 145, 3) := by decide +kernel
theorem dX5_often_9 : decode cX5_often 9 = .ok (.ifCond .eq 10, 3) := by decide +kernel
theorem dX5_often_12 : decode cX5_often 12 = .ok (.iload_n 3, 1) := by decide +kernel
theorem dX5_often_13 : decode cX5_often 13 = .ok (.invokestatic 128, 3) := by decide +kernel
theorem dX5_often_16 : decode cX5_often 16 = .ok (.ifCond .ne 5, 3) := by decide +kernel
theorem dX5_often_19 : decode cX5_often 19 = .ok (.iconst (-1), 1) := by decide +kernel
theorem dX5_often_20 : decode cX5_often 20 = .ok (.ireturn, 1) := by decide +kernel
theorem dX5_often_21 : decode cX5_often 21 = .ok (.aload_n 0, 1) := by decide +kernel
theorem dX5_often_22 : decode cX5_often 22 = .ok (.getfield 26, 3) := by decide +kernel
theorem dX5_often_25 : decode cX5_often 25 = .ok (.iload_n 3, 1) := by decide +kernel
theorem dX5_often_26 : decode cX5_often 26 = .ok (.iload_n 1, 1) := by decide +kernel
theorem dX5_often_27 : decode cX5_often 27 = .ok (.iload_n 2, 1) := by decide +kernel
theorem dX5_often_28 : decode cX5_often 28 = .ok (.invokevirtual 112, 3) := by decide +kernel
theorem dX5_often_31 : decode cX5_often 31 = .ok (.ireturn, 1) := by decide +kernel
set_option maxRecDepth 20000 in
theorem ggX5_unlike_X2_hasSpan : GoodIn wsX5_unlike wsX2_hasSpan := goodIn_r _ [8, 9, 58, 59, 60] rfl (by decide +kernel)
set_option maxRecDepth 20000 in
theorem gX5_unlike_X2_hasSpan : GoodIn wsX5_unlike (wsV RX5 145 RX2 yX2_hasSpan wsX2_hasSpan) := goodIn_app (goodIn_r _ [4, 5, 6, 7] rfl (by decide +kernel)) ggX5_unlike_X2_hasSpan
set_option maxRecDepth 20000 in
theorem ggX5_unlike_X5_tallySpan : GoodIn wsX5_unlike wsX5_tallySpan := goodIn_r _ [14, 2, 15, 1, 16, 17, 18, 19, 20, 21, 22, 23, 24, 25, 26, 27, 28, 29, 30, 31, 32, 33, 34, 35, 36, 37, 38, 39, 40, 41, 42, 43, 44, 45, 46, 47, 48, 49, 58, 59, 60, 50, 51, 52, 53, 54, 55, 56, 57] rfl (by decide +kernel)
set_option maxRecDepth 20000 in
theorem gX5_unlike_X5_tallySpan : GoodIn wsX5_unlike (wsV RX5 173 RX5 yX5_tallySpan wsX5_tallySpan) := goodIn_app (goodIn_r _ [10, 11, 12, 13] rfl (by decide +kernel)) ggX5_unlike_X5_tallySpan
theorem dX5_unlike_0 : decode cX5_unlike 0 = .ok (.aload_n 0, 1) := by decide +kernel
theorem dX5_unlike_1 : decode cX5_unlike 1 = .ok (.getfield 26, 3) := by decide +kernel
theorem dX5_unlike_4 : decode cX5_unlike 4 = .ok (.iload_n 1, 1) := by decide +kernel
theorem dX5_unlike_5 : decode cX5_unlike 5 = .ok (.iload_n 2, 1) := by decide +kernel
theorem dX5_unlike_6 : decode cX5_unlike 6 = .ok (.invokevirtual 145, 3) := by decide +kernel
theorem dX5_unlike_9 : decode cX5_unlike 9 = .ok (.ifCond .ne 5, 3) := by decide +kernel
theorem dX5_unlike_12 : decode cX5_unlike 12 = .ok (.iconst (-1), 1) := by decide +kernel
theorem dX5_unlike_13 : decode cX5_unlike 13 = .ok (.ireturn, 1) := by decide +kernel
theorem dX5_unlike_14 : decode cX5_unlike 14 = .ok (.aload_n 0, 1) := by decide +kernel
theorem dX5_unlike_15 : decode cX5_unlike 15 = .ok (.iload_n 1, 1) := by decide +kernel
theorem dX5_unlike_16 : decode cX5_unlike 16 = .ok (.iload_n 2, 1) := by decide +kernel
theorem dX5_unlike_17 : decode cX5_unlike 17 = .ok (.invokevirtual 173, 3) := by decide +kernel
theorem dX5_unlike_20 : decode cX5_unlike 20 = .ok (.aload_n 0, 1) := by decide +kernel
theorem dX5_unlike_21 : decode cX5_unlike 21 = .ok (.getfield 43, 3) := by decide +kernel
theorem dX5_unlike_24 : decode cX5_unlike 24 = .ok (.getfield 182, 3) := by decide +kernel
theorem dX5_unlike_27 : decode cX5_unlike 27 = .ok (.ireturn, 1) := by decide +kernel
set_option maxRecDepth 20000 in
theorem ggX5_times_X2_hasSpan : GoodIn wsX5_times wsX2_hasSpan := goodIn_r _ [10, 11, 60, 61, 62] rfl (by decide +kernel)
set_option maxRecDepth 20000 in
theorem gX5_times_X2_hasSpan : GoodIn wsX5_times (wsV RX5 145 RX2 yX2_hasSpan wsX2_hasSpan) := goodIn_app (goodIn_r _ [6, 7, 8, 9] rfl (by decide +kernel)) ggX5_times_X2_hasSpan
set_option maxRecDepth 20000 in
theorem ggX5_times_X5_tallySpan : GoodIn wsX5_times wsX5_tallySpan := goodIn_r _ [16, 2, 17, 1, 18, 19, 20, 21, 22, 23, 24, 25, 26, 27, 28, 29, 30, 31, 32, 33, 34, 35, 36, 37, 38, 39, 40, 41, 42, 43, 44, 45, 46, 47, 48, 49, 50, 51, 60, 61, 62, 52, 53, 54, 55, 56, 57, 58, 59] rfl (by decide +kernel)
set_option maxRecDepth 20000 in
theorem gX5_times_X5_tallySpan : GoodIn wsX5_times (wsV RX5 173 RX5 yX5_tallySpan wsX5_tallySpan) := goodIn_app (goodIn_r _ [12, 13, 14, 15] rfl (by decide +kernel)) ggX5_times_X5_tallySpan
theorem dX5_times_0 : decode cX5_times 0 = .ok (.aload_n 0, 1) := by decide +kernel
theorem dX5_times_1 : decode cX5_times 1 = .ok (.getfield 26, 3) := by decide +kernel
theorem dX5_times_4 : decode cX5_times 4 = .ok (.iload_n 1, 1) := by decide +kernel
theorem dX5_times_5 : decode cX5_times 5 = .ok (.iload_n 2, 1) := by decide +kernel
theorem dX5_times_6 : decode cX5_times 6 = .ok (.invokevirtual 145, 3) := by decide +kernel
theorem dX5_times_9 : decode cX5_times 9 = .ok (.ifCond .eq 8, 3) := by decide +kernel
theorem dX5_times_12 : decode cX5_times 12 = .ok (.iload_n 3, 1) := by decide +kernel
theorem dX5_times_13 : decode cX5_times 13 = .ok (.iconst 1, 1) := by decide +kernel
theorem dX5_times_14 : decode cX5_times 14 = .ok (.if_icmp .ge 5, 3) := by decide +kernel
theorem dX5_times_17 : decode cX5_times 17 = .ok (.iconst (-1), 1) := by decide +kernel
theorem dX5_times_18 : decode cX5_times 18 = .ok (.ireturn, 1) := by decide +kernel
theorem dX5_times_19 : decode cX5_times 19 = .ok (.aload_n 0, 1) := by decide +kernel
theorem dX5_times_20 : decode cX5_times 20 = .ok (.iload_n 1, 1) := by decide +kernel
theorem dX5_times_21 : decode cX5_times 21 = .ok (.iload_n 2, 1) := by decide +kernel
theorem dX5_times_22 : decode cX5_times 22 = .ok (.invokevirtual 173, 3) := by decide +kernel
theorem dX5_times_25 : decode cX5_times 25 = .ok (.iconst 0, 1) := by decide +kernel
theorem dX5_times_26 : decode cX5_times 26 = .ok (.istore 4, 2) := by decide +kernel
theorem dX5_times_28 : decode cX5_times 28 = .ok (.iconst 0, 1) := by decide +kernel
theorem dX5_times_29 : decode cX5_times 29 = .ok (.istore 5, 2) := by decide +kernel
theorem dX5_times_31 : decode cX5_times 31 = .ok (.iload 5, 2) := by decide +kernel
theorem dX5_times_33 : decode cX5_times 33 = .ok (.aload_n 0, 1) := by decide +kernel
theorem dX5_times_34 : decode cX5_times 34 = .ok (.getfield 43, 3) := by decide +kernel
theorem dX5_times_37 : decode cX5_times 37 = .ok (.getfield 182, 3) := by decide +kernel
theorem dX5_times_40 : decode cX5_times 40 = .ok (.if_icmp .ge 34, 3) := by decide +kernel
theorem dX5_times_43 : decode cX5_times 43 = .ok (.aload_n 0, 1) := by decide +kernel
theorem dX5_times_44 : decode cX5_times 44 = .ok (.getfield 43, 3) := by decide +kernel
theorem dX5_times_47 : decode cX5_times 47 = .ok (.getfield 190, 3) := by decide +kernel
theorem dX5_times_50 : decode cX5_times 50 = .ok (.aload_n 0, 1) := by decide +kernel
theorem dX5_times_51 : decode cX5_times 51 = .ok (.getfield 43, 3) := by decide +kernel
theorem dX5_times_54 : decode cX5_times 54 = .ok (.getfield 187, 3) := by decide +kernel
theorem dX5_times_57 : decode cX5_times 57 = .ok (.iload 5, 2) := by decide +kernel
theorem dX5_times_59 : decode cX5_times 59 = .ok (.iaload, 1) := by decide +kernel
theorem dX5_times_60 : decode cX5_times 60 = .ok (.iaload, 1) := by decide +kernel
theorem dX5_times_61 : decode cX5_times 61 = .ok (.iload_n 3, 1) := by decide +kernel
theorem dX5_times_62 : decode cX5_times 62 = .ok (.if_icmp .ne 6, 3) := by decide +kernel
theorem dX5_times_65 : decode cX5_times 65 = .ok (.iinc 4 1, 3) := by decide +kernel
theorem dX5_times_68 : decode cX5_times 68 = .ok (.iinc 5 1, 3) := by decide +kernel
theorem dX5_times_71 : decode cX5_times 71 = .ok (.goto (-40), 3) := by decide +kernel
theorem dX5_times_74 : decode cX5_times 74 = .ok (.iload 4, 2) := by decide +kernel
theorem dX5_times_76 : decode cX5_times 76 = .ok (.ireturn, 1) := by decide +kernel
set_option maxRecDepth 20000 in
theorem ggX5_majority_X2_hasSpan : GoodIn wsX5_majority wsX2_hasSpan := goodIn_r _ [8, 9, 66, 67, 68] rfl (by decide +kernel)
set_option maxRecDepth 20000 in
theorem gX5_majority_X2_hasSpan : GoodIn wsX5_majority (wsV RX5 145 RX2 yX2_hasSpan wsX2_hasSpan) := goodIn_app (goodIn_r _ [4, 5, 6, 7] rfl (by decide +kernel)) ggX5_majority_X2_hasSpan
set_option maxRecDepth 20000 in
theorem ggX5_majority_X5_tallySpan : GoodIn wsX5_majority wsX5_tallySpan := goodIn_r _ [14, 2, 15, 1, 16, 17, 18, 19, 20, 21, 22, 23, 24, 25, 26, 27, 28, 29, 30, 31, 32, 33, 34, 35, 36, 37, 46, 47, 48, 49, 50, 51, 52, 53, 54, 55, 56, 57, 66, 67, 68, 58, 59, 60, 61, 62, 63, 64, 65] rfl (by decide +kernel)
set_option maxRecDepth 20000 in
theorem gX5_majority_X5_tallySpan : GoodIn wsX5_majority (wsV RX5 173 RX5 yX5_tallySpan wsX5_tallySpan) := goodIn_app (goodIn_r _ [10, 11, 12, 13] rfl (by decide +kernel)) ggX5_majority_X5_tallySpan
set_option maxRecDepth 20000 in
theorem ggX5_majority_X3_hasMajority : GoodIn wsX5_majority wsX3_hasMajority := goodIn_r _ [41, 25, 42, 43, 44, 20, 45, 26, 23, 58, 59, 60, 61, 62, 63, 64, 65] rfl (by decide +kernel)
set_option maxRecDepth 20000 in
theorem gX5_majority_X3_hasMajority : GoodIn wsX5_majority (wsV RX5 196 RX3 yX3_hasMajority wsX3_hasMajority) := goodIn_app (goodIn_r _ [38, 39, 40, 20] rfl (by decide +kernel)) ggX5_majority_X3_hasMajority
theorem dX5_majority_0 : decode cX5_majority 0 = .ok (.aload_n 0, 1) := by decide +kernel
theorem dX5_majority_1 : decode cX5_majority 1 = .ok (.getfield 26, 3) := by decide +kernel
theorem dX5_majority_4 : decode cX5_majority 4 = .ok (.iload_n 1, 1) := by decide +kernel
theorem dX5_majority_5 : decode cX5_majority 5 = .ok (.iload_n 2, 1) := by decide +kernel
theorem dX5_majority_6 : decode cX5_majority 6 = .ok (.invokevirtual 145, 3) := by decide +kernel
theorem dX5_majority_9 : decode cX5_majority 9 = .ok (.ifCond .ne 5, 3) := by decide +kernel
theorem dX5_majority_12 : decode cX5_majority 12 = .ok (.iconst (-1), 1) := by decide +kernel
theorem dX5_majority_13 : decode cX5_majority 13 = .ok (.ireturn, 1) := by decide +kernel
theorem dX5_majority_14 : decode cX5_majority 14 = .ok (.aload_n 0, 1) := by decide +kernel
theorem dX5_majority_15 : decode cX5_majority 15 = .ok (.iload_n 1, 1) := by decide +kernel
theorem dX5_majority_16 : decode cX5_majority 16 = .ok (.iload_n 2, 1) := by decide +kernel
theorem dX5_majority_17 : decode cX5_majority 17 = .ok (.invokevirtual 173, 3) := by decide +kernel
theorem dX5_majority_20 : decode cX5_majority 20 = .ok (.aload_n 0, 1) := by decide +kernel
theorem dX5_majority_21 : decode cX5_majority 21 = .ok (.getfield 43, 3) := by decide +kernel
theorem dX5_majority_24 : decode cX5_majority 24 = .ok (.invokevirtual 196, 3) := by decide +kernel
theorem dX5_majority_27 : decode cX5_majority 27 = .ok (.ifCond .eq 13, 3) := by decide +kernel
theorem dX5_majority_30 : decode cX5_majority 30 = .ok (.aload_n 0, 1) := by decide +kernel
theorem dX5_majority_31 : decode cX5_majority 31 = .ok (.getfield 43, 3) := by decide +kernel
theorem dX5_majority_34 : decode cX5_majority 34 = .ok (.getfield 176, 3) := by decide +kernel
theorem dX5_majority_37 : decode cX5_majority 37 = .ok (.goto 5, 3) := by decide +kernel
theorem dX5_majority_40 : decode cX5_majority 40 = .ok (.bipush (-2), 2) := by decide +kernel
theorem dX5_majority_42 : decode cX5_majority 42 = .ok (.ireturn, 1) := by decide +kernel
set_option maxRecDepth 20000 in
theorem ggX5_heaviest_X2_hasSpan : GoodIn wsX5_heaviest wsX2_hasSpan := goodIn_r _ [10, 11, 70, 71, 72] rfl (by decide +kernel)
set_option maxRecDepth 20000 in
theorem gX5_heaviest_X2_hasSpan : GoodIn wsX5_heaviest (wsV RX5 145 RX2 yX2_hasSpan wsX2_hasSpan) := goodIn_app (goodIn_r _ [6, 7, 8, 9] rfl (by decide +kernel)) ggX5_heaviest_X2_hasSpan
set_option maxRecDepth 20000 in
theorem ggX5_heaviest_X5_isBelow : GoodIn wsX5_heaviest wsX5_isBelow := goodIn_r _ [15] rfl (by decide +kernel)
set_option maxRecDepth 20000 in
theorem gX5_heaviest_X5_isBelow : GoodIn wsX5_heaviest (va_wsS RX5 170 yX5_isBelow wsX5_isBelow) := goodIn_app (goodIn_r _ [12, 13, 14] rfl (by decide +kernel)) ggX5_heaviest_X5_isBelow
set_option maxRecDepth 20000 in
theorem ggX5_heaviest_X5_tallySpan : GoodIn wsX5_heaviest wsX5_tallySpan := goodIn_r _ [19, 2, 20, 1, 21, 22, 23, 24, 25, 26, 27, 28, 29, 30, 31, 32, 33, 34, 35, 36, 37, 38, 39, 40, 41, 42, 50, 51, 52, 53, 54, 55, 56, 57, 58, 59, 60, 61, 70, 71, 72, 62, 63, 64, 65, 66, 67, 68, 69] rfl (by decide +kernel)
set_option maxRecDepth 20000 in
theorem gX5_heaviest_X5_tallySpan : GoodIn wsX5_heaviest (wsV RX5 173 RX5 yX5_tallySpan wsX5_tallySpan) := goodIn_app (goodIn_r _ [16, 17, 18, 14] rfl (by decide +kernel)) ggX5_heaviest_X5_tallySpan
set_option maxRecDepth 20000 in
theorem ggX5_heaviest_X2_weightOf : GoodIn wsX5_heaviest wsX2_weightOf := goodIn_r _ [46, 47, 48, 70, 71, 72] rfl (by decide +kernel)
set_option maxRecDepth 20000 in
theorem gX5_heaviest_X2_weightOf : GoodIn wsX5_heaviest (wsV RX5 200 RX2 yX2_weightOf wsX2_weightOf) := goodIn_app (goodIn_r _ [43, 44, 45, 9] rfl (by decide +kernel)) ggX5_heaviest_X2_weightOf
set_option maxRecDepth 20000 in
theorem ggX5_heaviest_X3_isAhead : GoodIn wsX5_heaviest wsX3_isAhead := goodIn_r _ [42, 28, 32, 37, 38, 62, 63, 64, 65, 66, 67, 68, 69] rfl (by decide +kernel)
set_option maxRecDepth 20000 in
theorem gX5_heaviest_X3_isAhead : GoodIn wsX5_heaviest (wsV RX5 193 RX3 yX3_isAhead wsX3_isAhead) := goodIn_app (goodIn_r _ [49, 40, 41, 25] rfl (by decide +kernel)) ggX5_heaviest_X3_isAhead
theorem dX5_heaviest_0 : decode cX5_heaviest 0 = .ok (.aload_n 0, 1) := by decide +kernel
theorem dX5_heaviest_1 : decode cX5_heaviest 1 = .ok (.getfield 26, 3) := by decide +kernel
theorem dX5_heaviest_4 : decode cX5_heaviest 4 = .ok (.iload_n 1, 1) := by decide +kernel
theorem dX5_heaviest_5 : decode cX5_heaviest 5 = .ok (.iload_n 2, 1) := by decide +kernel
theorem dX5_heaviest_6 : decode cX5_heaviest 6 = .ok (.invokevirtual 145, 3) := by decide +kernel
theorem dX5_heaviest_9 : decode cX5_heaviest 9 = .ok (.ifCond .eq 11, 3) := by decide +kernel
theorem dX5_heaviest_12 : decode cX5_heaviest 12 = .ok (.iload_n 3, 1) := by decide +kernel
theorem dX5_heaviest_13 : decode cX5_heaviest 13 = .ok (.iconst 2, 1) := by decide +kernel
theorem dX5_heaviest_14 : decode cX5_heaviest 14 = .ok (.invokestatic 170, 3) := by decide +kernel
theorem dX5_heaviest_17 : decode cX5_heaviest 17 = .ok (.ifCond .ne 5, 3) := by decide +kernel
theorem dX5_heaviest_20 : decode cX5_heaviest 20 = .ok (.iconst (-1), 1) := by decide +kernel
theorem dX5_heaviest_21 : decode cX5_heaviest 21 = .ok (.ireturn, 1) := by decide +kernel
theorem dX5_heaviest_22 : decode cX5_heaviest 22 = .ok (.aload_n 0, 1) := by decide +kernel
theorem dX5_heaviest_23 : decode cX5_heaviest 23 = .ok (.iload_n 1, 1) := by decide +kernel
theorem dX5_heaviest_24 : decode cX5_heaviest 24 = .ok (.iload_n 2, 1) := by decide +kernel
theorem dX5_heaviest_25 : decode cX5_heaviest 25 = .ok (.invokevirtual 173, 3) := by decide +kernel
theorem dX5_heaviest_28 : decode cX5_heaviest 28 = .ok (.aload_n 0, 1) := by decide +kernel
theorem dX5_heaviest_29 : decode cX5_heaviest 29 = .ok (.getfield 43, 3) := by decide +kernel
theorem dX5_heaviest_32 : decode cX5_heaviest 32 = .ok (.getfield 176, 3) := by decide +kernel
theorem dX5_heaviest_35 : decode cX5_heaviest 35 = .ok (.istore 4, 2) := by decide +kernel
theorem dX5_heaviest_37 : decode cX5_heaviest 37 = .ok (.iconst 0, 1) := by decide +kernel
theorem dX5_heaviest_38 : decode cX5_heaviest 38 = .ok (.istore 5, 2) := by decide +kernel
theorem dX5_heaviest_40 : decode cX5_heaviest 40 = .ok (.iconst 0, 1) := by decide +kernel
theorem dX5_heaviest_41 : decode cX5_heaviest 41 = .ok (.istore 6, 2) := by decide +kernel
theorem dX5_heaviest_43 : decode cX5_heaviest 43 = .ok (.iload 6, 2) := by decide +kernel
theorem dX5_heaviest_45 : decode cX5_heaviest 45 = .ok (.aload_n 0, 1) := by decide +kernel
theorem dX5_heaviest_46 : decode cX5_heaviest 46 = .ok (.getfield 43, 3) := by decide +kernel
theorem dX5_heaviest_49 : decode cX5_heaviest 49 = .ok (.getfield 182, 3) := by decide +kernel
theorem dX5_heaviest_52 : decode cX5_heaviest 52 = .ok (.if_icmp .ge 70, 3) := by decide +kernel
theorem dX5_heaviest_55 : decode cX5_heaviest 55 = .ok (.aload_n 0, 1) := by decide +kernel
theorem dX5_heaviest_56 : decode cX5_heaviest 56 = .ok (.getfield 43, 3) := by decide +kernel
theorem dX5_heaviest_59 : decode cX5_heaviest 59 = .ok (.getfield 187, 3) := by decide +kernel
theorem dX5_heaviest_62 : decode cX5_heaviest 62 = .ok (.iload 6, 2) := by decide +kernel
theorem dX5_heaviest_64 : decode cX5_heaviest 64 = .ok (.iaload, 1) := by decide +kernel
theorem dX5_heaviest_65 : decode cX5_heaviest 65 = .ok (.istore 7, 2) := by decide +kernel
theorem dX5_heaviest_67 : decode cX5_heaviest 67 = .ok (.aload_n 0, 1) := by decide +kernel
theorem dX5_heaviest_68 : decode cX5_heaviest 68 = .ok (.getfield 26, 3) := by decide +kernel
theorem dX5_heaviest_71 : decode cX5_heaviest 71 = .ok (.iload 7, 2) := by decide +kernel
theorem dX5_heaviest_73 : decode cX5_heaviest 73 = .ok (.iload_n 1, 1) := by decide +kernel
theorem dX5_heaviest_74 : decode cX5_heaviest 74 = .ok (.iload_n 2, 1) := by decide +kernel
theorem dX5_heaviest_75 : decode cX5_heaviest 75 = .ok (.invokevirtual 200, 3) := by decide +kernel
theorem dX5_heaviest_78 : decode cX5_heaviest 78 = .ok (.istore 8, 2) := by decide +kernel
theorem dX5_heaviest_80 : decode cX5_heaviest 80 = .ok (.iload 8, 2) := by decide +kernel
theorem dX5_heaviest_82 : decode cX5_heaviest 82 = .ok (.iload 5, 2) := by decide +kernel
theorem dX5_heaviest_84 : decode cX5_heaviest 84 = .ok (.if_icmp .gt 24, 3) := by decide +kernel
theorem dX5_heaviest_87 : decode cX5_heaviest 87 = .ok (.iload 8, 2) := by decide +kernel
theorem dX5_heaviest_89 : decode cX5_heaviest 89 = .ok (.iload 5, 2) := by decide +kernel
theorem dX5_heaviest_91 : decode cX5_heaviest 91 = .ok (.if_icmp .ne 25, 3) := by decide +kernel
theorem dX5_heaviest_94 : decode cX5_heaviest 94 = .ok (.aload_n 0, 1) := by decide +kernel
theorem dX5_heaviest_95 : decode cX5_heaviest 95 = .ok (.getfield 43, 3) := by decide +kernel
theorem dX5_heaviest_98 : decode cX5_heaviest 98 = .ok (.iload 7, 2) := by decide +kernel
theorem dX5_heaviest_100 : decode cX5_heaviest 100 = .ok (.iload 4, 2) := by decide +kernel
theorem dX5_heaviest_102 : decode cX5_heaviest 102 = .ok (.invokevirtual 193, 3) := by decide +kernel
theorem dX5_heaviest_105 : decode cX5_heaviest 105 = .ok (.ifCond .eq 11, 3) := by decide +kernel
theorem dX5_heaviest_108 : decode cX5_heaviest 108 = .ok (.iload 7, 2) := by decide +kernel
theorem dX5_heaviest_110 : decode cX5_heaviest 110 = .ok (.istore 4, 2) := by decide +kernel
theorem dX5_heaviest_112 : decode cX5_heaviest 112 = .ok (.iload 8, 2) := by decide +kernel
theorem dX5_heaviest_114 : decode cX5_heaviest 114 = .ok (.istore 5, 2) := by decide +kernel
theorem dX5_heaviest_116 : decode cX5_heaviest 116 = .ok (.iinc 6 1, 3) := by decide +kernel
theorem dX5_heaviest_119 : decode cX5_heaviest 119 = .ok (.goto (-76), 3) := by decide +kernel
theorem dX5_heaviest_122 : decode cX5_heaviest 122 = .ok (.iload_n 3, 1) := by decide +kernel
theorem dX5_heaviest_123 : decode cX5_heaviest 123 = .ok (.ifCond .ne 8, 3) := by decide +kernel
theorem dX5_heaviest_126 : decode cX5_heaviest 126 = .ok (.iload 4, 2) := by decide +kernel
theorem dX5_heaviest_128 : decode cX5_heaviest 128 = .ok (.goto 5, 3) := by decide +kernel
theorem dX5_heaviest_131 : decode cX5_heaviest 131 = .ok (.iload 5, 2) := by decide +kernel
theorem dX5_heaviest_133 : decode cX5_heaviest 133 = .ok (.ireturn, 1) := by decide +kernel
set_option maxRecDepth 20000 in
theorem ggX5_lead_X2_hasSpan : GoodIn wsX5_lead wsX2_hasSpan := goodIn_r _ [15, 16, 69, 70, 71] rfl (by decide +kernel)
set_option maxRecDepth 20000 in
theorem gX5_lead_X2_hasSpan : GoodIn wsX5_lead (wsV RX5 145 RX2 yX2_hasSpan wsX2_hasSpan) := goodIn_app (goodIn_r _ [11, 12, 13, 14] rfl (by decide +kernel)) ggX5_lead_X2_hasSpan
set_option maxRecDepth 20000 in
theorem ggX5_lead_X5_tallySpan : GoodIn wsX5_lead wsX5_tallySpan := goodIn_r _ [21, 2, 22, 1, 23, 24, 25, 26, 27, 28, 29, 30, 31, 32, 33, 34, 35, 36, 37, 38, 39, 40, 41, 42, 43, 44, 49, 50, 51, 52, 53, 54, 55, 56, 57, 58, 59, 60, 69, 70, 71, 61, 62, 63, 64, 65, 66, 67, 68] rfl (by decide +kernel)
set_option maxRecDepth 20000 in
theorem gX5_lead_X5_tallySpan : GoodIn wsX5_lead (wsV RX5 173 RX5 yX5_tallySpan wsX5_tallySpan) := goodIn_app (goodIn_r _ [17, 18, 19, 20] rfl (by decide +kernel)) ggX5_lead_X5_tallySpan
set_option maxRecDepth 20000 in
theorem ggX5_lead_X3_most : GoodIn wsX5_lead wsX3_most := goodIn_r _ [48, 33, 30, 61, 62, 63, 64, 65, 66, 67, 68] rfl (by decide +kernel)
set_option maxRecDepth 20000 in
theorem gX5_lead_X3_most : GoodIn wsX5_lead (wsV RX5 208 RX3 yX3_most wsX3_most) := goodIn_app (goodIn_r _ [45, 46, 47, 27] rfl (by decide +kernel)) ggX5_lead_X3_most
theorem dX5_lead_0 : decode cX5_lead 0 = .ok (.aload_n 0, 1) := by decide +kernel
theorem dX5_lead_1 : decode cX5_lead 1 = .ok (.getfield 26, 3) := by decide +kernel
theorem dX5_lead_4 : decode cX5_lead 4 = .ok (.iload_n 1, 1) := by decide +kernel
theorem dX5_lead_5 : decode cX5_lead 5 = .ok (.iload_n 2, 1) := by decide +kernel
theorem dX5_lead_6 : decode cX5_lead 6 = .ok (.invokevirtual 145, 3) := by decide +kernel
theorem dX5_lead_9 : decode cX5_lead 9 = .ok (.ifCond .ne 5, 3) := by decide +kernel
theorem dX5_lead_12 : decode cX5_lead 12 = .ok (.iconst (-1), 1) := by decide +kernel
theorem dX5_lead_13 : decode cX5_lead 13 = .ok (.ireturn, 1) := by decide +kernel
theorem dX5_lead_14 : decode cX5_lead 14 = .ok (.aload_n 0, 1) := by decide +kernel
theorem dX5_lead_15 : decode cX5_lead 15 = .ok (.iload_n 1, 1) := by decide +kernel
theorem dX5_lead_16 : decode cX5_lead 16 = .ok (.iload_n 2, 1) := by decide +kernel
theorem dX5_lead_17 : decode cX5_lead 17 = .ok (.invokevirtual 173, 3) := by decide +kernel
theorem dX5_lead_20 : decode cX5_lead 20 = .ok (.iconst 0, 1) := by decide +kernel
theorem dX5_lead_21 : decode cX5_lead 21 = .ok (.istore_n 3, 1) := by decide +kernel
theorem dX5_lead_22 : decode cX5_lead 22 = .ok (.iconst 0, 1) := by decide +kernel
theorem dX5_lead_23 : decode cX5_lead 23 = .ok (.istore 4, 2) := by decide +kernel
theorem dX5_lead_25 : decode cX5_lead 25 = .ok (.iload 4, 2) := by decide +kernel
theorem dX5_lead_27 : decode cX5_lead 27 = .ok (.aload_n 0, 1) := by decide +kernel
theorem dX5_lead_28 : decode cX5_lead 28 = .ok (.getfield 43, 3) := by decide +kernel
theorem dX5_lead_31 : decode cX5_lead 31 = .ok (.getfield 182, 3) := by decide +kernel
theorem dX5_lead_34 : decode cX5_lead 34 = .ok (.if_icmp .ge 48, 3) := by decide +kernel
theorem dX5_lead_37 : decode cX5_lead 37 = .ok (.aload_n 0, 1) := by decide +kernel
theorem dX5_lead_38 : decode cX5_lead 38 = .ok (.getfield 43, 3) := by decide +kernel
theorem dX5_lead_41 : decode cX5_lead 41 = .ok (.getfield 187, 3) := by decide +kernel
theorem dX5_lead_44 : decode cX5_lead 44 = .ok (.iload 4, 2) := by decide +kernel
theorem dX5_lead_46 : decode cX5_lead 46 = .ok (.iaload, 1) := by decide +kernel
theorem dX5_lead_47 : decode cX5_lead 47 = .ok (.istore 5, 2) := by decide +kernel
theorem dX5_lead_49 : decode cX5_lead 49 = .ok (.iload 5, 2) := by decide +kernel
theorem dX5_lead_51 : decode cX5_lead 51 = .ok (.aload_n 0, 1) := by decide +kernel
theorem dX5_lead_52 : decode cX5_lead 52 = .ok (.getfield 43, 3) := by decide +kernel
theorem dX5_lead_55 : decode cX5_lead 55 = .ok (.getfield 176, 3) := by decide +kernel
theorem dX5_lead_58 : decode cX5_lead 58 = .ok (.if_icmp .eq 18, 3) := by decide +kernel
theorem dX5_lead_61 : decode cX5_lead 61 = .ok (.iload_n 3, 1) := by decide +kernel
theorem dX5_lead_62 : decode cX5_lead 62 = .ok (.aload_n 0, 1) := by decide +kernel
theorem dX5_lead_63 : decode cX5_lead 63 = .ok (.getfield 43, 3) := by decide +kernel
theorem dX5_lead_66 : decode cX5_lead 66 = .ok (.getfield 190, 3) := by decide +kernel
theorem dX5_lead_69 : decode cX5_lead 69 = .ok (.iload 5, 2) := by decide +kernel
theorem dX5_lead_71 : decode cX5_lead 71 = .ok (.iaload, 1) := by decide +kernel
theorem dX5_lead_72 : decode cX5_lead 72 = .ok (.invokestatic 203, 3) := by decide +kernel
theorem dX5_lead_75 : decode cX5_lead 75 = .ok (.istore_n 3, 1) := by decide +kernel
theorem dX5_lead_76 : decode cX5_lead 76 = .ok (.iinc 4 1, 3) := by decide +kernel
theorem dX5_lead_79 : decode cX5_lead 79 = .ok (.goto (-54), 3) := by decide +kernel
theorem dX5_lead_82 : decode cX5_lead 82 = .ok (.aload_n 0, 1) := by decide +kernel
theorem dX5_lead_83 : decode cX5_lead 83 = .ok (.getfield 43, 3) := by decide +kernel
theorem dX5_lead_86 : decode cX5_lead 86 = .ok (.invokevirtual 208, 3) := by decide +kernel
theorem dX5_lead_89 : decode cX5_lead 89 = .ok (.iload_n 3, 1) := by decide +kernel
theorem dX5_lead_90 : decode cX5_lead 90 = .ok (.isub, 1) := by decide +kernel
theorem dX5_lead_91 : decode cX5_lead 91 = .ok (.ireturn, 1) := by decide +kernel
set_option maxRecDepth 20000 in
theorem ggX5_rarest_X2_hasSpan : GoodIn wsX5_rarest wsX2_hasSpan := goodIn_r _ [10, 11, 68, 69, 70] rfl (by decide +kernel)
set_option maxRecDepth 20000 in
theorem gX5_rarest_X2_hasSpan : GoodIn wsX5_rarest (wsV RX5 145 RX2 yX2_hasSpan wsX2_hasSpan) := goodIn_app (goodIn_r _ [6, 7, 8, 9] rfl (by decide +kernel)) ggX5_rarest_X2_hasSpan
set_option maxRecDepth 20000 in
theorem ggX5_rarest_X5_isBelow : GoodIn wsX5_rarest wsX5_isBelow := goodIn_r _ [15] rfl (by decide +kernel)
set_option maxRecDepth 20000 in
theorem gX5_rarest_X5_isBelow : GoodIn wsX5_rarest (va_wsS RX5 170 yX5_isBelow wsX5_isBelow) := goodIn_app (goodIn_r _ [12, 13, 14] rfl (by decide +kernel)) ggX5_rarest_X5_isBelow
set_option maxRecDepth 20000 in
theorem ggX5_rarest_X5_tallySpan : GoodIn wsX5_rarest wsX5_tallySpan := goodIn_r _ [19, 2, 20, 1, 21, 22, 23, 24, 25, 26, 27, 28, 29, 30, 31, 32, 33, 34, 35, 36, 37, 38, 39, 40, 41, 42, 48, 49, 50, 51, 52, 53, 54, 55, 56, 57, 58, 59, 68, 69, 70, 60, 61, 62, 63, 64, 65, 66, 67] rfl (by decide +kernel)
set_option maxRecDepth 20000 in
theorem gX5_rarest_X5_tallySpan : GoodIn wsX5_rarest (wsV RX5 173 RX5 yX5_tallySpan wsX5_tallySpan) := goodIn_app (goodIn_r _ [16, 17, 18, 14] rfl (by decide +kernel)) ggX5_rarest_X5_tallySpan
set_option maxRecDepth 20000 in
theorem ggX5_rarest_X3_isAhead : GoodIn wsX5_rarest wsX3_isAhead := goodIn_r _ [42, 28, 32, 37, 38, 60, 61, 62, 63, 64, 65, 66, 67] rfl (by decide +kernel)
set_option maxRecDepth 20000 in
theorem gX5_rarest_X3_isAhead : GoodIn wsX5_rarest (wsV RX5 193 RX3 yX3_isAhead wsX3_isAhead) := goodIn_app (goodIn_r _ [43, 40, 41, 25] rfl (by decide +kernel)) ggX5_rarest_X3_isAhead
set_option maxRecDepth 20000 in
theorem ggX5_rarest_X3_told : GoodIn wsX5_rarest wsX3_told := goodIn_r _ [47, 28, 37, 38, 60, 61, 62, 63, 64, 65, 66, 67] rfl (by decide +kernel)
set_option maxRecDepth 20000 in
theorem gX5_rarest_X3_told : GoodIn wsX5_rarest (wsV RX5 179 RX3 yX3_told wsX3_told) := goodIn_app (goodIn_r _ [44, 45, 46, 25] rfl (by decide +kernel)) ggX5_rarest_X3_told
theorem dX5_rarest_0 : decode cX5_rarest 0 = .ok (.aload_n 0, 1) := by decide +kernel
theorem dX5_rarest_1 : decode cX5_rarest 1 = .ok (.getfield 26, 3) := by decide +kernel
theorem dX5_rarest_4 : decode cX5_rarest 4 = .ok (.iload_n 1, 1) := by decide +kernel
theorem dX5_rarest_5 : decode cX5_rarest 5 = .ok (.iload_n 2, 1) := by decide +kernel
theorem dX5_rarest_6 : decode cX5_rarest 6 = .ok (.invokevirtual 145, 3) := by decide +kernel
theorem dX5_rarest_9 : decode cX5_rarest 9 = .ok (.ifCond .eq 11, 3) := by decide +kernel
theorem dX5_rarest_12 : decode cX5_rarest 12 = .ok (.iload_n 3, 1) := by decide +kernel
theorem dX5_rarest_13 : decode cX5_rarest 13 = .ok (.iconst 4, 1) := by decide +kernel
theorem dX5_rarest_14 : decode cX5_rarest 14 = .ok (.invokestatic 170, 3) := by decide +kernel
theorem dX5_rarest_17 : decode cX5_rarest 17 = .ok (.ifCond .ne 5, 3) := by decide +kernel
theorem dX5_rarest_20 : decode cX5_rarest 20 = .ok (.iconst (-1), 1) := by decide +kernel
theorem dX5_rarest_21 : decode cX5_rarest 21 = .ok (.ireturn, 1) := by decide +kernel
theorem dX5_rarest_22 : decode cX5_rarest 22 = .ok (.aload_n 0, 1) := by decide +kernel
theorem dX5_rarest_23 : decode cX5_rarest 23 = .ok (.iload_n 1, 1) := by decide +kernel
theorem dX5_rarest_24 : decode cX5_rarest 24 = .ok (.iload_n 2, 1) := by decide +kernel
theorem dX5_rarest_25 : decode cX5_rarest 25 = .ok (.invokevirtual 173, 3) := by decide +kernel
theorem dX5_rarest_28 : decode cX5_rarest 28 = .ok (.aload_n 0, 1) := by decide +kernel
theorem dX5_rarest_29 : decode cX5_rarest 29 = .ok (.getfield 43, 3) := by decide +kernel
theorem dX5_rarest_32 : decode cX5_rarest 32 = .ok (.getfield 176, 3) := by decide +kernel
theorem dX5_rarest_35 : decode cX5_rarest 35 = .ok (.istore 4, 2) := by decide +kernel
theorem dX5_rarest_37 : decode cX5_rarest 37 = .ok (.iconst 0, 1) := by decide +kernel
theorem dX5_rarest_38 : decode cX5_rarest 38 = .ok (.istore 5, 2) := by decide +kernel
theorem dX5_rarest_40 : decode cX5_rarest 40 = .ok (.iload 5, 2) := by decide +kernel
theorem dX5_rarest_42 : decode cX5_rarest 42 = .ok (.aload_n 0, 1) := by decide +kernel
theorem dX5_rarest_43 : decode cX5_rarest 43 = .ok (.getfield 43, 3) := by decide +kernel
theorem dX5_rarest_46 : decode cX5_rarest 46 = .ok (.getfield 182, 3) := by decide +kernel
theorem dX5_rarest_49 : decode cX5_rarest 49 = .ok (.if_icmp .ge 43, 3) := by decide +kernel
theorem dX5_rarest_52 : decode cX5_rarest 52 = .ok (.aload_n 0, 1) := by decide +kernel
theorem dX5_rarest_53 : decode cX5_rarest 53 = .ok (.getfield 43, 3) := by decide +kernel
theorem dX5_rarest_56 : decode cX5_rarest 56 = .ok (.iload 4, 2) := by decide +kernel
theorem dX5_rarest_58 : decode cX5_rarest 58 = .ok (.aload_n 0, 1) := by decide +kernel
theorem dX5_rarest_59 : decode cX5_rarest 59 = .ok (.getfield 43, 3) := by decide +kernel
theorem dX5_rarest_62 : decode cX5_rarest 62 = .ok (.getfield 187, 3) := by decide +kernel
theorem dX5_rarest_65 : decode cX5_rarest 65 = .ok (.iload 5, 2) := by decide +kernel
theorem dX5_rarest_67 : decode cX5_rarest 67 = .ok (.iaload, 1) := by decide +kernel
theorem dX5_rarest_68 : decode cX5_rarest 68 = .ok (.invokevirtual 193, 3) := by decide +kernel
theorem dX5_rarest_71 : decode cX5_rarest 71 = .ok (.ifCond .eq 15, 3) := by decide +kernel
theorem dX5_rarest_74 : decode cX5_rarest 74 = .ok (.aload_n 0, 1) := by decide +kernel
theorem dX5_rarest_75 : decode cX5_rarest 75 = .ok (.getfield 43, 3) := by decide +kernel
theorem dX5_rarest_78 : decode cX5_rarest 78 = .ok (.getfield 187, 3) := by decide +kernel
theorem dX5_rarest_81 : decode cX5_rarest 81 = .ok (.iload 5, 2) := by decide +kernel
theorem dX5_rarest_83 : decode cX5_rarest 83 = .ok (.iaload, 1) := by decide +kernel
theorem dX5_rarest_84 : decode cX5_rarest 84 = .ok (.istore 4, 2) := by decide +kernel
theorem dX5_rarest_86 : decode cX5_rarest 86 = .ok (.iinc 5 1, 3) := by decide +kernel
theorem dX5_rarest_89 : decode cX5_rarest 89 = .ok (.goto (-49), 3) := by decide +kernel
theorem dX5_rarest_92 : decode cX5_rarest 92 = .ok (.aload_n 0, 1) := by decide +kernel
theorem dX5_rarest_93 : decode cX5_rarest 93 = .ok (.getfield 43, 3) := by decide +kernel
theorem dX5_rarest_96 : decode cX5_rarest 96 = .ok (.iload 4, 2) := by decide +kernel
theorem dX5_rarest_98 : decode cX5_rarest 98 = .ok (.iload_n 3, 1) := by decide +kernel
theorem dX5_rarest_99 : decode cX5_rarest 99 = .ok (.iload_n 1, 1) := by decide +kernel
theorem dX5_rarest_100 : decode cX5_rarest 100 = .ok (.invokevirtual 179, 3) := by decide +kernel
theorem dX5_rarest_103 : decode cX5_rarest 103 = .ok (.ireturn, 1) := by decide +kernel
set_option maxRecDepth 20000 in
theorem ggX5_peeled_X2_hasSpan : GoodIn wsX5_peeled wsX2_hasSpan := goodIn_r _ [10, 11, 64, 65, 66] rfl (by decide +kernel)
set_option maxRecDepth 20000 in
theorem gX5_peeled_X2_hasSpan : GoodIn wsX5_peeled (wsV RX5 145 RX2 yX2_hasSpan wsX2_hasSpan) := goodIn_app (goodIn_r _ [6, 7, 8, 9] rfl (by decide +kernel)) ggX5_peeled_X2_hasSpan
set_option maxRecDepth 20000 in
theorem ggX5_peeled_X5_tallySpan : GoodIn wsX5_peeled wsX5_tallySpan := goodIn_r _ [16, 2, 17, 1, 18, 19, 20, 21, 22, 23, 24, 25, 26, 27, 28, 29, 30, 31, 32, 33, 34, 35, 36, 37, 38, 39, 44, 45, 46, 47, 48, 49, 50, 51, 52, 53, 54, 55, 64, 65, 66, 56, 57, 58, 59, 60, 61, 62, 63] rfl (by decide +kernel)
set_option maxRecDepth 20000 in
theorem gX5_peeled_X5_tallySpan : GoodIn wsX5_peeled (wsV RX5 173 RX5 yX5_tallySpan wsX5_tallySpan) := goodIn_app (goodIn_r _ [12, 13, 14, 15] rfl (by decide +kernel)) ggX5_peeled_X5_tallySpan
set_option maxRecDepth 20000 in
theorem ggX5_peeled_X3_order : GoodIn wsX5_peeled wsX3_order := goodIn_r _ [43, 24, 26, 36, 37, 38, 22, 39, 25, 29, 34, 35, 56, 57, 58, 59, 60, 61, 62, 63] rfl (by decide +kernel)
set_option maxRecDepth 20000 in
theorem gX5_peeled_X3_order : GoodIn wsX5_peeled (wsV RX5 185 RX3 yX3_order wsX3_order) := goodIn_app (goodIn_r _ [40, 41, 42, 22] rfl (by decide +kernel)) ggX5_peeled_X3_order
theorem dX5_peeled_0 : decode cX5_peeled 0 = .ok (.aload_n 0, 1) := by decide +kernel
theorem dX5_peeled_1 : decode cX5_peeled 1 = .ok (.getfield 26, 3) := by decide +kernel
theorem dX5_peeled_4 : decode cX5_peeled 4 = .ok (.iload_n 1, 1) := by decide +kernel
theorem dX5_peeled_5 : decode cX5_peeled 5 = .ok (.iload_n 2, 1) := by decide +kernel
theorem dX5_peeled_6 : decode cX5_peeled 6 = .ok (.invokevirtual 145, 3) := by decide +kernel
theorem dX5_peeled_9 : decode cX5_peeled 9 = .ok (.ifCond .eq 7, 3) := by decide +kernel
theorem dX5_peeled_12 : decode cX5_peeled 12 = .ok (.iload_n 3, 1) := by decide +kernel
theorem dX5_peeled_13 : decode cX5_peeled 13 = .ok (.ifCond .ge 5, 3) := by decide +kernel
theorem dX5_peeled_16 : decode cX5_peeled 16 = .ok (.iconst (-1), 1) := by decide +kernel
theorem dX5_peeled_17 : decode cX5_peeled 17 = .ok (.ireturn, 1) := by decide +kernel
theorem dX5_peeled_18 : decode cX5_peeled 18 = .ok (.aload_n 0, 1) := by decide +kernel
theorem dX5_peeled_19 : decode cX5_peeled 19 = .ok (.iload_n 1, 1) := by decide +kernel
theorem dX5_peeled_20 : decode cX5_peeled 20 = .ok (.iload_n 2, 1) := by decide +kernel
theorem dX5_peeled_21 : decode cX5_peeled 21 = .ok (.invokevirtual 173, 3) := by decide +kernel
theorem dX5_peeled_24 : decode cX5_peeled 24 = .ok (.iload_n 3, 1) := by decide +kernel
theorem dX5_peeled_25 : decode cX5_peeled 25 = .ok (.aload_n 0, 1) := by decide +kernel
theorem dX5_peeled_26 : decode cX5_peeled 26 = .ok (.getfield 43, 3) := by decide +kernel
theorem dX5_peeled_29 : decode cX5_peeled 29 = .ok (.getfield 182, 3) := by decide +kernel
theorem dX5_peeled_32 : decode cX5_peeled 32 = .ok (.if_icmp .le 6, 3) := by decide +kernel
theorem dX5_peeled_35 : decode cX5_peeled 35 = .ok (.bipush (-2), 2) := by decide +kernel
theorem dX5_peeled_37 : decode cX5_peeled 37 = .ok (.ireturn, 1) := by decide +kernel
theorem dX5_peeled_38 : decode cX5_peeled 38 = .ok (.aload_n 0, 1) := by decide +kernel
theorem dX5_peeled_39 : decode cX5_peeled 39 = .ok (.getfield 43, 3) := by decide +kernel
theorem dX5_peeled_42 : decode cX5_peeled 42 = .ok (.invokevirtual 185, 3) := by decide +kernel
theorem dX5_peeled_45 : decode cX5_peeled 45 = .ok (.iload_n 2, 1) := by decide +kernel
theorem dX5_peeled_46 : decode cX5_peeled 46 = .ok (.iload_n 1, 1) := by decide +kernel
theorem dX5_peeled_47 : decode cX5_peeled 47 = .ok (.isub, 1) := by decide +kernel
theorem dX5_peeled_48 : decode cX5_peeled 48 = .ok (.iconst 1, 1) := by decide +kernel
theorem dX5_peeled_49 : decode cX5_peeled 49 = .ok (.iadd, 1) := by decide +kernel
theorem dX5_peeled_50 : decode cX5_peeled 50 = .ok (.istore 4, 2) := by decide +kernel
theorem dX5_peeled_52 : decode cX5_peeled 52 = .ok (.iconst 0, 1) := by decide +kernel
theorem dX5_peeled_53 : decode cX5_peeled 53 = .ok (.istore 5, 2) := by decide +kernel
theorem dX5_peeled_55 : decode cX5_peeled 55 = .ok (.iload 5, 2) := by decide +kernel
theorem dX5_peeled_57 : decode cX5_peeled 57 = .ok (.iload_n 3, 1) := by decide +kernel
theorem dX5_peeled_58 : decode cX5_peeled 58 = .ok (.if_icmp .ge 32, 3) := by decide +kernel
theorem dX5_peeled_61 : decode cX5_peeled 61 = .ok (.iload 4, 2) := by decide +kernel
theorem dX5_peeled_63 : decode cX5_peeled 63 = .ok (.aload_n 0, 1) := by decide +kernel
theorem dX5_peeled_64 : decode cX5_peeled 64 = .ok (.getfield 43, 3) := by decide +kernel
theorem dX5_peeled_67 : decode cX5_peeled 67 = .ok (.getfield 190, 3) := by decide +kernel
theorem dX5_peeled_70 : decode cX5_peeled 70 = .ok (.aload_n 0, 1) := by decide +kernel
theorem dX5_peeled_71 : decode cX5_peeled 71 = .ok (.getfield 43, 3) := by decide +kernel
theorem dX5_peeled_74 : decode cX5_peeled 74 = .ok (.getfield 187, 3) := by decide +kernel
theorem dX5_peeled_77 : decode cX5_peeled 77 = .ok (.iload 5, 2) := by decide +kernel
theorem dX5_peeled_79 : decode cX5_peeled 79 = .ok (.iaload, 1) := by decide +kernel
theorem dX5_peeled_80 : decode cX5_peeled 80 = .ok (.iaload, 1) := by decide +kernel
theorem dX5_peeled_81 : decode cX5_peeled 81 = .ok (.isub, 1) := by decide +kernel
theorem dX5_peeled_82 : decode cX5_peeled 82 = .ok (.istore 4, 2) := by decide +kernel
theorem dX5_peeled_84 : decode cX5_peeled 84 = .ok (.iinc 5 1, 3) := by decide +kernel
theorem dX5_peeled_87 : decode cX5_peeled 87 = .ok (.goto (-32), 3) := by decide +kernel
theorem dX5_peeled_90 : decode cX5_peeled 90 = .ok (.iload 4, 2) := by decide +kernel
theorem dX5_peeled_92 : decode cX5_peeled 92 = .ok (.ireturn, 1) := by decide +kernel
set_option maxRecDepth 20000 in
theorem ggX5_needed_X2_hasSpan : GoodIn wsX5_needed wsX2_hasSpan := goodIn_r _ [8, 9, 69, 70, 71] rfl (by decide +kernel)
set_option maxRecDepth 20000 in
theorem gX5_needed_X2_hasSpan : GoodIn wsX5_needed (wsV RX5 145 RX2 yX2_hasSpan wsX2_hasSpan) := goodIn_app (goodIn_r _ [4, 5, 6, 7] rfl (by decide +kernel)) ggX5_needed_X2_hasSpan
set_option maxRecDepth 20000 in
theorem ggX5_needed_X5_isValue : GoodIn wsX5_needed wsX5_isValue := goodIn_r _ [13] rfl (by decide +kernel)
set_option maxRecDepth 20000 in
theorem gX5_needed_X5_isValue : GoodIn wsX5_needed (va_wsS RX5 128 yX5_isValue wsX5_isValue) := goodIn_app (goodIn_r _ [10, 11, 12] rfl (by decide +kernel)) ggX5_needed_X5_isValue
set_option maxRecDepth 20000 in
theorem ggX5_needed_X5_tallySpan : GoodIn wsX5_needed wsX5_tallySpan := goodIn_r _ [17, 2, 18, 1, 19, 20, 21, 22, 23, 24, 25, 26, 27, 28, 29, 30, 31, 32, 33, 34, 35, 36, 37, 38, 39, 40, 49, 50, 51, 52, 53, 54, 55, 56, 57, 58, 59, 60, 69, 70, 71, 61, 62, 63, 64, 65, 66, 67, 68] rfl (by decide +kernel)
set_option maxRecDepth 20000 in
theorem gX5_needed_X5_tallySpan : GoodIn wsX5_needed (wsV RX5 173 RX5 yX5_tallySpan wsX5_tallySpan) := goodIn_app (goodIn_r _ [14, 15, 16, 12] rfl (by decide +kernel)) ggX5_needed_X5_tallySpan
set_option maxRecDepth 20000 in
theorem ggX5_needed_X3_tooMany : GoodIn wsX5_needed wsX3_tooMany := goodIn_r _ [44, 25, 27, 26, 45, 46, 47, 48, 61, 62, 63, 64, 65, 66, 67, 68] rfl (by decide +kernel)
set_option maxRecDepth 20000 in
theorem gX5_needed_X3_tooMany : GoodIn wsX5_needed (wsV RX5 211 RX3 yX3_tooMany wsX3_tooMany) := goodIn_app (goodIn_r _ [41, 42, 43, 23] rfl (by decide +kernel)) ggX5_needed_X3_tooMany
theorem dX5_needed_0 : decode cX5_needed 0 = .ok (.aload_n 0, 1) := by decide +kernel
theorem dX5_needed_1 : decode cX5_needed 1 = .ok (.getfield 26, 3) := by decide +kernel
theorem dX5_needed_4 : decode cX5_needed 4 = .ok (.iload_n 1, 1) := by decide +kernel
theorem dX5_needed_5 : decode cX5_needed 5 = .ok (.iload_n 2, 1) := by decide +kernel
theorem dX5_needed_6 : decode cX5_needed 6 = .ok (.invokevirtual 145, 3) := by decide +kernel
theorem dX5_needed_9 : decode cX5_needed 9 = .ok (.ifCond .eq 10, 3) := by decide +kernel
theorem dX5_needed_12 : decode cX5_needed 12 = .ok (.iload_n 3, 1) := by decide +kernel
theorem dX5_needed_13 : decode cX5_needed 13 = .ok (.invokestatic 128, 3) := by decide +kernel
theorem dX5_needed_16 : decode cX5_needed 16 = .ok (.ifCond .ne 5, 3) := by decide +kernel
theorem dX5_needed_19 : decode cX5_needed 19 = .ok (.iconst (-1), 1) := by decide +kernel
theorem dX5_needed_20 : decode cX5_needed 20 = .ok (.ireturn, 1) := by decide +kernel
theorem dX5_needed_21 : decode cX5_needed 21 = .ok (.aload_n 0, 1) := by decide +kernel
theorem dX5_needed_22 : decode cX5_needed 22 = .ok (.iload_n 1, 1) := by decide +kernel
theorem dX5_needed_23 : decode cX5_needed 23 = .ok (.iload_n 2, 1) := by decide +kernel
theorem dX5_needed_24 : decode cX5_needed 24 = .ok (.invokevirtual 173, 3) := by decide +kernel
theorem dX5_needed_27 : decode cX5_needed 27 = .ok (.aload_n 0, 1) := by decide +kernel
theorem dX5_needed_28 : decode cX5_needed 28 = .ok (.getfield 43, 3) := by decide +kernel
theorem dX5_needed_31 : decode cX5_needed 31 = .ok (.getfield 190, 3) := by decide +kernel
theorem dX5_needed_34 : decode cX5_needed 34 = .ok (.iload_n 3, 1) := by decide +kernel
theorem dX5_needed_35 : decode cX5_needed 35 = .ok (.iaload, 1) := by decide +kernel
theorem dX5_needed_36 : decode cX5_needed 36 = .ok (.istore 4, 2) := by decide +kernel
theorem dX5_needed_38 : decode cX5_needed 38 = .ok (.iload_n 2, 1) := by decide +kernel
theorem dX5_needed_39 : decode cX5_needed 39 = .ok (.iload_n 1, 1) := by decide +kernel
theorem dX5_needed_40 : decode cX5_needed 40 = .ok (.isub, 1) := by decide +kernel
theorem dX5_needed_41 : decode cX5_needed 41 = .ok (.iconst 1, 1) := by decide +kernel
theorem dX5_needed_42 : decode cX5_needed 42 = .ok (.iadd, 1) := by decide +kernel
theorem dX5_needed_43 : decode cX5_needed 43 = .ok (.iload 4, 2) := by decide +kernel
theorem dX5_needed_45 : decode cX5_needed 45 = .ok (.isub, 1) := by decide +kernel
theorem dX5_needed_46 : decode cX5_needed 46 = .ok (.istore 5, 2) := by decide +kernel
theorem dX5_needed_48 : decode cX5_needed 48 = .ok (.iconst 0, 1) := by decide +kernel
theorem dX5_needed_49 : decode cX5_needed 49 = .ok (.istore 6, 2) := by decide +kernel
theorem dX5_needed_51 : decode cX5_needed 51 = .ok (.iload 6, 2) := by decide +kernel
theorem dX5_needed_53 : decode cX5_needed 53 = .ok (.iload 5, 2) := by decide +kernel
theorem dX5_needed_55 : decode cX5_needed 55 = .ok (.if_icmp .ge 32, 3) := by decide +kernel
theorem dX5_needed_58 : decode cX5_needed 58 = .ok (.aload_n 0, 1) := by decide +kernel
theorem dX5_needed_59 : decode cX5_needed 59 = .ok (.getfield 43, 3) := by decide +kernel
theorem dX5_needed_62 : decode cX5_needed 62 = .ok (.iload_n 3, 1) := by decide +kernel
theorem dX5_needed_63 : decode cX5_needed 63 = .ok (.iload 4, 2) := by decide +kernel
theorem dX5_needed_65 : decode cX5_needed 65 = .ok (.iload 6, 2) := by decide +kernel
theorem dX5_needed_67 : decode cX5_needed 67 = .ok (.iadd, 1) := by decide +kernel
theorem dX5_needed_68 : decode cX5_needed 68 = .ok (.iconst 1, 1) := by decide +kernel
theorem dX5_needed_69 : decode cX5_needed 69 = .ok (.isub, 1) := by decide +kernel
theorem dX5_needed_70 : decode cX5_needed 70 = .ok (.invokevirtual 211, 3) := by decide +kernel
theorem dX5_needed_73 : decode cX5_needed 73 = .ok (.iload 6, 2) := by decide +kernel
theorem dX5_needed_75 : decode cX5_needed 75 = .ok (.if_icmp .gt 6, 3) := by decide +kernel
theorem dX5_needed_78 : decode cX5_needed 78 = .ok (.iload 6, 2) := by decide +kernel
theorem dX5_needed_80 : decode cX5_needed 80 = .ok (.ireturn, 1) := by decide +kernel
theorem dX5_needed_81 : decode cX5_needed 81 = .ok (.iinc 6 1, 3) := by decide +kernel
theorem dX5_needed_84 : decode cX5_needed 84 = .ok (.goto (-33), 3) := by decide +kernel
theorem dX5_needed_87 : decode cX5_needed 87 = .ok (.iload 5, 2) := by decide +kernel
theorem dX5_needed_89 : decode cX5_needed 89 = .ok (.ireturn, 1) := by decide +kernel
set_option maxRecDepth 20000 in
theorem ggX5_pair_X5_blocksOf : GoodIn wsX5_pair wsX5_blocksOf := goodIn_r _ [9, 10, 2, 73, 74, 75, 53, 54, 55, 56, 57, 58, 59, 60, 61, 62, 63, 64] rfl (by decide +kernel)
set_option maxRecDepth 20000 in
theorem gX5_pair_X5_blocksOf : GoodIn wsX5_pair (wsV RX5 214 RX5 yX5_blocksOf wsX5_blocksOf) := goodIn_app (goodIn_r _ [5, 6, 7, 8] rfl (by decide +kernel)) ggX5_pair_X5_blocksOf
set_option maxRecDepth 20000 in
theorem ggX5_pair_X5_isBelow : GoodIn wsX5_pair wsX5_isBelow := goodIn_r _ [13] rfl (by decide +kernel)
set_option maxRecDepth 20000 in
theorem gX5_pair_X5_isBelow : GoodIn wsX5_pair (va_wsS RX5 170 yX5_isBelow wsX5_isBelow) := goodIn_app (goodIn_r _ [11, 12, 8] rfl (by decide +kernel)) ggX5_pair_X5_isBelow
set_option maxRecDepth 20000 in
theorem ggX5_pair_X5_blockEnd : GoodIn wsX5_pair wsX5_blockEnd := goodIn_r _ [17, 10, 2, 18, 19, 20, 21, 73, 74, 75, 53, 54, 55, 56, 57, 58, 59, 60, 61, 62, 63, 64] rfl (by decide +kernel)
set_option maxRecDepth 20000 in
theorem gX5_pair_X5_blockEnd : GoodIn wsX5_pair (wsV RX5 218 RX5 yX5_blockEnd wsX5_blockEnd) := goodIn_app (goodIn_r _ [14, 15, 16, 8] rfl (by decide +kernel)) ggX5_pair_X5_blockEnd
set_option maxRecDepth 20000 in
theorem ggX5_pair_X5_tallySpan : GoodIn wsX5_pair wsX5_tallySpan := goodIn_r _ [25, 3, 26, 1, 27, 28, 29, 30, 31, 32, 33, 34, 35, 36, 37, 38, 39, 40, 41, 42, 43, 44, 45, 46, 47, 48, 53, 54, 55, 56, 57, 58, 59, 60, 61, 62, 63, 64, 73, 74, 75, 65, 66, 67, 68, 69, 70, 71, 72] rfl (by decide +kernel)
set_option maxRecDepth 20000 in
theorem gX5_pair_X5_tallySpan : GoodIn wsX5_pair (wsV RX5 173 RX5 yX5_tallySpan wsX5_tallySpan) := goodIn_app (goodIn_r _ [22, 23, 24, 8] rfl (by decide +kernel)) ggX5_pair_X5_tallySpan
set_option maxRecDepth 20000 in
theorem ggX5_pair_X3_told : GoodIn wsX5_pair wsX3_told := goodIn_r _ [52, 34, 43, 44, 65, 66, 67, 68, 69, 70, 71, 72] rfl (by decide +kernel)
set_option maxRecDepth 20000 in
theorem gX5_pair_X3_told : GoodIn wsX5_pair (wsV RX5 179 RX3 yX3_told wsX3_told) := goodIn_app (goodIn_r _ [49, 50, 51, 31] rfl (by decide +kernel)) ggX5_pair_X3_told
theorem dX5_pair_0 : decode cX5_pair 0 = .ok (.iload_n 1, 1) := by decide +kernel
theorem dX5_pair_1 : decode cX5_pair 1 = .ok (.ifCond .lt 28, 3) := by decide +kernel
theorem dX5_pair_4 : decode cX5_pair 4 = .ok (.iload_n 1, 1) := by decide +kernel
theorem dX5_pair_5 : decode cX5_pair 5 = .ok (.iload_n 2, 1) := by decide +kernel
theorem dX5_pair_6 : decode cX5_pair 6 = .ok (.if_icmp .gt 23, 3) := by decide +kernel
theorem dX5_pair_9 : decode cX5_pair 9 = .ok (.iload_n 2, 1) := by decide +kernel
theorem dX5_pair_10 : decode cX5_pair 10 = .ok (.aload_n 0, 1) := by decide +kernel
theorem dX5_pair_11 : decode cX5_pair 11 = .ok (.aload_n 0, 1) := by decide +kernel
theorem dX5_pair_12 : decode cX5_pair 12 = .ok (.getfield 26, 3) := by decide +kernel
theorem dX5_pair_15 : decode cX5_pair 15 = .ok (.invokevirtual 214, 3) := by decide +kernel
theorem dX5_pair_18 : decode cX5_pair 18 = .ok (.if_icmp .ge 11, 3) := by decide +kernel
theorem dX5_pair_21 : decode cX5_pair 21 = .ok (.iload_n 3, 1) := by decide +kernel
theorem dX5_pair_22 : decode cX5_pair 22 = .ok (.iconst 2, 1) := by decide +kernel
theorem dX5_pair_23 : decode cX5_pair 23 = .ok (.invokestatic 170, 3) := by decide +kernel
theorem dX5_pair_26 : decode cX5_pair 26 = .ok (.ifCond .ne 5, 3) := by decide +kernel
theorem dX5_pair_29 : decode cX5_pair 29 = .ok (.iconst (-1), 1) := by decide +kernel
theorem dX5_pair_30 : decode cX5_pair 30 = .ok (.ireturn, 1) := by decide +kernel
theorem dX5_pair_31 : decode cX5_pair 31 = .ok (.aload_n 0, 1) := by decide +kernel
theorem dX5_pair_32 : decode cX5_pair 32 = .ok (.iload_n 1, 1) := by decide +kernel
theorem dX5_pair_33 : decode cX5_pair 33 = .ok (.aload_n 0, 1) := by decide +kernel
theorem dX5_pair_34 : decode cX5_pair 34 = .ok (.getfield 54, 3) := by decide +kernel
theorem dX5_pair_37 : decode cX5_pair 37 = .ok (.imul, 1) := by decide +kernel
theorem dX5_pair_38 : decode cX5_pair 38 = .ok (.aload_n 0, 1) := by decide +kernel
theorem dX5_pair_39 : decode cX5_pair 39 = .ok (.aload_n 0, 1) := by decide +kernel
theorem dX5_pair_40 : decode cX5_pair 40 = .ok (.getfield 26, 3) := by decide +kernel
theorem dX5_pair_43 : decode cX5_pair 43 = .ok (.iload_n 2, 1) := by decide +kernel
theorem dX5_pair_44 : decode cX5_pair 44 = .ok (.invokevirtual 218, 3) := by decide +kernel
theorem dX5_pair_47 : decode cX5_pair 47 = .ok (.iconst 1, 1) := by decide +kernel
theorem dX5_pair_48 : decode cX5_pair 48 = .ok (.isub, 1) := by decide +kernel
theorem dX5_pair_49 : decode cX5_pair 49 = .ok (.invokevirtual 173, 3) := by decide +kernel
theorem dX5_pair_52 : decode cX5_pair 52 = .ok (.aload_n 0, 1) := by decide +kernel
theorem dX5_pair_53 : decode cX5_pair 53 = .ok (.getfield 43, 3) := by decide +kernel
theorem dX5_pair_56 : decode cX5_pair 56 = .ok (.aload_n 0, 1) := by decide +kernel
theorem dX5_pair_57 : decode cX5_pair 57 = .ok (.getfield 43, 3) := by decide +kernel
theorem dX5_pair_60 : decode cX5_pair 60 = .ok (.getfield 176, 3) := by decide +kernel
theorem dX5_pair_63 : decode cX5_pair 63 = .ok (.iload_n 3, 1) := by decide +kernel
theorem dX5_pair_64 : decode cX5_pair 64 = .ok (.iconst 0, 1) := by decide +kernel
theorem dX5_pair_65 : decode cX5_pair 65 = .ok (.invokevirtual 179, 3) := by decide +kernel
theorem dX5_pair_68 : decode cX5_pair 68 = .ok (.ireturn, 1) := by decide +kernel
set_option maxRecDepth 20000 in
theorem ggX5_candidate_X2_hasSpan : GoodIn wsX5_candidate wsX2_hasSpan := goodIn_r _ [11, 12, 76, 77, 78] rfl (by decide +kernel)
set_option maxRecDepth 20000 in
theorem gX5_candidate_X2_hasSpan : GoodIn wsX5_candidate (wsV RX5 145 RX2 yX2_hasSpan wsX2_hasSpan) := goodIn_app (goodIn_r _ [7, 8, 9, 10] rfl (by decide +kernel)) ggX5_candidate_X2_hasSpan
set_option maxRecDepth 20000 in
theorem ggX5_candidate_X5_markCandidates : GoodIn wsX5_candidate wsX5_markCandidates := goodIn_r _ [17, 18, 1, 19, 4, 20, 21, 22, 23, 24, 25, 26, 27, 28, 29, 30, 31, 32, 33, 34, 35, 16, 36, 2, 37, 38, 39, 40, 41, 42, 43, 44, 45, 46, 47, 48, 49, 50, 51, 56, 57, 58, 59, 60, 61, 62, 63, 64, 65, 66, 67, 76, 77, 78, 68, 69, 70, 71, 72, 73, 74, 75] rfl (by decide +kernel)
set_option maxRecDepth 20000 in
theorem gX5_candidate_X5_markCandidates : GoodIn wsX5_candidate (wsV RX5 222 RX5 yX5_markCandidates wsX5_markCandidates) := goodIn_app (goodIn_r _ [13, 14, 15, 16] rfl (by decide +kernel)) ggX5_candidate_X5_markCandidates
set_option maxRecDepth 20000 in
theorem ggX5_candidate_X5_tallySpan : GoodIn wsX5_candidate wsX5_tallySpan := goodIn_r _ [41, 2, 20, 1, 21, 22, 23, 24, 25, 26, 27, 28, 29, 30, 31, 32, 42, 43, 44, 45, 46, 47, 48, 49, 50, 51, 56, 57, 58, 59, 60, 61, 62, 63, 64, 65, 66, 67, 76, 77, 78, 68, 69, 70, 71, 72, 73, 74, 75] rfl (by decide +kernel)
set_option maxRecDepth 20000 in
theorem gX5_candidate_X5_tallySpan : GoodIn wsX5_candidate (wsV RX5 173 RX5 yX5_tallySpan wsX5_tallySpan) := goodIn_app (goodIn_r _ [38, 39, 40, 16] rfl (by decide +kernel)) ggX5_candidate_X5_tallySpan
set_option maxRecDepth 20000 in
theorem ggX5_candidate_X3_order : GoodIn wsX5_candidate wsX3_order := goodIn_r _ [55, 27, 29, 48, 49, 50, 25, 51, 28, 32, 46, 47, 68, 69, 70, 71, 72, 73, 74, 75] rfl (by decide +kernel)
set_option maxRecDepth 20000 in
theorem gX5_candidate_X3_order : GoodIn wsX5_candidate (wsV RX5 185 RX3 yX3_order wsX3_order) := goodIn_app (goodIn_r _ [52, 53, 54, 25] rfl (by decide +kernel)) ggX5_candidate_X3_order
theorem dX5_candidate_0 : decode cX5_candidate 0 = .ok (.aload_n 0, 1) := by decide +kernel
theorem dX5_candidate_1 : decode cX5_candidate 1 = .ok (.getfield 26, 3) := by decide +kernel
theorem dX5_candidate_4 : decode cX5_candidate 4 = .ok (.iload_n 1, 1) := by decide +kernel
theorem dX5_candidate_5 : decode cX5_candidate 5 = .ok (.iload_n 2, 1) := by decide +kernel
theorem dX5_candidate_6 : decode cX5_candidate 6 = .ok (.invokevirtual 145, 3) := by decide +kernel
theorem dX5_candidate_9 : decode cX5_candidate 9 = .ok (.ifCond .eq 8, 3) := by decide +kernel
theorem dX5_candidate_12 : decode cX5_candidate 12 = .ok (.iload_n 3, 1) := by decide +kernel
theorem dX5_candidate_13 : decode cX5_candidate 13 = .ok (.iconst (-1), 1) := by decide +kernel
theorem dX5_candidate_14 : decode cX5_candidate 14 = .ok (.if_icmp .ge 5, 3) := by decide +kernel
theorem dX5_candidate_17 : decode cX5_candidate 17 = .ok (.iconst (-1), 1) := by decide +kernel
theorem dX5_candidate_18 : decode cX5_candidate 18 = .ok (.ireturn, 1) := by decide +kernel
theorem dX5_candidate_19 : decode cX5_candidate 19 = .ok (.aload_n 0, 1) := by decide +kernel
theorem dX5_candidate_20 : decode cX5_candidate 20 = .ok (.iload_n 1, 1) := by decide +kernel
theorem dX5_candidate_21 : decode cX5_candidate 21 = .ok (.iload_n 2, 1) := by decide +kernel
theorem dX5_candidate_22 : decode cX5_candidate 22 = .ok (.invokevirtual 222, 3) := by decide +kernel
theorem dX5_candidate_25 : decode cX5_candidate 25 = .ok (.aload_n 0, 1) := by decide +kernel
theorem dX5_candidate_26 : decode cX5_candidate 26 = .ok (.iload_n 1, 1) := by decide +kernel
theorem dX5_candidate_27 : decode cX5_candidate 27 = .ok (.iload_n 2, 1) := by decide +kernel
theorem dX5_candidate_28 : decode cX5_candidate 28 = .ok (.invokevirtual 173, 3) := by decide +kernel
theorem dX5_candidate_31 : decode cX5_candidate 31 = .ok (.aload_n 0, 1) := by decide +kernel
theorem dX5_candidate_32 : decode cX5_candidate 32 = .ok (.getfield 43, 3) := by decide +kernel
theorem dX5_candidate_35 : decode cX5_candidate 35 = .ok (.invokevirtual 185, 3) := by decide +kernel
theorem dX5_candidate_38 : decode cX5_candidate 38 = .ok (.iconst 0, 1) := by decide +kernel
theorem dX5_candidate_39 : decode cX5_candidate 39 = .ok (.istore 4, 2) := by decide +kernel
theorem dX5_candidate_41 : decode cX5_candidate 41 = .ok (.iconst 0, 1) := by decide +kernel
theorem dX5_candidate_42 : decode cX5_candidate 42 = .ok (.istore 5, 2) := by decide +kernel
theorem dX5_candidate_44 : decode cX5_candidate 44 = .ok (.iload 5, 2) := by decide +kernel
theorem dX5_candidate_46 : decode cX5_candidate 46 = .ok (.aload_n 0, 1) := by decide +kernel
theorem dX5_candidate_47 : decode cX5_candidate 47 = .ok (.getfield 43, 3) := by decide +kernel
theorem dX5_candidate_50 : decode cX5_candidate 50 = .ok (.getfield 182, 3) := by decide +kernel
theorem dX5_candidate_53 : decode cX5_candidate 53 = .ok (.if_icmp .ge 50, 3) := by decide +kernel
theorem dX5_candidate_56 : decode cX5_candidate 56 = .ok (.aload_n 0, 1) := by decide +kernel
theorem dX5_candidate_57 : decode cX5_candidate 57 = .ok (.getfield 47, 3) := by decide +kernel
theorem dX5_candidate_60 : decode cX5_candidate 60 = .ok (.getfield 190, 3) := by decide +kernel
theorem dX5_candidate_63 : decode cX5_candidate 63 = .ok (.aload_n 0, 1) := by decide +kernel
theorem dX5_candidate_64 : decode cX5_candidate 64 = .ok (.getfield 43, 3) := by decide +kernel
theorem dX5_candidate_67 : decode cX5_candidate 67 = .ok (.getfield 187, 3) := by decide +kernel
theorem dX5_candidate_70 : decode cX5_candidate 70 = .ok (.iload 5, 2) := by decide +kernel
theorem dX5_candidate_72 : decode cX5_candidate 72 = .ok (.iaload, 1) := by decide +kernel
theorem dX5_candidate_73 : decode cX5_candidate 73 = .ok (.iaload, 1) := by decide +kernel
theorem dX5_candidate_74 : decode cX5_candidate 74 = .ok (.ifCond .le 23, 3) := by decide +kernel
theorem dX5_candidate_77 : decode cX5_candidate 77 = .ok (.iload 4, 2) := by decide +kernel
theorem dX5_candidate_79 : decode cX5_candidate 79 = .ok (.iload_n 3, 1) := by decide +kernel
theorem dX5_candidate_80 : decode cX5_candidate 80 = .ok (.if_icmp .ne 14, 3) := by decide +kernel
theorem dX5_candidate_83 : decode cX5_candidate 83 = .ok (.aload_n 0, 1) := by decide +kernel
theorem dX5_candidate_84 : decode cX5_candidate 84 = .ok (.getfield 43, 3) := by decide +kernel
theorem dX5_candidate_87 : decode cX5_candidate 87 = .ok (.getfield 187, 3) := by decide +kernel
theorem dX5_candidate_90 : decode cX5_candidate 90 = .ok (.iload 5, 2) := by decide +kernel
theorem dX5_candidate_92 : decode cX5_candidate 92 = .ok (.iaload, 1) := by decide +kernel
theorem dX5_candidate_93 : decode cX5_candidate 93 = .ok (.ireturn, 1) := by decide +kernel
theorem dX5_candidate_94 : decode cX5_candidate 94 = .ok (.iinc 4 1, 3) := by decide +kernel
theorem dX5_candidate_97 : decode cX5_candidate 97 = .ok (.iinc 5 1, 3) := by decide +kernel
theorem dX5_candidate_100 : decode cX5_candidate 100 = .ok (.goto (-56), 3) := by decide +kernel
theorem dX5_candidate_103 : decode cX5_candidate 103 = .ok (.iload_n 3, 1) := by decide +kernel
theorem dX5_candidate_104 : decode cX5_candidate 104 = .ok (.iconst (-1), 1) := by decide +kernel
theorem dX5_candidate_105 : decode cX5_candidate 105 = .ok (.if_icmp .ne 8, 3) := by decide +kernel
theorem dX5_candidate_108 : decode cX5_candidate 108 = .ok (.iload 4, 2) := by decide +kernel
theorem dX5_candidate_110 : decode cX5_candidate 110 = .ok (.goto 5, 3) := by decide +kernel
theorem dX5_candidate_113 : decode cX5_candidate 113 = .ok (.bipush (-2), 2) := by decide +kernel
theorem dX5_candidate_115 : decode cX5_candidate 115 = .ok (.ireturn, 1) := by decide +kernel
set_option maxRecDepth 20000 in
theorem ggX5_at_X5_isValue : GoodIn wsX5_at wsX5_isValue := goodIn_r _ [7] rfl (by decide +kernel)
set_option maxRecDepth 20000 in
theorem gX5_at_X5_isValue : GoodIn wsX5_at (va_wsS RX5 128 yX5_isValue wsX5_isValue) := goodIn_app (goodIn_r _ [4, 5, 6] rfl (by decide +kernel)) ggX5_at_X5_isValue
theorem dX5_at_0 : decode cX5_at 0 = .ok (.iload_n 1, 1) := by decide +kernel
theorem dX5_at_1 : decode cX5_at 1 = .ok (.invokestatic 128, 3) := by decide +kernel
theorem dX5_at_4 : decode cX5_at 4 = .ok (.ifCond .eq 7, 3) := by decide +kernel
theorem dX5_at_7 : decode cX5_at 7 = .ok (.iload_n 2, 1) := by decide +kernel
theorem dX5_at_8 : decode cX5_at 8 = .ok (.ifCond .ge 5, 3) := by decide +kernel
theorem dX5_at_11 : decode cX5_at 11 = .ok (.iconst (-1), 1) := by decide +kernel
theorem dX5_at_12 : decode cX5_at 12 = .ok (.ireturn, 1) := by decide +kernel
theorem dX5_at_13 : decode cX5_at 13 = .ok (.iload_n 2, 1) := by decide +kernel
theorem dX5_at_14 : decode cX5_at 14 = .ok (.istore_n 3, 1) := by decide +kernel
theorem dX5_at_15 : decode cX5_at 15 = .ok (.iconst 0, 1) := by decide +kernel
theorem dX5_at_16 : decode cX5_at 16 = .ok (.istore 4, 2) := by decide +kernel
theorem dX5_at_18 : decode cX5_at 18 = .ok (.iload 4, 2) := by decide +kernel
theorem dX5_at_20 : decode cX5_at 20 = .ok (.aload_n 0, 1) := by decide +kernel
theorem dX5_at_21 : decode cX5_at 21 = .ok (.getfield 26, 3) := by decide +kernel
theorem dX5_at_24 : decode cX5_at 24 = .ok (.getfield 135, 3) := by decide +kernel
theorem dX5_at_27 : decode cX5_at 27 = .ok (.if_icmp .ge 33, 3) := by decide +kernel
theorem dX5_at_30 : decode cX5_at 30 = .ok (.aload_n 0, 1) := by decide +kernel
theorem dX5_at_31 : decode cX5_at 31 = .ok (.getfield 26, 3) := by decide +kernel
theorem dX5_at_34 : decode cX5_at 34 = .ok (.getfield 106, 3) := by decide +kernel
theorem dX5_at_37 : decode cX5_at 37 = .ok (.iload 4, 2) := by decide +kernel
theorem dX5_at_39 : decode cX5_at 39 = .ok (.iaload, 1) := by decide +kernel
theorem dX5_at_40 : decode cX5_at 40 = .ok (.iload_n 1, 1) := by decide +kernel
theorem dX5_at_41 : decode cX5_at 41 = .ok (.if_icmp .ne 13, 3) := by decide +kernel
theorem dX5_at_44 : decode cX5_at 44 = .ok (.iload_n 3, 1) := by decide +kernel
theorem dX5_at_45 : decode cX5_at 45 = .ok (.ifCond .ne 6, 3) := by decide +kernel
theorem dX5_at_48 : decode cX5_at 48 = .ok (.iload 4, 2) := by decide +kernel
theorem dX5_at_50 : decode cX5_at 50 = .ok (.ireturn, 1) := by decide +kernel
theorem dX5_at_51 : decode cX5_at 51 = .ok (.iinc 3 (-1), 3) := by decide +kernel
theorem dX5_at_54 : decode cX5_at 54 = .ok (.iinc 4 1, 3) := by decide +kernel
theorem dX5_at_57 : decode cX5_at 57 = .ok (.goto (-39), 3) := by decide +kernel
theorem dX5_at_60 : decode cX5_at 60 = .ok (.bipush (-2), 2) := by decide +kernel
theorem dX5_at_62 : decode cX5_at 62 = .ok (.ireturn, 1) := by decide +kernel
set_option maxRecDepth 20000 in
theorem ggX5_follow_X5_isValue : GoodIn wsX5_follow wsX5_isValue := goodIn_r _ [5] rfl (by decide +kernel)
set_option maxRecDepth 20000 in
theorem gX5_follow_X5_isValue : GoodIn wsX5_follow (va_wsS RX5 128 yX5_isValue wsX5_isValue) := goodIn_app (goodIn_r _ [2, 3, 4] rfl (by decide +kernel)) ggX5_follow_X5_isValue
set_option maxRecDepth 20000 in
theorem ggX5_follow_X2_has : GoodIn wsX5_follow wsX2_has := goodIn_r _ [10, 11, 37, 38, 39] rfl (by decide +kernel)
set_option maxRecDepth 20000 in
theorem gX5_follow_X2_has : GoodIn wsX5_follow (wsV RX5 95 RX2 yX2_has wsX2_has) := goodIn_app (goodIn_r _ [6, 7, 8, 9] rfl (by decide +kernel)) ggX5_follow_X2_has
set_option maxRecDepth 20000 in
theorem ggX5_follow_X2_upTo : GoodIn wsX5_follow wsX2_upTo := goodIn_r _ [15, 16, 37, 38, 39] rfl (by decide +kernel)
set_option maxRecDepth 20000 in
theorem gX5_follow_X2_upTo : GoodIn wsX5_follow (wsV RX5 120 RX2 yX2_upTo wsX2_upTo) := goodIn_app (goodIn_r _ [12, 13, 14, 9] rfl (by decide +kernel)) ggX5_follow_X2_upTo
set_option maxRecDepth 20000 in
theorem ggX5_follow_X2_from : GoodIn wsX5_follow wsX2_from := goodIn_r _ [20, 21, 22, 23, 9, 24, 11, 16, 37, 38, 39] rfl (by decide +kernel)
set_option maxRecDepth 20000 in
theorem gX5_follow_X2_from : GoodIn wsX5_follow (wsV RX5 116 RX2 yX2_from wsX2_from) := goodIn_app (goodIn_r _ [17, 18, 19, 9] rfl (by decide +kernel)) ggX5_follow_X2_from
theorem dX5_follow_0 : decode cX5_follow 0 = .ok (.iload_n 1, 1) := by decide +kernel
theorem dX5_follow_1 : decode cX5_follow 1 = .ok (.invokestatic 128, 3) := by decide +kernel
theorem dX5_follow_4 : decode cX5_follow 4 = .ok (.ifCond .eq 14, 3) := by decide +kernel
theorem dX5_follow_7 : decode cX5_follow 7 = .ok (.aload_n 0, 1) := by decide +kernel
theorem dX5_follow_8 : decode cX5_follow 8 = .ok (.getfield 26, 3) := by decide +kernel
theorem dX5_follow_11 : decode cX5_follow 11 = .ok (.iload_n 2, 1) := by decide +kernel
theorem dX5_follow_12 : decode cX5_follow 12 = .ok (.invokevirtual 95, 3) := by decide +kernel
theorem dX5_follow_15 : decode cX5_follow 15 = .ok (.ifCond .ne 5, 3) := by decide +kernel
theorem dX5_follow_18 : decode cX5_follow 18 = .ok (.iconst (-1), 1) := by decide +kernel
theorem dX5_follow_19 : decode cX5_follow 19 = .ok (.ireturn, 1) := by decide +kernel
theorem dX5_follow_20 : decode cX5_follow 20 = .ok (.iload_n 3, 1) := by decide +kernel
theorem dX5_follow_21 : decode cX5_follow 21 = .ok (.ifCond .eq 15, 3) := by decide +kernel
theorem dX5_follow_24 : decode cX5_follow 24 = .ok (.aload_n 0, 1) := by decide +kernel
theorem dX5_follow_25 : decode cX5_follow 25 = .ok (.getfield 26, 3) := by decide +kernel
theorem dX5_follow_28 : decode cX5_follow 28 = .ok (.iload_n 1, 1) := by decide +kernel
theorem dX5_follow_29 : decode cX5_follow 29 = .ok (.iload_n 2, 1) := by decide +kernel
theorem dX5_follow_30 : decode cX5_follow 30 = .ok (.invokevirtual 120, 3) := by decide +kernel
theorem dX5_follow_33 : decode cX5_follow 33 = .ok (.goto 12, 3) := by decide +kernel
theorem dX5_follow_36 : decode cX5_follow 36 = .ok (.aload_n 0, 1) := by decide +kernel
theorem dX5_follow_37 : decode cX5_follow 37 = .ok (.getfield 26, 3) := by decide +kernel
theorem dX5_follow_40 : decode cX5_follow 40 = .ok (.iload_n 1, 1) := by decide +kernel
theorem dX5_follow_41 : decode cX5_follow 41 = .ok (.iload_n 2, 1) := by decide +kernel
theorem dX5_follow_42 : decode cX5_follow 42 = .ok (.invokevirtual 116, 3) := by decide +kernel
theorem dX5_follow_45 : decode cX5_follow 45 = .ok (.ireturn, 1) := by decide +kernel
set_option maxRecDepth 20000 in
theorem ggX5_gap_X5_isValue : GoodIn wsX5_gap wsX5_isValue := goodIn_r _ [11] rfl (by decide +kernel)
set_option maxRecDepth 20000 in
theorem gX5_gap_X5_isValue : GoodIn wsX5_gap (va_wsS RX5 128 yX5_isValue wsX5_isValue) := goodIn_app (goodIn_r _ [8, 9, 10] rfl (by decide +kernel)) ggX5_gap_X5_isValue
theorem dX5_gap_0 : decode cX5_gap 0 = .ok (.iload_n 1, 1) := by decide +kernel
theorem dX5_gap_1 : decode cX5_gap 1 = .ok (.invokestatic 128, 3) := by decide +kernel
theorem dX5_gap_4 : decode cX5_gap 4 = .ok (.ifCond .ne 5, 3) := by decide +kernel
theorem dX5_gap_7 : decode cX5_gap 7 = .ok (.iconst (-1), 1) := by decide +kernel
theorem dX5_gap_8 : decode cX5_gap 8 = .ok (.ireturn, 1) := by decide +kernel
theorem dX5_gap_9 : decode cX5_gap 9 = .ok (.bipush (-2), 2) := by decide +kernel
theorem dX5_gap_11 : decode cX5_gap 11 = .ok (.istore_n 2, 1) := by decide +kernel
theorem dX5_gap_12 : decode cX5_gap 12 = .ok (.iconst (-1), 1) := by decide +kernel
theorem dX5_gap_13 : decode cX5_gap 13 = .ok (.istore_n 3, 1) := by decide +kernel
theorem dX5_gap_14 : decode cX5_gap 14 = .ok (.iconst 0, 1) := by decide +kernel
theorem dX5_gap_15 : decode cX5_gap 15 = .ok (.istore 4, 2) := by decide +kernel
theorem dX5_gap_17 : decode cX5_gap 17 = .ok (.iload 4, 2) := by decide +kernel
theorem dX5_gap_19 : decode cX5_gap 19 = .ok (.aload_n 0, 1) := by decide +kernel
theorem dX5_gap_20 : decode cX5_gap 20 = .ok (.getfield 26, 3) := by decide +kernel
theorem dX5_gap_23 : decode cX5_gap 23 = .ok (.getfield 135, 3) := by decide +kernel
theorem dX5_gap_26 : decode cX5_gap 26 = .ok (.if_icmp .ge 40, 3) := by decide +kernel
theorem dX5_gap_29 : decode cX5_gap 29 = .ok (.aload_n 0, 1) := by decide +kernel
theorem dX5_gap_30 : decode cX5_gap 30 = .ok (.getfield 26, 3) := by decide +kernel
theorem dX5_gap_33 : decode cX5_gap 33 = .ok (.getfield 106, 3) := by decide +kernel
theorem dX5_gap_36 : decode cX5_gap 36 = .ok (.iload 4, 2) := by decide +kernel
theorem dX5_gap_38 : decode cX5_gap 38 = .ok (.iaload, 1) := by decide +kernel
theorem dX5_gap_39 : decode cX5_gap 39 = .ok (.iload_n 1, 1) := by decide +kernel
theorem dX5_gap_40 : decode cX5_gap 40 = .ok (.if_icmp .ne 20, 3) := by decide +kernel
theorem dX5_gap_43 : decode cX5_gap 43 = .ok (.iload_n 3, 1) := by decide +kernel
theorem dX5_gap_44 : decode cX5_gap 44 = .ok (.iconst (-1), 1) := by decide +kernel
theorem dX5_gap_45 : decode cX5_gap 45 = .ok (.if_icmp .eq 12, 3) := by decide +kernel
theorem dX5_gap_48 : decode cX5_gap 48 = .ok (.iload_n 2, 1) := by decide +kernel
theorem dX5_gap_49 : decode cX5_gap 49 = .ok (.iload 4, 2) := by decide +kernel
theorem dX5_gap_51 : decode cX5_gap 51 = .ok (.iload_n 3, 1) := by decide +kernel
theorem dX5_gap_52 : decode cX5_gap 52 = .ok (.isub, 1) := by decide +kernel
theorem dX5_gap_53 : decode cX5_gap 53 = .ok (.invokestatic 203, 3) := by decide +kernel
theorem dX5_gap_56 : decode cX5_gap 56 = .ok (.istore_n 2, 1) := by decide +kernel
theorem dX5_gap_57 : decode cX5_gap 57 = .ok (.iload 4, 2) := by decide +kernel
theorem dX5_gap_59 : decode cX5_gap 59 = .ok (.istore_n 3, 1) := by decide +kernel
theorem dX5_gap_60 : decode cX5_gap 60 = .ok (.iinc 4 1, 3) := by decide +kernel
theorem dX5_gap_63 : decode cX5_gap 63 = .ok (.goto (-46), 3) := by decide +kernel
theorem dX5_gap_66 : decode cX5_gap 66 = .ok (.iload_n 2, 1) := by decide +kernel
theorem dX5_gap_67 : decode cX5_gap 67 = .ok (.ireturn, 1) := by decide +kernel
set_option maxRecDepth 20000 in
theorem ggX5_median_X2_hasSpan : GoodIn wsX5_median wsX2_hasSpan := goodIn_r _ [8, 9, 58, 59, 60] rfl (by decide +kernel)
set_option maxRecDepth 20000 in
theorem gX5_median_X2_hasSpan : GoodIn wsX5_median (wsV RX5 145 RX2 yX2_hasSpan wsX2_hasSpan) := goodIn_app (goodIn_r _ [4, 5, 6, 7] rfl (by decide +kernel)) ggX5_median_X2_hasSpan
set_option maxRecDepth 20000 in
theorem ggX5_median_X5_tallySpan : GoodIn wsX5_median wsX5_tallySpan := goodIn_r _ [14, 2, 15, 1, 16, 17, 18, 19, 20, 21, 22, 23, 24, 25, 26, 27, 28, 29, 30, 31, 32, 33, 34, 35, 36, 37, 38, 39, 40, 41, 42, 43, 44, 45, 46, 47, 48, 49, 58, 59, 60, 50, 51, 52, 53, 54, 55, 56, 57] rfl (by decide +kernel)
set_option maxRecDepth 20000 in
theorem gX5_median_X5_tallySpan : GoodIn wsX5_median (wsV RX5 173 RX5 yX5_tallySpan wsX5_tallySpan) := goodIn_app (goodIn_r _ [10, 11, 12, 13] rfl (by decide +kernel)) ggX5_median_X5_tallySpan
theorem dX5_median_0 : decode cX5_median 0 = .ok (.aload_n 0, 1) := by decide +kernel
theorem dX5_median_1 : decode cX5_median 1 = .ok (.getfield 26, 3) := by decide +kernel
theorem dX5_median_4 : decode cX5_median 4 = .ok (.iload_n 1, 1) := by decide +kernel
theorem dX5_median_5 : decode cX5_median 5 = .ok (.iload_n 2, 1) := by decide +kernel
theorem dX5_median_6 : decode cX5_median 6 = .ok (.invokevirtual 145, 3) := by decide +kernel
theorem dX5_median_9 : decode cX5_median 9 = .ok (.ifCond .ne 5, 3) := by decide +kernel
theorem dX5_median_12 : decode cX5_median 12 = .ok (.iconst (-1), 1) := by decide +kernel
theorem dX5_median_13 : decode cX5_median 13 = .ok (.ireturn, 1) := by decide +kernel
theorem dX5_median_14 : decode cX5_median 14 = .ok (.aload_n 0, 1) := by decide +kernel
theorem dX5_median_15 : decode cX5_median 15 = .ok (.iload_n 1, 1) := by decide +kernel
theorem dX5_median_16 : decode cX5_median 16 = .ok (.iload_n 2, 1) := by decide +kernel
theorem dX5_median_17 : decode cX5_median 17 = .ok (.invokevirtual 173, 3) := by decide +kernel
theorem dX5_median_20 : decode cX5_median 20 = .ok (.iload_n 2, 1) := by decide +kernel
theorem dX5_median_21 : decode cX5_median 21 = .ok (.iload_n 1, 1) := by decide +kernel
theorem dX5_median_22 : decode cX5_median 22 = .ok (.isub, 1) := by decide +kernel
theorem dX5_median_23 : decode cX5_median 23 = .ok (.iconst 2, 1) := by decide +kernel
theorem dX5_median_24 : decode cX5_median 24 = .ok (.idiv, 1) := by decide +kernel
theorem dX5_median_25 : decode cX5_median 25 = .ok (.istore_n 3, 1) := by decide +kernel
theorem dX5_median_26 : decode cX5_median 26 = .ok (.iconst 0, 1) := by decide +kernel
theorem dX5_median_27 : decode cX5_median 27 = .ok (.istore 4, 2) := by decide +kernel
theorem dX5_median_29 : decode cX5_median 29 = .ok (.iload 4, 2) := by decide +kernel
theorem dX5_median_31 : decode cX5_median 31 = .ok (.sipush 1000, 3) := by decide +kernel
theorem dX5_median_34 : decode cX5_median 34 = .ok (.if_icmp .ge 29, 3) := by decide +kernel
theorem dX5_median_37 : decode cX5_median 37 = .ok (.iload_n 3, 1) := by decide +kernel
theorem dX5_median_38 : decode cX5_median 38 = .ok (.aload_n 0, 1) := by decide +kernel
theorem dX5_median_39 : decode cX5_median 39 = .ok (.getfield 43, 3) := by decide +kernel
theorem dX5_median_42 : decode cX5_median 42 = .ok (.getfield 190, 3) := by decide +kernel
theorem dX5_median_45 : decode cX5_median 45 = .ok (.iload 4, 2) := by decide +kernel
theorem dX5_median_47 : decode cX5_median 47 = .ok (.iaload, 1) := by decide +kernel
theorem dX5_median_48 : decode cX5_median 48 = .ok (.isub, 1) := by decide +kernel
theorem dX5_median_49 : decode cX5_median 49 = .ok (.istore_n 3, 1) := by decide +kernel
theorem dX5_median_50 : decode cX5_median 50 = .ok (.iload_n 3, 1) := by decide +kernel
theorem dX5_median_51 : decode cX5_median 51 = .ok (.ifCond .ge 6, 3) := by decide +kernel
theorem dX5_median_54 : decode cX5_median 54 = .ok (.iload 4, 2) := by decide +kernel
theorem dX5_median_56 : decode cX5_median 56 = .ok (.ireturn, 1) := by decide +kernel
theorem dX5_median_57 : decode cX5_median 57 = .ok (.iinc 4 1, 3) := by decide +kernel
theorem dX5_median_60 : decode cX5_median 60 = .ok (.goto (-31), 3) := by decide +kernel
theorem dX5_median_63 : decode cX5_median 63 = .ok (.iconst (-1), 1) := by decide +kernel
theorem dX5_median_64 : decode cX5_median 64 = .ok (.ireturn, 1) := by decide +kernel
set_option maxRecDepth 20000 in
theorem ggX5_twisted_X2_hasSpan : GoodIn wsX5_twisted wsX2_hasSpan := goodIn_r _ [7, 8, 21, 22, 23] rfl (by decide +kernel)
set_option maxRecDepth 20000 in
theorem gX5_twisted_X2_hasSpan : GoodIn wsX5_twisted (wsV RX5 145 RX2 yX2_hasSpan wsX2_hasSpan) := goodIn_app (goodIn_r _ [3, 4, 5, 6] rfl (by decide +kernel)) ggX5_twisted_X2_hasSpan
theorem dX5_twisted_0 : decode cX5_twisted 0 = .ok (.aload_n 0, 1) := by decide +kernel
theorem dX5_twisted_1 : decode cX5_twisted 1 = .ok (.getfield 26, 3) := by decide +kernel
theorem dX5_twisted_4 : decode cX5_twisted 4 = .ok (.iload_n 1, 1) := by decide +kernel
theorem dX5_twisted_5 : decode cX5_twisted 5 = .ok (.iload_n 2, 1) := by decide +kernel
theorem dX5_twisted_6 : decode cX5_twisted 6 = .ok (.invokevirtual 145, 3) := by decide +kernel
theorem dX5_twisted_9 : decode cX5_twisted 9 = .ok (.ifCond .ne 5, 3) := by decide +kernel
theorem dX5_twisted_12 : decode cX5_twisted 12 = .ok (.iconst (-1), 1) := by decide +kernel
theorem dX5_twisted_13 : decode cX5_twisted 13 = .ok (.ireturn, 1) := by decide +kernel
theorem dX5_twisted_14 : decode cX5_twisted 14 = .ok (.iconst 0, 1) := by decide +kernel
theorem dX5_twisted_15 : decode cX5_twisted 15 = .ok (.istore_n 3, 1) := by decide +kernel
theorem dX5_twisted_16 : decode cX5_twisted 16 = .ok (.iload_n 1, 1) := by decide +kernel
theorem dX5_twisted_17 : decode cX5_twisted 17 = .ok (.istore 4, 2) := by decide +kernel
theorem dX5_twisted_19 : decode cX5_twisted 19 = .ok (.iload 4, 2) := by decide +kernel
theorem dX5_twisted_21 : decode cX5_twisted 21 = .ok (.iload_n 2, 1) := by decide +kernel
theorem dX5_twisted_22 : decode cX5_twisted 22 = .ok (.if_icmp .gt 53, 3) := by decide +kernel
theorem dX5_twisted_25 : decode cX5_twisted 25 = .ok (.iload 4, 2) := by decide +kernel
theorem dX5_twisted_27 : decode cX5_twisted 27 = .ok (.iconst 1, 1) := by decide +kernel
theorem dX5_twisted_28 : decode cX5_twisted 28 = .ok (.iadd, 1) := by decide +kernel
theorem dX5_twisted_29 : decode cX5_twisted 29 = .ok (.istore 5, 2) := by decide +kernel
theorem dX5_twisted_31 : decode cX5_twisted 31 = .ok (.iload 5, 2) := by decide +kernel
theorem dX5_twisted_33 : decode cX5_twisted 33 = .ok (.iload_n 2, 1) := by decide +kernel
theorem dX5_twisted_34 : decode cX5_twisted 34 = .ok (.if_icmp .gt 35, 3) := by decide +kernel
theorem dX5_twisted_37 : decode cX5_twisted 37 = .ok (.aload_n 0, 1) := by decide +kernel
theorem dX5_twisted_38 : decode cX5_twisted 38 = .ok (.getfield 26, 3) := by decide +kernel
theorem dX5_twisted_41 : decode cX5_twisted 41 = .ok (.getfield 106, 3) := by decide +kernel
theorem dX5_twisted_44 : decode cX5_twisted 44 = .ok (.iload 4, 2) := by decide +kernel
theorem dX5_twisted_46 : decode cX5_twisted 46 = .ok (.iaload, 1) := by decide +kernel
theorem dX5_twisted_47 : decode cX5_twisted 47 = .ok (.aload_n 0, 1) := by decide +kernel
theorem dX5_twisted_48 : decode cX5_twisted 48 = .ok (.getfield 26, 3) := by decide +kernel
theorem dX5_twisted_51 : decode cX5_twisted 51 = .ok (.getfield 106, 3) := by decide +kernel
theorem dX5_twisted_54 : decode cX5_twisted 54 = .ok (.iload 5, 2) := by decide +kernel
theorem dX5_twisted_56 : decode cX5_twisted 56 = .ok (.iaload, 1) := by decide +kernel
theorem dX5_twisted_57 : decode cX5_twisted 57 = .ok (.if_icmp .le 6, 3) := by decide +kernel
theorem dX5_twisted_60 : decode cX5_twisted 60 = .ok (.iinc 3 1, 3) := by decide +kernel
theorem dX5_twisted_63 : decode cX5_twisted 63 = .ok (.iinc 5 1, 3) := by decide +kernel
theorem dX5_twisted_66 : decode cX5_twisted 66 = .ok (.goto (-35), 3) := by decide +kernel
theorem dX5_twisted_69 : decode cX5_twisted 69 = .ok (.iinc 4 1, 3) := by decide +kernel
theorem dX5_twisted_72 : decode cX5_twisted 72 = .ok (.goto (-53), 3) := by decide +kernel
theorem dX5_twisted_75 : decode cX5_twisted 75 = .ok (.iload_n 3, 1) := by decide +kernel
theorem dX5_twisted_76 : decode cX5_twisted 76 = .ok (.ireturn, 1) := by decide +kernel
set_option maxRecDepth 20000 in
theorem ggX5_run_X2_hasSpan : GoodIn wsX5_run wsX2_hasSpan := goodIn_r _ [7, 8, 29, 30, 31] rfl (by decide +kernel)
set_option maxRecDepth 20000 in
theorem gX5_run_X2_hasSpan : GoodIn wsX5_run (wsV RX5 145 RX2 yX2_hasSpan wsX2_hasSpan) := goodIn_app (goodIn_r _ [3, 4, 5, 6] rfl (by decide +kernel)) ggX5_run_X2_hasSpan
set_option maxRecDepth 20000 in
theorem ggX5_run_X5_isBelow : GoodIn wsX5_run wsX5_isBelow := goodIn_r _ [12] rfl (by decide +kernel)
set_option maxRecDepth 20000 in
theorem gX5_run_X5_isBelow : GoodIn wsX5_run (va_wsS RX5 170 yX5_isBelow wsX5_isBelow) := goodIn_app (goodIn_r _ [9, 10, 11] rfl (by decide +kernel)) ggX5_run_X5_isBelow
set_option maxRecDepth 20000 in
theorem ggX5_run_X5_spanTold : GoodIn wsX5_run wsX5_spanTold := goodIn_r _ [16, 1, 2, 17, 18, 19, 20, 21, 22, 23, 24, 25, 26, 27, 28, 29, 30, 31] rfl (by decide +kernel)
set_option maxRecDepth 20000 in
theorem gX5_run_X5_spanTold : GoodIn wsX5_run (wsV RX5 225 RX5 yX5_spanTold wsX5_spanTold) := goodIn_app (goodIn_r _ [13, 14, 15, 11] rfl (by decide +kernel)) ggX5_run_X5_spanTold
theorem dX5_run_0 : decode cX5_run 0 = .ok (.aload_n 0, 1) := by decide +kernel
theorem dX5_run_1 : decode cX5_run 1 = .ok (.getfield 26, 3) := by decide +kernel
theorem dX5_run_4 : decode cX5_run 4 = .ok (.iload_n 1, 1) := by decide +kernel
theorem dX5_run_5 : decode cX5_run 5 = .ok (.iload_n 2, 1) := by decide +kernel
theorem dX5_run_6 : decode cX5_run 6 = .ok (.invokevirtual 145, 3) := by decide +kernel
theorem dX5_run_9 : decode cX5_run 9 = .ok (.ifCond .eq 11, 3) := by decide +kernel
theorem dX5_run_12 : decode cX5_run 12 = .ok (.iload_n 3, 1) := by decide +kernel
theorem dX5_run_13 : decode cX5_run 13 = .ok (.iconst 3, 1) := by decide +kernel
theorem dX5_run_14 : decode cX5_run 14 = .ok (.invokestatic 170, 3) := by decide +kernel
theorem dX5_run_17 : decode cX5_run 17 = .ok (.ifCond .ne 5, 3) := by decide +kernel
theorem dX5_run_20 : decode cX5_run 20 = .ok (.iconst (-1), 1) := by decide +kernel
theorem dX5_run_21 : decode cX5_run 21 = .ok (.ireturn, 1) := by decide +kernel
theorem dX5_run_22 : decode cX5_run 22 = .ok (.iload_n 1, 1) := by decide +kernel
theorem dX5_run_23 : decode cX5_run 23 = .ok (.istore 4, 2) := by decide +kernel
theorem dX5_run_25 : decode cX5_run 25 = .ok (.iload_n 1, 1) := by decide +kernel
theorem dX5_run_26 : decode cX5_run 26 = .ok (.istore 5, 2) := by decide +kernel
theorem dX5_run_28 : decode cX5_run 28 = .ok (.iconst 0, 1) := by decide +kernel
theorem dX5_run_29 : decode cX5_run 29 = .ok (.istore 6, 2) := by decide +kernel
theorem dX5_run_31 : decode cX5_run 31 = .ok (.iload_n 1, 1) := by decide +kernel
theorem dX5_run_32 : decode cX5_run 32 = .ok (.istore 7, 2) := by decide +kernel
theorem dX5_run_34 : decode cX5_run 34 = .ok (.iload 7, 2) := by decide +kernel
theorem dX5_run_36 : decode cX5_run 36 = .ok (.iload_n 2, 1) := by decide +kernel
theorem dX5_run_37 : decode cX5_run 37 = .ok (.if_icmp .gt 61, 3) := by decide +kernel
theorem dX5_run_40 : decode cX5_run 40 = .ok (.aload_n 0, 1) := by decide +kernel
theorem dX5_run_41 : decode cX5_run 41 = .ok (.getfield 26, 3) := by decide +kernel
theorem dX5_run_44 : decode cX5_run 44 = .ok (.getfield 106, 3) := by decide +kernel
theorem dX5_run_47 : decode cX5_run 47 = .ok (.iload 7, 2) := by decide +kernel
theorem dX5_run_49 : decode cX5_run 49 = .ok (.iaload, 1) := by decide +kernel
theorem dX5_run_50 : decode cX5_run 50 = .ok (.aload_n 0, 1) := by decide +kernel
theorem dX5_run_51 : decode cX5_run 51 = .ok (.getfield 26, 3) := by decide +kernel
theorem dX5_run_54 : decode cX5_run 54 = .ok (.getfield 106, 3) := by decide +kernel
theorem dX5_run_57 : decode cX5_run 57 = .ok (.iload 4, 2) := by decide +kernel
theorem dX5_run_59 : decode cX5_run 59 = .ok (.iaload, 1) := by decide +kernel
theorem dX5_run_60 : decode cX5_run 60 = .ok (.if_icmp .eq 7, 3) := by decide +kernel
theorem dX5_run_63 : decode cX5_run 63 = .ok (.iload 7, 2) := by decide +kernel
theorem dX5_run_65 : decode cX5_run 65 = .ok (.istore 4, 2) := by decide +kernel
theorem dX5_run_67 : decode cX5_run 67 = .ok (.iload 7, 2) := by decide +kernel
theorem dX5_run_69 : decode cX5_run 69 = .ok (.iload 4, 2) := by decide +kernel
theorem dX5_run_71 : decode cX5_run 71 = .ok (.isub, 1) := by decide +kernel
theorem dX5_run_72 : decode cX5_run 72 = .ok (.iconst 1, 1) := by decide +kernel
theorem dX5_run_73 : decode cX5_run 73 = .ok (.iadd, 1) := by decide +kernel
theorem dX5_run_74 : decode cX5_run 74 = .ok (.iload 6, 2) := by decide +kernel
theorem dX5_run_76 : decode cX5_run 76 = .ok (.if_icmp .le 16, 3) := by decide +kernel
theorem dX5_run_79 : decode cX5_run 79 = .ok (.iload 4, 2) := by decide +kernel
theorem dX5_run_81 : decode cX5_run 81 = .ok (.istore 5, 2) := by decide +kernel
theorem dX5_run_83 : decode cX5_run 83 = .ok (.iload 7, 2) := by decide +kernel
theorem dX5_run_85 : decode cX5_run 85 = .ok (.iload 4, 2) := by decide +kernel
theorem dX5_run_87 : decode cX5_run 87 = .ok (.isub, 1) := by decide +kernel
theorem dX5_run_88 : decode cX5_run 88 = .ok (.iconst 1, 1) := by decide +kernel
theorem dX5_run_89 : decode cX5_run 89 = .ok (.iadd, 1) := by decide +kernel
theorem dX5_run_90 : decode cX5_run 90 = .ok (.istore 6, 2) := by decide +kernel
theorem dX5_run_92 : decode cX5_run 92 = .ok (.iinc 7 1, 3) := by decide +kernel
theorem dX5_run_95 : decode cX5_run 95 = .ok (.goto (-61), 3) := by decide +kernel
theorem dX5_run_98 : decode cX5_run 98 = .ok (.aload_n 0, 1) := by decide +kernel
theorem dX5_run_99 : decode cX5_run 99 = .ok (.iload 5, 2) := by decide +kernel
theorem dX5_run_101 : decode cX5_run 101 = .ok (.iload 6, 2) := by decide +kernel
theorem dX5_run_103 : decode cX5_run 103 = .ok (.iload_n 3, 1) := by decide +kernel
theorem dX5_run_104 : decode cX5_run 104 = .ok (.invokevirtual 225, 3) := by decide +kernel
theorem dX5_run_107 : decode cX5_run 107 = .ok (.ireturn, 1) := by decide +kernel
set_option maxRecDepth 20000 in
theorem ggX5_common_X2_hasSpan : GoodIn wsX5_common wsX2_hasSpan := goodIn_r _ [17, 18, 61, 62, 63] rfl (by decide +kernel)
set_option maxRecDepth 20000 in
theorem gX5_common_X2_hasSpan : GoodIn wsX5_common (wsV RX5 145 RX2 yX2_hasSpan wsX2_hasSpan) := goodIn_app (goodIn_r _ [13, 14, 15, 16] rfl (by decide +kernel)) ggX5_common_X2_hasSpan
set_option maxRecDepth 20000 in
theorem ggX5_common_X2_has : GoodIn wsX5_common wsX2_has := goodIn_r _ [22, 18, 61, 62, 63] rfl (by decide +kernel)
set_option maxRecDepth 20000 in
theorem gX5_common_X2_has : GoodIn wsX5_common (wsV RX5 95 RX2 yX2_has wsX2_has) := goodIn_app (goodIn_r _ [19, 20, 21, 16] rfl (by decide +kernel)) ggX5_common_X2_has
set_option maxRecDepth 20000 in
theorem ggX5_common_X5_tallySpan : GoodIn wsX5_common wsX5_tallySpan := goodIn_r _ [27, 5, 3, 1, 4, 28, 29, 30, 31, 32, 33, 34, 35, 36, 37, 38, 39, 40, 41, 42, 43, 44, 45, 46, 47, 48, 49, 50, 51, 52, 53, 54, 55, 56, 57, 58, 59, 60, 61, 62, 63, 64, 65, 66, 67, 68, 69, 70, 71] rfl (by decide +kernel)
set_option maxRecDepth 20000 in
theorem gX5_common_X5_tallySpan : GoodIn wsX5_common (wsV RX5 173 RX5 yX5_tallySpan wsX5_tallySpan) := goodIn_app (goodIn_r _ [23, 24, 25, 26] rfl (by decide +kernel)) ggX5_common_X5_tallySpan
set_option maxRecDepth 20000 in
theorem ggX5_common_X3_begin : GoodIn wsX5_common wsX3_begin := goodIn_r _ [32, 33, 34, 35, 36, 37, 38, 64, 65, 66, 67, 68, 69, 70, 71] rfl (by decide +kernel)
set_option maxRecDepth 20000 in
theorem gX5_common_X3_begin : GoodIn wsX5_common (wsV RX5 228 RX3 yX3_begin wsX3_begin) := goodIn_app (goodIn_r _ [28, 29, 30, 31] rfl (by decide +kernel)) ggX5_common_X3_begin
set_option maxRecDepth 20000 in
theorem ggX5_common_X3_push : GoodIn wsX5_common wsX3_push := goodIn_r _ [42, 34, 43, 36, 35, 33, 44, 37, 45, 46, 47, 31, 48, 38, 64, 65, 66, 67, 68, 69, 70, 71] rfl (by decide +kernel)
set_option maxRecDepth 20000 in
theorem gX5_common_X3_push : GoodIn wsX5_common (wsV RX5 231 RX3 yX3_push wsX3_push) := goodIn_app (goodIn_r _ [39, 40, 41, 31] rfl (by decide +kernel)) ggX5_common_X3_push
theorem dX5_common_0 : decode cX5_common 0 = .ok (.aload_n 0, 1) := by decide +kernel
theorem dX5_common_1 : decode cX5_common 1 = .ok (.getfield 26, 3) := by decide +kernel
theorem dX5_common_4 : decode cX5_common 4 = .ok (.iload_n 1, 1) := by decide +kernel
theorem dX5_common_5 : decode cX5_common 5 = .ok (.iload_n 2, 1) := by decide +kernel
theorem dX5_common_6 : decode cX5_common 6 = .ok (.invokevirtual 145, 3) := by decide +kernel
theorem dX5_common_9 : decode cX5_common 9 = .ok (.ifCond .eq 29, 3) := by decide +kernel
theorem dX5_common_12 : decode cX5_common 12 = .ok (.aload_n 0, 1) := by decide +kernel
theorem dX5_common_13 : decode cX5_common 13 = .ok (.getfield 26, 3) := by decide +kernel
theorem dX5_common_16 : decode cX5_common 16 = .ok (.iload_n 3, 1) := by decide +kernel
theorem dX5_common_17 : decode cX5_common 17 = .ok (.invokevirtual 95, 3) := by decide +kernel
theorem dX5_common_20 : decode cX5_common 20 = .ok (.ifCond .eq 18, 3) := by decide +kernel
theorem dX5_common_23 : decode cX5_common 23 = .ok (.aload_n 0, 1) := by decide +kernel
theorem dX5_common_24 : decode cX5_common 24 = .ok (.getfield 26, 3) := by decide +kernel
theorem dX5_common_27 : decode cX5_common 27 = .ok (.iload_n 3, 1) := by decide +kernel
theorem dX5_common_28 : decode cX5_common 28 = .ok (.iload_n 2, 1) := by decide +kernel
theorem dX5_common_29 : decode cX5_common 29 = .ok (.iload_n 1, 1) := by decide +kernel
theorem dX5_common_30 : decode cX5_common 30 = .ok (.isub, 1) := by decide +kernel
theorem dX5_common_31 : decode cX5_common 31 = .ok (.iadd, 1) := by decide +kernel
theorem dX5_common_32 : decode cX5_common 32 = .ok (.invokevirtual 95, 3) := by decide +kernel
theorem dX5_common_35 : decode cX5_common 35 = .ok (.ifCond .ne 5, 3) := by decide +kernel
theorem dX5_common_38 : decode cX5_common 38 = .ok (.iconst (-1), 1) := by decide +kernel
theorem dX5_common_39 : decode cX5_common 39 = .ok (.ireturn, 1) := by decide +kernel
theorem dX5_common_40 : decode cX5_common 40 = .ok (.aload_n 0, 1) := by decide +kernel
theorem dX5_common_41 : decode cX5_common 41 = .ok (.iload_n 1, 1) := by decide +kernel
theorem dX5_common_42 : decode cX5_common 42 = .ok (.iload_n 2, 1) := by decide +kernel
theorem dX5_common_43 : decode cX5_common 43 = .ok (.invokevirtual 173, 3) := by decide +kernel
theorem dX5_common_46 : decode cX5_common 46 = .ok (.aload_n 0, 1) := by decide +kernel
theorem dX5_common_47 : decode cX5_common 47 = .ok (.getfield 47, 3) := by decide +kernel
theorem dX5_common_50 : decode cX5_common 50 = .ok (.aload_n 0, 1) := by decide +kernel
theorem dX5_common_51 : decode cX5_common 51 = .ok (.getfield 58, 3) := by decide +kernel
theorem dX5_common_54 : decode cX5_common 54 = .ok (.invokevirtual 228, 3) := by decide +kernel
theorem dX5_common_57 : decode cX5_common 57 = .ok (.iload_n 3, 1) := by decide +kernel
theorem dX5_common_58 : decode cX5_common 58 = .ok (.istore 4, 2) := by decide +kernel
theorem dX5_common_60 : decode cX5_common 60 = .ok (.iload 4, 2) := by decide +kernel
theorem dX5_common_62 : decode cX5_common 62 = .ok (.iload_n 3, 1) := by decide +kernel
theorem dX5_common_63 : decode cX5_common 63 = .ok (.iload_n 2, 1) := by decide +kernel
theorem dX5_common_64 : decode cX5_common 64 = .ok (.iload_n 1, 1) := by decide +kernel
theorem dX5_common_65 : decode cX5_common 65 = .ok (.isub, 1) := by decide +kernel
theorem dX5_common_66 : decode cX5_common 66 = .ok (.iadd, 1) := by decide +kernel
theorem dX5_common_67 : decode cX5_common 67 = .ok (.if_icmp .gt 26, 3) := by decide +kernel
theorem dX5_common_70 : decode cX5_common 70 = .ok (.aload_n 0, 1) := by decide +kernel
theorem dX5_common_71 : decode cX5_common 71 = .ok (.getfield 47, 3) := by decide +kernel
theorem dX5_common_74 : decode cX5_common 74 = .ok (.aload_n 0, 1) := by decide +kernel
theorem dX5_common_75 : decode cX5_common 75 = .ok (.getfield 26, 3) := by decide +kernel
theorem dX5_common_78 : decode cX5_common 78 = .ok (.getfield 106, 3) := by decide +kernel
theorem dX5_common_81 : decode cX5_common 81 = .ok (.iload 4, 2) := by decide +kernel
theorem dX5_common_83 : decode cX5_common 83 = .ok (.iaload, 1) := by decide +kernel
theorem dX5_common_84 : decode cX5_common 84 = .ok (.invokevirtual 231, 3) := by decide +kernel
theorem dX5_common_87 : decode cX5_common 87 = .ok (.iinc 4 1, 3) := by decide +kernel
theorem dX5_common_90 : decode cX5_common 90 = .ok (.goto (-30), 3) := by decide +kernel
theorem dX5_common_93 : decode cX5_common 93 = .ok (.iconst 0, 1) := by decide +kernel
theorem dX5_common_94 : decode cX5_common 94 = .ok (.istore 4, 2) := by decide +kernel
theorem dX5_common_96 : decode cX5_common 96 = .ok (.iconst 0, 1) := by decide +kernel
theorem dX5_common_97 : decode cX5_common 97 = .ok (.istore 5, 2) := by decide +kernel
theorem dX5_common_99 : decode cX5_common 99 = .ok (.iload 5, 2) := by decide +kernel
theorem dX5_common_101 : decode cX5_common 101 = .ok (.aload_n 0, 1) := by decide +kernel
theorem dX5_common_102 : decode cX5_common 102 = .ok (.getfield 43, 3) := by decide +kernel
theorem dX5_common_105 : decode cX5_common 105 = .ok (.getfield 182, 3) := by decide +kernel
theorem dX5_common_108 : decode cX5_common 108 = .ok (.if_icmp .ge 49, 3) := by decide +kernel
theorem dX5_common_111 : decode cX5_common 111 = .ok (.aload_n 0, 1) := by decide +kernel
theorem dX5_common_112 : decode cX5_common 112 = .ok (.getfield 43, 3) := by decide +kernel
theorem dX5_common_115 : decode cX5_common 115 = .ok (.getfield 187, 3) := by decide +kernel
theorem dX5_common_118 : decode cX5_common 118 = .ok (.iload 5, 2) := by decide +kernel
theorem dX5_common_120 : decode cX5_common 120 = .ok (.iaload, 1) := by decide +kernel
theorem dX5_common_121 : decode cX5_common 121 = .ok (.istore 6, 2) := by decide +kernel
theorem dX5_common_123 : decode cX5_common 123 = .ok (.iload 4, 2) := by decide +kernel
theorem dX5_common_125 : decode cX5_common 125 = .ok (.aload_n 0, 1) := by decide +kernel
theorem dX5_common_126 : decode cX5_common 126 = .ok (.getfield 43, 3) := by decide +kernel
theorem dX5_common_129 : decode cX5_common 129 = .ok (.getfield 190, 3) := by decide +kernel
theorem dX5_common_132 : decode cX5_common 132 = .ok (.iload 6, 2) := by decide +kernel
theorem dX5_common_134 : decode cX5_common 134 = .ok (.iaload, 1) := by decide +kernel
theorem dX5_common_135 : decode cX5_common 135 = .ok (.aload_n 0, 1) := by decide +kernel
theorem dX5_common_136 : decode cX5_common 136 = .ok (.getfield 47, 3) := by decide +kernel
theorem dX5_common_139 : decode cX5_common 139 = .ok (.getfield 190, 3) := by decide +kernel
theorem dX5_common_142 : decode cX5_common 142 = .ok (.iload 6, 2) := by decide +kernel
theorem dX5_common_144 : decode cX5_common 144 = .ok (.iaload, 1) := by decide +kernel
theorem dX5_common_145 : decode cX5_common 145 = .ok (.invokestatic 234, 3) := by decide +kernel
theorem dX5_common_148 : decode cX5_common 148 = .ok (.iadd, 1) := by decide +kernel
theorem dX5_common_149 : decode cX5_common 149 = .ok (.istore 4, 2) := by decide +kernel
theorem dX5_common_151 : decode cX5_common 151 = .ok (.iinc 5 1, 3) := by decide +kernel
theorem dX5_common_154 : decode cX5_common 154 = .ok (.goto (-55), 3) := by decide +kernel
theorem dX5_common_157 : decode cX5_common 157 = .ok (.iload 4, 2) := by decide +kernel
theorem dX5_common_159 : decode cX5_common 159 = .ok (.ireturn, 1) := by decide +kernel
set_option maxRecDepth 20000 in
theorem ggX5_together_X2_hasSpan : GoodIn wsX5_together wsX2_hasSpan := goodIn_r _ [9, 10, 57, 58, 59] rfl (by decide +kernel)
set_option maxRecDepth 20000 in
theorem gX5_together_X2_hasSpan : GoodIn wsX5_together (wsV RX5 145 RX2 yX2_hasSpan wsX2_hasSpan) := goodIn_app (goodIn_r _ [5, 6, 7, 8] rfl (by decide +kernel)) ggX5_together_X2_hasSpan
set_option maxRecDepth 20000 in
theorem ggX5_together_X5_isBelow : GoodIn wsX5_together wsX5_isBelow := goodIn_r _ [14] rfl (by decide +kernel)
set_option maxRecDepth 20000 in
theorem gX5_together_X5_isBelow : GoodIn wsX5_together (va_wsS RX5 170 yX5_isBelow wsX5_isBelow) := goodIn_app (goodIn_r _ [11, 12, 13] rfl (by decide +kernel)) ggX5_together_X5_isBelow
set_option maxRecDepth 20000 in
theorem ggX5_together_X5_tallySpan : GoodIn wsX5_together wsX5_tallySpan := goodIn_r _ [18, 2, 19, 1, 3, 20, 21, 22, 23, 24, 25, 26, 27, 28, 29, 30, 31, 32, 33, 34, 35, 36, 37, 38, 39, 40, 45, 46, 47, 48, 49, 50, 51, 52, 53, 54, 55, 56, 57, 58, 59, 60, 61, 62, 63, 64, 65, 66, 67] rfl (by decide +kernel)
set_option maxRecDepth 20000 in
theorem gX5_together_X5_tallySpan : GoodIn wsX5_together (wsV RX5 173 RX5 yX5_tallySpan wsX5_tallySpan) := goodIn_app (goodIn_r _ [15, 16, 17, 13] rfl (by decide +kernel)) ggX5_together_X5_tallySpan
set_option maxRecDepth 20000 in
theorem ggX5_together_X3_push : GoodIn wsX5_together wsX3_push := goodIn_r _ [34, 26, 35, 28, 27, 25, 36, 29, 37, 38, 39, 23, 40, 30, 60, 61, 62, 63, 64, 65, 66, 67] rfl (by decide +kernel)
set_option maxRecDepth 20000 in
theorem gX5_together_X3_push : GoodIn wsX5_together (wsV RX5 231 RX3 yX3_push wsX3_push) := goodIn_app (goodIn_r _ [31, 32, 33, 23] rfl (by decide +kernel)) ggX5_together_X3_push
set_option maxRecDepth 20000 in
theorem ggX5_together_X3_told : GoodIn wsX5_together wsX3_told := goodIn_r _ [44, 26, 35, 36, 60, 61, 62, 63, 64, 65, 66, 67] rfl (by decide +kernel)
set_option maxRecDepth 20000 in
theorem gX5_together_X3_told : GoodIn wsX5_together (wsV RX5 179 RX3 yX3_told wsX3_told) := goodIn_app (goodIn_r _ [41, 42, 43, 23] rfl (by decide +kernel)) ggX5_together_X3_told
theorem dX5_together_0 : decode cX5_together 0 = .ok (.aload_n 0, 1) := by decide +kernel
theorem dX5_together_1 : decode cX5_together 1 = .ok (.getfield 26, 3) := by decide +kernel
theorem dX5_together_4 : decode cX5_together 4 = .ok (.iload_n 1, 1) := by decide +kernel
theorem dX5_together_5 : decode cX5_together 5 = .ok (.iload_n 2, 1) := by decide +kernel
theorem dX5_together_6 : decode cX5_together 6 = .ok (.invokevirtual 145, 3) := by decide +kernel
theorem dX5_together_9 : decode cX5_together 9 = .ok (.ifCond .eq 25, 3) := by decide +kernel
theorem dX5_together_12 : decode cX5_together 12 = .ok (.aload_n 0, 1) := by decide +kernel
theorem dX5_together_13 : decode cX5_together 13 = .ok (.getfield 26, 3) := by decide +kernel
theorem dX5_together_16 : decode cX5_together 16 = .ok (.iload_n 3, 1) := by decide +kernel
theorem dX5_together_17 : decode cX5_together 17 = .ok (.iload 4, 2) := by decide +kernel
theorem dX5_together_19 : decode cX5_together 19 = .ok (.invokevirtual 145, 3) := by decide +kernel
theorem dX5_together_22 : decode cX5_together 22 = .ok (.ifCond .eq 12, 3) := by decide +kernel
theorem dX5_together_25 : decode cX5_together 25 = .ok (.iload 5, 2) := by decide +kernel
theorem dX5_together_27 : decode cX5_together 27 = .ok (.iconst 2, 1) := by decide +kernel
theorem dX5_together_28 : decode cX5_together 28 = .ok (.invokestatic 170, 3) := by decide +kernel
theorem dX5_together_31 : decode cX5_together 31 = .ok (.ifCond .ne 5, 3) := by decide +kernel
theorem dX5_together_34 : decode cX5_together 34 = .ok (.iconst (-1), 1) := by decide +kernel
theorem dX5_together_35 : decode cX5_together 35 = .ok (.ireturn, 1) := by decide +kernel
theorem dX5_together_36 : decode cX5_together 36 = .ok (.aload_n 0, 1) := by decide +kernel
theorem dX5_together_37 : decode cX5_together 37 = .ok (.iload_n 1, 1) := by decide +kernel
theorem dX5_together_38 : decode cX5_together 38 = .ok (.iload_n 2, 1) := by decide +kernel
theorem dX5_together_39 : decode cX5_together 39 = .ok (.invokevirtual 173, 3) := by decide +kernel
theorem dX5_together_42 : decode cX5_together 42 = .ok (.iload_n 3, 1) := by decide +kernel
theorem dX5_together_43 : decode cX5_together 43 = .ok (.istore 6, 2) := by decide +kernel
theorem dX5_together_45 : decode cX5_together 45 = .ok (.iload 6, 2) := by decide +kernel
theorem dX5_together_47 : decode cX5_together 47 = .ok (.iload 4, 2) := by decide +kernel
theorem dX5_together_49 : decode cX5_together 49 = .ok (.if_icmp .gt 38, 3) := by decide +kernel
theorem dX5_together_52 : decode cX5_together 52 = .ok (.iload 6, 2) := by decide +kernel
theorem dX5_together_54 : decode cX5_together 54 = .ok (.iload_n 1, 1) := by decide +kernel
theorem dX5_together_55 : decode cX5_together 55 = .ok (.if_icmp .lt 9, 3) := by decide +kernel
theorem dX5_together_58 : decode cX5_together 58 = .ok (.iload 6, 2) := by decide +kernel
theorem dX5_together_60 : decode cX5_together 60 = .ok (.iload_n 2, 1) := by decide +kernel
theorem dX5_together_61 : decode cX5_together 61 = .ok (.if_icmp .le 20, 3) := by decide +kernel
theorem dX5_together_64 : decode cX5_together 64 = .ok (.aload_n 0, 1) := by decide +kernel
theorem dX5_together_65 : decode cX5_together 65 = .ok (.getfield 43, 3) := by decide +kernel
theorem dX5_together_68 : decode cX5_together 68 = .ok (.aload_n 0, 1) := by decide +kernel
theorem dX5_together_69 : decode cX5_together 69 = .ok (.getfield 26, 3) := by decide +kernel
theorem dX5_together_72 : decode cX5_together 72 = .ok (.getfield 106, 3) := by decide +kernel
theorem dX5_together_75 : decode cX5_together 75 = .ok (.iload 6, 2) := by decide +kernel
theorem dX5_together_77 : decode cX5_together 77 = .ok (.iaload, 1) := by decide +kernel
theorem dX5_together_78 : decode cX5_together 78 = .ok (.invokevirtual 231, 3) := by decide +kernel
theorem dX5_together_81 : decode cX5_together 81 = .ok (.iinc 6 1, 3) := by decide +kernel
theorem dX5_together_84 : decode cX5_together 84 = .ok (.goto (-39), 3) := by decide +kernel
theorem dX5_together_87 : decode cX5_together 87 = .ok (.aload_n 0, 1) := by decide +kernel
theorem dX5_together_88 : decode cX5_together 88 = .ok (.getfield 43, 3) := by decide +kernel
theorem dX5_together_91 : decode cX5_together 91 = .ok (.aload_n 0, 1) := by decide +kernel
theorem dX5_together_92 : decode cX5_together 92 = .ok (.getfield 43, 3) := by decide +kernel
theorem dX5_together_95 : decode cX5_together 95 = .ok (.getfield 176, 3) := by decide +kernel
theorem dX5_together_98 : decode cX5_together 98 = .ok (.iload 5, 2) := by decide +kernel
theorem dX5_together_100 : decode cX5_together 100 = .ok (.iconst 0, 1) := by decide +kernel
theorem dX5_together_101 : decode cX5_together 101 = .ok (.invokevirtual 179, 3) := by decide +kernel
theorem dX5_together_104 : decode cX5_together 104 = .ok (.ireturn, 1) := by decide +kernel
set_option maxRecDepth 20000 in
theorem ggX5_agree_X2_hasSpan : GoodIn wsX5_agree wsX2_hasSpan := goodIn_r _ [6, 7, 54, 55, 56] rfl (by decide +kernel)
set_option maxRecDepth 20000 in
theorem gX5_agree_X2_hasSpan : GoodIn wsX5_agree (wsV RX5 145 RX2 yX2_hasSpan wsX2_hasSpan) := goodIn_app (goodIn_r _ [2, 3, 4, 5] rfl (by decide +kernel)) ggX5_agree_X2_hasSpan
set_option maxRecDepth 20000 in
theorem ggX5_agree_X5_modeOf : GoodIn wsX5_agree wsX5_modeOf := goodIn_r _ [12, 13, 14, 15, 16, 17, 11, 18, 19, 1, 20, 21, 22, 23, 24, 25, 26, 27, 28, 29, 30, 31, 32, 33, 34, 35, 36, 37, 38, 39, 40, 41, 42, 43, 44, 45, 46, 47, 48, 49, 50, 51, 52, 53, 57, 58, 59, 60, 61, 62, 63, 64, 54, 55, 56] rfl (by decide +kernel)
set_option maxRecDepth 20000 in
theorem gX5_agree_X5_modeOf : GoodIn wsX5_agree (wsV RX5 237 RX5 yX5_modeOf wsX5_modeOf) := goodIn_app (goodIn_r _ [8, 9, 10, 11] rfl (by decide +kernel)) ggX5_agree_X5_modeOf
theorem dX5_agree_0 : decode cX5_agree 0 = .ok (.aload_n 0, 1) := by decide +kernel
theorem dX5_agree_1 : decode cX5_agree 1 = .ok (.getfield 26, 3) := by decide +kernel
theorem dX5_agree_4 : decode cX5_agree 4 = .ok (.iload_n 1, 1) := by decide +kernel
theorem dX5_agree_5 : decode cX5_agree 5 = .ok (.iload_n 2, 1) := by decide +kernel
theorem dX5_agree_6 : decode cX5_agree 6 = .ok (.invokevirtual 145, 3) := by decide +kernel
theorem dX5_agree_9 : decode cX5_agree 9 = .ok (.ifCond .eq 17, 3) := by decide +kernel
theorem dX5_agree_12 : decode cX5_agree 12 = .ok (.aload_n 0, 1) := by decide +kernel
theorem dX5_agree_13 : decode cX5_agree 13 = .ok (.getfield 26, 3) := by decide +kernel
theorem dX5_agree_16 : decode cX5_agree 16 = .ok (.iload_n 2, 1) := by decide +kernel
theorem dX5_agree_17 : decode cX5_agree 17 = .ok (.iconst 1, 1) := by decide +kernel
theorem dX5_agree_18 : decode cX5_agree 18 = .ok (.iadd, 1) := by decide +kernel
theorem dX5_agree_19 : decode cX5_agree 19 = .ok (.iload_n 3, 1) := by decide +kernel
theorem dX5_agree_20 : decode cX5_agree 20 = .ok (.invokevirtual 145, 3) := by decide +kernel
theorem dX5_agree_23 : decode cX5_agree 23 = .ok (.ifCond .ne 5, 3) := by decide +kernel
theorem dX5_agree_26 : decode cX5_agree 26 = .ok (.iconst (-1), 1) := by decide +kernel
theorem dX5_agree_27 : decode cX5_agree 27 = .ok (.ireturn, 1) := by decide +kernel
theorem dX5_agree_28 : decode cX5_agree 28 = .ok (.aload_n 0, 1) := by decide +kernel
theorem dX5_agree_29 : decode cX5_agree 29 = .ok (.iload_n 1, 1) := by decide +kernel
theorem dX5_agree_30 : decode cX5_agree 30 = .ok (.iload_n 2, 1) := by decide +kernel
theorem dX5_agree_31 : decode cX5_agree 31 = .ok (.invokevirtual 237, 3) := by decide +kernel
theorem dX5_agree_34 : decode cX5_agree 34 = .ok (.aload_n 0, 1) := by decide +kernel
theorem dX5_agree_35 : decode cX5_agree 35 = .ok (.iload_n 2, 1) := by decide +kernel
theorem dX5_agree_36 : decode cX5_agree 36 = .ok (.iconst 1, 1) := by decide +kernel
theorem dX5_agree_37 : decode cX5_agree 37 = .ok (.iadd, 1) := by decide +kernel
theorem dX5_agree_38 : decode cX5_agree 38 = .ok (.iload_n 3, 1) := by decide +kernel
theorem dX5_agree_39 : decode cX5_agree 39 = .ok (.invokevirtual 237, 3) := by decide +kernel
theorem dX5_agree_42 : decode cX5_agree 42 = .ok (.if_icmp .ne 7, 3) := by decide +kernel
theorem dX5_agree_45 : decode cX5_agree 45 = .ok (.iconst 1, 1) := by decide +kernel
theorem dX5_agree_46 : decode cX5_agree 46 = .ok (.goto 4, 3) := by decide +kernel
theorem dX5_agree_49 : decode cX5_agree 49 = .ok (.iconst 0, 1) := by decide +kernel
theorem dX5_agree_50 : decode cX5_agree 50 = .ok (.ireturn, 1) := by decide +kernel
set_option maxRecDepth 20000 in
theorem ggX5_split_X2_hasSpan : GoodIn wsX5_split wsX2_hasSpan := goodIn_r _ [10, 11, 53, 54, 55] rfl (by decide +kernel)
set_option maxRecDepth 20000 in
theorem gX5_split_X2_hasSpan : GoodIn wsX5_split (wsV RX5 145 RX2 yX2_hasSpan wsX2_hasSpan) := goodIn_app (goodIn_r _ [6, 7, 8, 9] rfl (by decide +kernel)) ggX5_split_X2_hasSpan
set_option maxRecDepth 20000 in
theorem ggX5_split_X5_isBelow : GoodIn wsX5_split wsX5_isBelow := goodIn_r _ [15] rfl (by decide +kernel)
set_option maxRecDepth 20000 in
theorem gX5_split_X5_isBelow : GoodIn wsX5_split (va_wsS RX5 170 yX5_isBelow wsX5_isBelow) := goodIn_app (goodIn_r _ [12, 13, 14] rfl (by decide +kernel)) ggX5_split_X5_isBelow
set_option maxRecDepth 20000 in
theorem ggX5_split_X3_begin : GoodIn wsX5_split wsX3_begin := goodIn_r _ [20, 21, 22, 23, 24, 25, 26, 56, 57, 58, 59, 60, 61, 62, 63] rfl (by decide +kernel)
set_option maxRecDepth 20000 in
theorem gX5_split_X3_begin : GoodIn wsX5_split (wsV RX5 228 RX3 yX3_begin wsX3_begin) := goodIn_app (goodIn_r _ [16, 17, 18, 19] rfl (by decide +kernel)) ggX5_split_X3_begin
set_option maxRecDepth 20000 in
theorem ggX5_split_X3_push : GoodIn wsX5_split wsX3_push := goodIn_r _ [30, 22, 31, 24, 23, 21, 32, 25, 33, 34, 35, 19, 36, 26, 56, 57, 58, 59, 60, 61, 62, 63] rfl (by decide +kernel)
set_option maxRecDepth 20000 in
theorem gX5_split_X3_push : GoodIn wsX5_split (wsV RX5 231 RX3 yX3_push wsX3_push) := goodIn_app (goodIn_r _ [27, 28, 29, 19] rfl (by decide +kernel)) ggX5_split_X3_push
set_option maxRecDepth 20000 in
theorem ggX5_split_X3_most : GoodIn wsX5_split wsX3_most := goodIn_r _ [40, 25, 22, 56, 57, 58, 59, 60, 61, 62, 63] rfl (by decide +kernel)
set_option maxRecDepth 20000 in
theorem gX5_split_X3_most : GoodIn wsX5_split (wsV RX5 208 RX3 yX3_most wsX3_most) := goodIn_app (goodIn_r _ [37, 38, 39, 19] rfl (by decide +kernel)) ggX5_split_X3_most
theorem dX5_split_0 : decode cX5_split 0 = .ok (.aload_n 0, 1) := by decide +kernel
theorem dX5_split_1 : decode cX5_split 1 = .ok (.getfield 26, 3) := by decide +kernel
theorem dX5_split_4 : decode cX5_split 4 = .ok (.iload_n 1, 1) := by decide +kernel
theorem dX5_split_5 : decode cX5_split 5 = .ok (.iload_n 2, 1) := by decide +kernel
theorem dX5_split_6 : decode cX5_split 6 = .ok (.invokevirtual 145, 3) := by decide +kernel
theorem dX5_split_9 : decode cX5_split 9 = .ok (.ifCond .eq 16, 3) := by decide +kernel
theorem dX5_split_12 : decode cX5_split 12 = .ok (.iload_n 1, 1) := by decide +kernel
theorem dX5_split_13 : decode cX5_split 13 = .ok (.iload_n 2, 1) := by decide +kernel
theorem dX5_split_14 : decode cX5_split 14 = .ok (.if_icmp .eq 11, 3) := by decide +kernel
theorem dX5_split_17 : decode cX5_split 17 = .ok (.iload_n 3, 1) := by decide +kernel
theorem dX5_split_18 : decode cX5_split 18 = .ok (.iconst 2, 1) := by decide +kernel
theorem dX5_split_19 : decode cX5_split 19 = .ok (.invokestatic 170, 3) := by decide +kernel
theorem dX5_split_22 : decode cX5_split 22 = .ok (.ifCond .ne 5, 3) := by decide +kernel
theorem dX5_split_25 : decode cX5_split 25 = .ok (.iconst (-1), 1) := by decide +kernel
theorem dX5_split_26 : decode cX5_split 26 = .ok (.ireturn, 1) := by decide +kernel
theorem dX5_split_27 : decode cX5_split 27 = .ok (.aload_n 0, 1) := by decide +kernel
theorem dX5_split_28 : decode cX5_split 28 = .ok (.getfield 43, 3) := by decide +kernel
theorem dX5_split_31 : decode cX5_split 31 = .ok (.aload_n 0, 1) := by decide +kernel
theorem dX5_split_32 : decode cX5_split 32 = .ok (.getfield 58, 3) := by decide +kernel
theorem dX5_split_35 : decode cX5_split 35 = .ok (.invokevirtual 228, 3) := by decide +kernel
theorem dX5_split_38 : decode cX5_split 38 = .ok (.iload_n 1, 1) := by decide +kernel
theorem dX5_split_39 : decode cX5_split 39 = .ok (.istore 4, 2) := by decide +kernel
theorem dX5_split_41 : decode cX5_split 41 = .ok (.iload 4, 2) := by decide +kernel
theorem dX5_split_43 : decode cX5_split 43 = .ok (.iload_n 2, 1) := by decide +kernel
theorem dX5_split_44 : decode cX5_split 44 = .ok (.if_icmp .ge 40, 3) := by decide +kernel
theorem dX5_split_47 : decode cX5_split 47 = .ok (.aload_n 0, 1) := by decide +kernel
theorem dX5_split_48 : decode cX5_split 48 = .ok (.getfield 43, 3) := by decide +kernel
theorem dX5_split_51 : decode cX5_split 51 = .ok (.aload_n 0, 1) := by decide +kernel
theorem dX5_split_52 : decode cX5_split 52 = .ok (.getfield 26, 3) := by decide +kernel
theorem dX5_split_55 : decode cX5_split 55 = .ok (.getfield 106, 3) := by decide +kernel
theorem dX5_split_58 : decode cX5_split 58 = .ok (.iload 4, 2) := by decide +kernel
theorem dX5_split_60 : decode cX5_split 60 = .ok (.iaload, 1) := by decide +kernel
theorem dX5_split_61 : decode cX5_split 61 = .ok (.invokevirtual 231, 3) := by decide +kernel
theorem dX5_split_64 : decode cX5_split 64 = .ok (.aload_n 0, 1) := by decide +kernel
theorem dX5_split_65 : decode cX5_split 65 = .ok (.getfield 50, 3) := by decide +kernel
theorem dX5_split_68 : decode cX5_split 68 = .ok (.iload 4, 2) := by decide +kernel
theorem dX5_split_70 : decode cX5_split 70 = .ok (.aload_n 0, 1) := by decide +kernel
theorem dX5_split_71 : decode cX5_split 71 = .ok (.getfield 43, 3) := by decide +kernel
theorem dX5_split_74 : decode cX5_split 74 = .ok (.invokevirtual 208, 3) := by decide +kernel
theorem dX5_split_77 : decode cX5_split 77 = .ok (.iastore, 1) := by decide +kernel
theorem dX5_split_78 : decode cX5_split 78 = .ok (.iinc 4 1, 3) := by decide +kernel
theorem dX5_split_81 : decode cX5_split 81 = .ok (.goto (-40), 3) := by decide +kernel
theorem dX5_split_84 : decode cX5_split 84 = .ok (.aload_n 0, 1) := by decide +kernel
theorem dX5_split_85 : decode cX5_split 85 = .ok (.getfield 43, 3) := by decide +kernel
theorem dX5_split_88 : decode cX5_split 88 = .ok (.aload_n 0, 1) := by decide +kernel
theorem dX5_split_89 : decode cX5_split 89 = .ok (.getfield 58, 3) := by decide +kernel
theorem dX5_split_92 : decode cX5_split 92 = .ok (.invokevirtual 228, 3) := by decide +kernel
theorem dX5_split_95 : decode cX5_split 95 = .ok (.iload_n 1, 1) := by decide +kernel
theorem dX5_split_96 : decode cX5_split 96 = .ok (.istore 4, 2) := by decide +kernel
theorem dX5_split_98 : decode cX5_split 98 = .ok (.iconst 0, 1) := by decide +kernel
theorem dX5_split_99 : decode cX5_split 99 = .ok (.istore 5, 2) := by decide +kernel
theorem dX5_split_101 : decode cX5_split 101 = .ok (.iload_n 2, 1) := by decide +kernel
theorem dX5_split_102 : decode cX5_split 102 = .ok (.iconst 1, 1) := by decide +kernel
theorem dX5_split_103 : decode cX5_split 103 = .ok (.isub, 1) := by decide +kernel
theorem dX5_split_104 : decode cX5_split 104 = .ok (.istore 6, 2) := by decide +kernel
theorem dX5_split_106 : decode cX5_split 106 = .ok (.iload 6, 2) := by decide +kernel
theorem dX5_split_108 : decode cX5_split 108 = .ok (.iload_n 1, 1) := by decide +kernel
theorem dX5_split_109 : decode cX5_split 109 = .ok (.if_icmp .lt 69, 3) := by decide +kernel
theorem dX5_split_112 : decode cX5_split 112 = .ok (.aload_n 0, 1) := by decide +kernel
theorem dX5_split_113 : decode cX5_split 113 = .ok (.getfield 43, 3) := by decide +kernel
theorem dX5_split_116 : decode cX5_split 116 = .ok (.aload_n 0, 1) := by decide +kernel
theorem dX5_split_117 : decode cX5_split 117 = .ok (.getfield 26, 3) := by decide +kernel
theorem dX5_split_120 : decode cX5_split 120 = .ok (.getfield 106, 3) := by decide +kernel
theorem dX5_split_123 : decode cX5_split 123 = .ok (.iload 6, 2) := by decide +kernel
theorem dX5_split_125 : decode cX5_split 125 = .ok (.iconst 1, 1) := by decide +kernel
theorem dX5_split_126 : decode cX5_split 126 = .ok (.iadd, 1) := by decide +kernel
theorem dX5_split_127 : decode cX5_split 127 = .ok (.iaload, 1) := by decide +kernel
theorem dX5_split_128 : decode cX5_split 128 = .ok (.invokevirtual 231, 3) := by decide +kernel
theorem dX5_split_131 : decode cX5_split 131 = .ok (.aload_n 0, 1) := by decide +kernel
theorem dX5_split_132 : decode cX5_split 132 = .ok (.getfield 50, 3) := by decide +kernel
theorem dX5_split_135 : decode cX5_split 135 = .ok (.iload 6, 2) := by decide +kernel
theorem dX5_split_137 : decode cX5_split 137 = .ok (.iaload, 1) := by decide +kernel
theorem dX5_split_138 : decode cX5_split 138 = .ok (.aload_n 0, 1) := by decide +kernel
theorem dX5_split_139 : decode cX5_split 139 = .ok (.getfield 43, 3) := by decide +kernel
theorem dX5_split_142 : decode cX5_split 142 = .ok (.invokevirtual 208, 3) := by decide +kernel
theorem dX5_split_145 : decode cX5_split 145 = .ok (.iadd, 1) := by decide +kernel
theorem dX5_split_146 : decode cX5_split 146 = .ok (.iload 5, 2) := by decide +kernel
theorem dX5_split_148 : decode cX5_split 148 = .ok (.if_icmp .lt 24, 3) := by decide +kernel
theorem dX5_split_151 : decode cX5_split 151 = .ok (.iload 6, 2) := by decide +kernel
theorem dX5_split_153 : decode cX5_split 153 = .ok (.istore 4, 2) := by decide +kernel
theorem dX5_split_155 : decode cX5_split 155 = .ok (.aload_n 0, 1) := by decide +kernel
theorem dX5_split_156 : decode cX5_split 156 = .ok (.getfield 50, 3) := by decide +kernel
theorem dX5_split_159 : decode cX5_split 159 = .ok (.iload 6, 2) := by decide +kernel
theorem dX5_split_161 : decode cX5_split 161 = .ok (.iaload, 1) := by decide +kernel
theorem dX5_split_162 : decode cX5_split 162 = .ok (.aload_n 0, 1) := by decide +kernel
theorem dX5_split_163 : decode cX5_split 163 = .ok (.getfield 43, 3) := by decide +kernel
theorem dX5_split_166 : decode cX5_split 166 = .ok (.invokevirtual 208, 3) := by decide +kernel
theorem dX5_split_169 : decode cX5_split 169 = .ok (.iadd, 1) := by decide +kernel
theorem dX5_split_170 : decode cX5_split 170 = .ok (.istore 5, 2) := by decide +kernel
theorem dX5_split_172 : decode cX5_split 172 = .ok (.iinc 6 (-1), 3) := by decide +kernel
theorem dX5_split_175 : decode cX5_split 175 = .ok (.goto (-69), 3) := by decide +kernel
theorem dX5_split_178 : decode cX5_split 178 = .ok (.iload_n 3, 1) := by decide +kernel
theorem dX5_split_179 : decode cX5_split 179 = .ok (.ifCond .ne 8, 3) := by decide +kernel
theorem dX5_split_182 : decode cX5_split 182 = .ok (.iload 4, 2) := by decide +kernel
theorem dX5_split_184 : decode cX5_split 184 = .ok (.goto 5, 3) := by decide +kernel
theorem dX5_split_187 : decode cX5_split 187 = .ok (.iload 5, 2) := by decide +kernel
theorem dX5_split_189 : decode cX5_split 189 = .ok (.ireturn, 1) := by decide +kernel
set_option maxRecDepth 20000 in
theorem ggX5_ifSet_X2_has : GoodIn wsX5_ifSet wsX2_has := goodIn_r _ [10, 11, 53, 54, 55] rfl (by decide +kernel)
set_option maxRecDepth 20000 in
theorem gX5_ifSet_X2_has : GoodIn wsX5_ifSet (wsV RX5 95 RX2 yX2_has wsX2_has) := goodIn_app (goodIn_r _ [6, 7, 8, 9] rfl (by decide +kernel)) ggX5_ifSet_X2_has
set_option maxRecDepth 20000 in
theorem ggX5_ifSet_X5_isValue : GoodIn wsX5_ifSet wsX5_isValue := goodIn_r _ [15] rfl (by decide +kernel)
set_option maxRecDepth 20000 in
theorem gX5_ifSet_X5_isValue : GoodIn wsX5_ifSet (va_wsS RX5 128 yX5_isValue wsX5_isValue) := goodIn_app (goodIn_r _ [12, 13, 14] rfl (by decide +kernel)) ggX5_ifSet_X5_isValue
set_option maxRecDepth 20000 in
theorem ggX5_ifSet_X2_hasSpan : GoodIn wsX5_ifSet wsX2_hasSpan := goodIn_r _ [19, 11, 53, 54, 55] rfl (by decide +kernel)
set_option maxRecDepth 20000 in
theorem gX5_ifSet_X2_hasSpan : GoodIn wsX5_ifSet (wsV RX5 145 RX2 yX2_hasSpan wsX2_hasSpan) := goodIn_app (goodIn_r _ [16, 17, 18, 9] rfl (by decide +kernel)) ggX5_ifSet_X2_hasSpan
set_option maxRecDepth 20000 in
theorem ggX5_ifSet_X3_begin : GoodIn wsX5_ifSet wsX3_begin := goodIn_r _ [24, 25, 26, 27, 28, 29, 30, 56, 57, 58, 59, 60, 61, 62, 63] rfl (by decide +kernel)
set_option maxRecDepth 20000 in
theorem gX5_ifSet_X3_begin : GoodIn wsX5_ifSet (wsV RX5 228 RX3 yX3_begin wsX3_begin) := goodIn_app (goodIn_r _ [20, 21, 22, 23] rfl (by decide +kernel)) ggX5_ifSet_X3_begin
set_option maxRecDepth 20000 in
theorem ggX5_ifSet_X3_push : GoodIn wsX5_ifSet wsX3_push := goodIn_r _ [34, 26, 35, 28, 27, 25, 36, 29, 37, 38, 39, 23, 40, 30, 56, 57, 58, 59, 60, 61, 62, 63] rfl (by decide +kernel)
set_option maxRecDepth 20000 in
theorem gX5_ifSet_X3_push : GoodIn wsX5_ifSet (wsV RX5 231 RX3 yX3_push wsX3_push) := goodIn_app (goodIn_r _ [31, 32, 33, 23] rfl (by decide +kernel)) ggX5_ifSet_X3_push
theorem dX5_ifSet_0 : decode cX5_ifSet 0 = .ok (.aload_n 0, 1) := by decide +kernel
theorem dX5_ifSet_1 : decode cX5_ifSet 1 = .ok (.getfield 26, 3) := by decide +kernel
theorem dX5_ifSet_4 : decode cX5_ifSet 4 = .ok (.iload_n 1, 1) := by decide +kernel
theorem dX5_ifSet_5 : decode cX5_ifSet 5 = .ok (.invokevirtual 95, 3) := by decide +kernel
theorem dX5_ifSet_8 : decode cX5_ifSet 8 = .ok (.ifCond .eq 23, 3) := by decide +kernel
theorem dX5_ifSet_11 : decode cX5_ifSet 11 = .ok (.iload_n 2, 1) := by decide +kernel
theorem dX5_ifSet_12 : decode cX5_ifSet 12 = .ok (.invokestatic 128, 3) := by decide +kernel
theorem dX5_ifSet_15 : decode cX5_ifSet 15 = .ok (.ifCond .eq 16, 3) := by decide +kernel
theorem dX5_ifSet_18 : decode cX5_ifSet 18 = .ok (.aload_n 0, 1) := by decide +kernel
theorem dX5_ifSet_19 : decode cX5_ifSet 19 = .ok (.getfield 26, 3) := by decide +kernel
theorem dX5_ifSet_22 : decode cX5_ifSet 22 = .ok (.iload_n 3, 1) := by decide +kernel
theorem dX5_ifSet_23 : decode cX5_ifSet 23 = .ok (.iload 4, 2) := by decide +kernel
theorem dX5_ifSet_25 : decode cX5_ifSet 25 = .ok (.invokevirtual 145, 3) := by decide +kernel
theorem dX5_ifSet_28 : decode cX5_ifSet 28 = .ok (.ifCond .ne 5, 3) := by decide +kernel
theorem dX5_ifSet_31 : decode cX5_ifSet 31 = .ok (.iconst (-1), 1) := by decide +kernel
theorem dX5_ifSet_32 : decode cX5_ifSet 32 = .ok (.ireturn, 1) := by decide +kernel
theorem dX5_ifSet_33 : decode cX5_ifSet 33 = .ok (.aload_n 0, 1) := by decide +kernel
theorem dX5_ifSet_34 : decode cX5_ifSet 34 = .ok (.getfield 43, 3) := by decide +kernel
theorem dX5_ifSet_37 : decode cX5_ifSet 37 = .ok (.aload_n 0, 1) := by decide +kernel
theorem dX5_ifSet_38 : decode cX5_ifSet 38 = .ok (.getfield 58, 3) := by decide +kernel
theorem dX5_ifSet_41 : decode cX5_ifSet 41 = .ok (.invokevirtual 228, 3) := by decide +kernel
theorem dX5_ifSet_44 : decode cX5_ifSet 44 = .ok (.iload_n 3, 1) := by decide +kernel
theorem dX5_ifSet_45 : decode cX5_ifSet 45 = .ok (.istore 5, 2) := by decide +kernel
theorem dX5_ifSet_47 : decode cX5_ifSet 47 = .ok (.iload 5, 2) := by decide +kernel
theorem dX5_ifSet_49 : decode cX5_ifSet 49 = .ok (.iload 4, 2) := by decide +kernel
theorem dX5_ifSet_51 : decode cX5_ifSet 51 = .ok (.if_icmp .gt 36, 3) := by decide +kernel
theorem dX5_ifSet_54 : decode cX5_ifSet 54 = .ok (.aload_n 0, 1) := by decide +kernel
theorem dX5_ifSet_55 : decode cX5_ifSet 55 = .ok (.getfield 43, 3) := by decide +kernel
theorem dX5_ifSet_58 : decode cX5_ifSet 58 = .ok (.iload 5, 2) := by decide +kernel
theorem dX5_ifSet_60 : decode cX5_ifSet 60 = .ok (.iload_n 1, 1) := by decide +kernel
theorem dX5_ifSet_61 : decode cX5_ifSet 61 = .ok (.if_icmp .ne 7, 3) := by decide +kernel
theorem dX5_ifSet_64 : decode cX5_ifSet 64 = .ok (.iload_n 2, 1) := by decide +kernel
theorem dX5_ifSet_65 : decode cX5_ifSet 65 = .ok (.goto 13, 3) := by decide +kernel
theorem dX5_ifSet_68 : decode cX5_ifSet 68 = .ok (.aload_n 0, 1) := by decide +kernel
theorem dX5_ifSet_69 : decode cX5_ifSet 69 = .ok (.getfield 26, 3) := by decide +kernel
theorem dX5_ifSet_72 : decode cX5_ifSet 72 = .ok (.getfield 106, 3) := by decide +kernel
theorem dX5_ifSet_75 : decode cX5_ifSet 75 = .ok (.iload 5, 2) := by decide +kernel
theorem dX5_ifSet_77 : decode cX5_ifSet 77 = .ok (.iaload, 1) := by decide +kernel
theorem dX5_ifSet_78 : decode cX5_ifSet 78 = .ok (.invokevirtual 231, 3) := by decide +kernel
theorem dX5_ifSet_81 : decode cX5_ifSet 81 = .ok (.iinc 5 1, 3) := by decide +kernel
theorem dX5_ifSet_84 : decode cX5_ifSet 84 = .ok (.goto (-37), 3) := by decide +kernel
theorem dX5_ifSet_87 : decode cX5_ifSet 87 = .ok (.aload_n 0, 1) := by decide +kernel
theorem dX5_ifSet_88 : decode cX5_ifSet 88 = .ok (.getfield 43, 3) := by decide +kernel
theorem dX5_ifSet_91 : decode cX5_ifSet 91 = .ok (.getfield 176, 3) := by decide +kernel
theorem dX5_ifSet_94 : decode cX5_ifSet 94 = .ok (.ireturn, 1) := by decide +kernel
set_option maxRecDepth 20000 in
theorem ggX5_ifOut_X2_hasSpan : GoodIn wsX5_ifOut wsX2_hasSpan := goodIn_r _ [10, 11, 45, 46, 47] rfl (by decide +kernel)
set_option maxRecDepth 20000 in
theorem gX5_ifOut_X2_hasSpan : GoodIn wsX5_ifOut (wsV RX5 145 RX2 yX2_hasSpan wsX2_hasSpan) := goodIn_app (goodIn_r _ [6, 7, 8, 9] rfl (by decide +kernel)) ggX5_ifOut_X2_hasSpan
set_option maxRecDepth 20000 in
theorem ggX5_ifOut_X3_begin : GoodIn wsX5_ifOut wsX3_begin := goodIn_r _ [16, 17, 18, 19, 20, 21, 22, 48, 49, 50, 51, 52, 53, 54, 55] rfl (by decide +kernel)
set_option maxRecDepth 20000 in
theorem gX5_ifOut_X3_begin : GoodIn wsX5_ifOut (wsV RX5 228 RX3 yX3_begin wsX3_begin) := goodIn_app (goodIn_r _ [12, 13, 14, 15] rfl (by decide +kernel)) ggX5_ifOut_X3_begin
set_option maxRecDepth 20000 in
theorem ggX5_ifOut_X3_push : GoodIn wsX5_ifOut wsX3_push := goodIn_r _ [26, 18, 27, 20, 19, 17, 28, 21, 29, 30, 31, 15, 32, 22, 48, 49, 50, 51, 52, 53, 54, 55] rfl (by decide +kernel)
set_option maxRecDepth 20000 in
theorem gX5_ifOut_X3_push : GoodIn wsX5_ifOut (wsV RX5 231 RX3 yX3_push wsX3_push) := goodIn_app (goodIn_r _ [23, 24, 25, 15] rfl (by decide +kernel)) ggX5_ifOut_X3_push
theorem dX5_ifOut_0 : decode cX5_ifOut 0 = .ok (.aload_n 0, 1) := by decide +kernel
theorem dX5_ifOut_1 : decode cX5_ifOut 1 = .ok (.getfield 26, 3) := by decide +kernel
theorem dX5_ifOut_4 : decode cX5_ifOut 4 = .ok (.iload_n 2, 1) := by decide +kernel
theorem dX5_ifOut_5 : decode cX5_ifOut 5 = .ok (.iload_n 3, 1) := by decide +kernel
theorem dX5_ifOut_6 : decode cX5_ifOut 6 = .ok (.invokevirtual 145, 3) := by decide +kernel
theorem dX5_ifOut_9 : decode cX5_ifOut 9 = .ok (.ifCond .eq 13, 3) := by decide +kernel
theorem dX5_ifOut_12 : decode cX5_ifOut 12 = .ok (.iload_n 1, 1) := by decide +kernel
theorem dX5_ifOut_13 : decode cX5_ifOut 13 = .ok (.iload_n 2, 1) := by decide +kernel
theorem dX5_ifOut_14 : decode cX5_ifOut 14 = .ok (.if_icmp .lt 8, 3) := by decide +kernel
theorem dX5_ifOut_17 : decode cX5_ifOut 17 = .ok (.iload_n 1, 1) := by decide +kernel
theorem dX5_ifOut_18 : decode cX5_ifOut 18 = .ok (.iload_n 3, 1) := by decide +kernel
theorem dX5_ifOut_19 : decode cX5_ifOut 19 = .ok (.if_icmp .le 5, 3) := by decide +kernel
theorem dX5_ifOut_22 : decode cX5_ifOut 22 = .ok (.iconst (-1), 1) := by decide +kernel
theorem dX5_ifOut_23 : decode cX5_ifOut 23 = .ok (.ireturn, 1) := by decide +kernel
theorem dX5_ifOut_24 : decode cX5_ifOut 24 = .ok (.iload_n 2, 1) := by decide +kernel
theorem dX5_ifOut_25 : decode cX5_ifOut 25 = .ok (.iload_n 3, 1) := by decide +kernel
theorem dX5_ifOut_26 : decode cX5_ifOut 26 = .ok (.if_icmp .ne 6, 3) := by decide +kernel
theorem dX5_ifOut_29 : decode cX5_ifOut 29 = .ok (.bipush (-2), 2) := by decide +kernel
theorem dX5_ifOut_31 : decode cX5_ifOut 31 = .ok (.ireturn, 1) := by decide +kernel
theorem dX5_ifOut_32 : decode cX5_ifOut 32 = .ok (.aload_n 0, 1) := by decide +kernel
theorem dX5_ifOut_33 : decode cX5_ifOut 33 = .ok (.getfield 43, 3) := by decide +kernel
theorem dX5_ifOut_36 : decode cX5_ifOut 36 = .ok (.aload_n 0, 1) := by decide +kernel
theorem dX5_ifOut_37 : decode cX5_ifOut 37 = .ok (.getfield 58, 3) := by decide +kernel
theorem dX5_ifOut_40 : decode cX5_ifOut 40 = .ok (.invokevirtual 228, 3) := by decide +kernel
theorem dX5_ifOut_43 : decode cX5_ifOut 43 = .ok (.iload_n 2, 1) := by decide +kernel
theorem dX5_ifOut_44 : decode cX5_ifOut 44 = .ok (.istore 4, 2) := by decide +kernel
theorem dX5_ifOut_46 : decode cX5_ifOut 46 = .ok (.iload 4, 2) := by decide +kernel
theorem dX5_ifOut_48 : decode cX5_ifOut 48 = .ok (.iload_n 3, 1) := by decide +kernel
theorem dX5_ifOut_49 : decode cX5_ifOut 49 = .ok (.if_icmp .gt 32, 3) := by decide +kernel
theorem dX5_ifOut_52 : decode cX5_ifOut 52 = .ok (.iload 4, 2) := by decide +kernel
theorem dX5_ifOut_54 : decode cX5_ifOut 54 = .ok (.iload_n 1, 1) := by decide +kernel
theorem dX5_ifOut_55 : decode cX5_ifOut 55 = .ok (.if_icmp .eq 20, 3) := by decide +kernel
theorem dX5_ifOut_58 : decode cX5_ifOut 58 = .ok (.aload_n 0, 1) := by decide +kernel
theorem dX5_ifOut_59 : decode cX5_ifOut 59 = .ok (.getfield 43, 3) := by decide +kernel
theorem dX5_ifOut_62 : decode cX5_ifOut 62 = .ok (.aload_n 0, 1) := by decide +kernel
theorem dX5_ifOut_63 : decode cX5_ifOut 63 = .ok (.getfield 26, 3) := by decide +kernel
theorem dX5_ifOut_66 : decode cX5_ifOut 66 = .ok (.getfield 106, 3) := by decide +kernel
theorem dX5_ifOut_69 : decode cX5_ifOut 69 = .ok (.iload 4, 2) := by decide +kernel
theorem dX5_ifOut_71 : decode cX5_ifOut 71 = .ok (.iaload, 1) := by decide +kernel
theorem dX5_ifOut_72 : decode cX5_ifOut 72 = .ok (.invokevirtual 231, 3) := by decide +kernel
theorem dX5_ifOut_75 : decode cX5_ifOut 75 = .ok (.iinc 4 1, 3) := by decide +kernel
theorem dX5_ifOut_78 : decode cX5_ifOut 78 = .ok (.goto (-32), 3) := by decide +kernel
theorem dX5_ifOut_81 : decode cX5_ifOut 81 = .ok (.aload_n 0, 1) := by decide +kernel
theorem dX5_ifOut_82 : decode cX5_ifOut 82 = .ok (.getfield 43, 3) := by decide +kernel
theorem dX5_ifOut_85 : decode cX5_ifOut 85 = .ok (.getfield 176, 3) := by decide +kernel
theorem dX5_ifOut_88 : decode cX5_ifOut 88 = .ok (.ireturn, 1) := by decide +kernel
set_option maxRecDepth 20000 in
theorem ggX5_ifTies_X2_hasSpan : GoodIn wsX5_ifTies wsX2_hasSpan := goodIn_r _ [9, 10, 44, 45, 46] rfl (by decide +kernel)
set_option maxRecDepth 20000 in
theorem gX5_ifTies_X2_hasSpan : GoodIn wsX5_ifTies (wsV RX5 145 RX2 yX2_hasSpan wsX2_hasSpan) := goodIn_app (goodIn_r _ [5, 6, 7, 8] rfl (by decide +kernel)) ggX5_ifTies_X2_hasSpan
set_option maxRecDepth 20000 in
theorem ggX5_ifTies_X3_begin : GoodIn wsX5_ifTies wsX3_begin := goodIn_r _ [15, 16, 17, 18, 19, 20, 21, 47, 48, 49, 50, 51, 52, 53, 54] rfl (by decide +kernel)
set_option maxRecDepth 20000 in
theorem gX5_ifTies_X3_begin : GoodIn wsX5_ifTies (wsV RX5 228 RX3 yX3_begin wsX3_begin) := goodIn_app (goodIn_r _ [11, 12, 13, 14] rfl (by decide +kernel)) ggX5_ifTies_X3_begin
set_option maxRecDepth 20000 in
theorem ggX5_ifTies_X3_push : GoodIn wsX5_ifTies wsX3_push := goodIn_r _ [25, 17, 26, 19, 18, 16, 27, 20, 28, 29, 30, 14, 31, 21, 47, 48, 49, 50, 51, 52, 53, 54] rfl (by decide +kernel)
set_option maxRecDepth 20000 in
theorem gX5_ifTies_X3_push : GoodIn wsX5_ifTies (wsV RX5 231 RX3 yX3_push wsX3_push) := goodIn_app (goodIn_r _ [22, 23, 24, 14] rfl (by decide +kernel)) ggX5_ifTies_X3_push
theorem dX5_ifTies_0 : decode cX5_ifTies 0 = .ok (.iload_n 1, 1) := by decide +kernel
theorem dX5_ifTies_1 : decode cX5_ifTies 1 = .ok (.ifCond .lt 20, 3) := by decide +kernel
theorem dX5_ifTies_4 : decode cX5_ifTies 4 = .ok (.iload_n 1, 1) := by decide +kernel
theorem dX5_ifTies_5 : decode cX5_ifTies 5 = .ok (.iconst 3, 1) := by decide +kernel
theorem dX5_ifTies_6 : decode cX5_ifTies 6 = .ok (.if_icmp .gt 15, 3) := by decide +kernel
theorem dX5_ifTies_9 : decode cX5_ifTies 9 = .ok (.aload_n 0, 1) := by decide +kernel
theorem dX5_ifTies_10 : decode cX5_ifTies 10 = .ok (.getfield 26, 3) := by decide +kernel
theorem dX5_ifTies_13 : decode cX5_ifTies 13 = .ok (.iload_n 2, 1) := by decide +kernel
theorem dX5_ifTies_14 : decode cX5_ifTies 14 = .ok (.iload_n 3, 1) := by decide +kernel
theorem dX5_ifTies_15 : decode cX5_ifTies 15 = .ok (.invokevirtual 145, 3) := by decide +kernel
theorem dX5_ifTies_18 : decode cX5_ifTies 18 = .ok (.ifCond .ne 5, 3) := by decide +kernel
theorem dX5_ifTies_21 : decode cX5_ifTies 21 = .ok (.iconst (-1), 1) := by decide +kernel
theorem dX5_ifTies_22 : decode cX5_ifTies 22 = .ok (.ireturn, 1) := by decide +kernel
theorem dX5_ifTies_23 : decode cX5_ifTies 23 = .ok (.aload_n 0, 1) := by decide +kernel
theorem dX5_ifTies_24 : decode cX5_ifTies 24 = .ok (.getfield 43, 3) := by decide +kernel
theorem dX5_ifTies_27 : decode cX5_ifTies 27 = .ok (.iload_n 1, 1) := by decide +kernel
theorem dX5_ifTies_28 : decode cX5_ifTies 28 = .ok (.invokevirtual 228, 3) := by decide +kernel
theorem dX5_ifTies_31 : decode cX5_ifTies 31 = .ok (.iload_n 2, 1) := by decide +kernel
theorem dX5_ifTies_32 : decode cX5_ifTies 32 = .ok (.istore 4, 2) := by decide +kernel
theorem dX5_ifTies_34 : decode cX5_ifTies 34 = .ok (.iload 4, 2) := by decide +kernel
theorem dX5_ifTies_36 : decode cX5_ifTies 36 = .ok (.iload_n 3, 1) := by decide +kernel
theorem dX5_ifTies_37 : decode cX5_ifTies 37 = .ok (.if_icmp .gt 26, 3) := by decide +kernel
theorem dX5_ifTies_40 : decode cX5_ifTies 40 = .ok (.aload_n 0, 1) := by decide +kernel
theorem dX5_ifTies_41 : decode cX5_ifTies 41 = .ok (.getfield 43, 3) := by decide +kernel
theorem dX5_ifTies_44 : decode cX5_ifTies 44 = .ok (.aload_n 0, 1) := by decide +kernel
theorem dX5_ifTies_45 : decode cX5_ifTies 45 = .ok (.getfield 26, 3) := by decide +kernel
theorem dX5_ifTies_48 : decode cX5_ifTies 48 = .ok (.getfield 106, 3) := by decide +kernel
theorem dX5_ifTies_51 : decode cX5_ifTies 51 = .ok (.iload 4, 2) := by decide +kernel
theorem dX5_ifTies_53 : decode cX5_ifTies 53 = .ok (.iaload, 1) := by decide +kernel
theorem dX5_ifTies_54 : decode cX5_ifTies 54 = .ok (.invokevirtual 231, 3) := by decide +kernel
theorem dX5_ifTies_57 : decode cX5_ifTies 57 = .ok (.iinc 4 1, 3) := by decide +kernel
theorem dX5_ifTies_60 : decode cX5_ifTies 60 = .ok (.goto (-26), 3) := by decide +kernel
theorem dX5_ifTies_63 : decode cX5_ifTies 63 = .ok (.aload_n 0, 1) := by decide +kernel
theorem dX5_ifTies_64 : decode cX5_ifTies 64 = .ok (.getfield 43, 3) := by decide +kernel
theorem dX5_ifTies_67 : decode cX5_ifTies 67 = .ok (.getfield 176, 3) := by decide +kernel
theorem dX5_ifTies_70 : decode cX5_ifTies 70 = .ok (.ireturn, 1) := by decide +kernel
set_option maxRecDepth 20000 in
theorem ggX5_window_X5_modeOf : GoodIn wsX5_window wsX5_modeOf := goodIn_r _ [7, 8, 9, 10, 11, 12, 6, 13, 14, 1, 15, 16, 17, 18, 19, 20, 21, 22, 23, 24, 25, 26, 27, 28, 29, 30, 31, 32, 33, 34, 35, 36, 37, 38, 39, 40, 41, 42, 43, 44, 45, 46, 47, 48, 52, 53, 54, 55, 56, 57, 58, 59, 49, 50, 51] rfl (by decide +kernel)
set_option maxRecDepth 20000 in
theorem gX5_window_X5_modeOf : GoodIn wsX5_window (wsV RX5 237 RX5 yX5_modeOf wsX5_modeOf) := goodIn_app (goodIn_r _ [3, 4, 5, 6] rfl (by decide +kernel)) ggX5_window_X5_modeOf
theorem dX5_window_0 : decode cX5_window 0 = .ok (.iload_n 1, 1) := by decide +kernel
theorem dX5_window_1 : decode cX5_window 1 = .ok (.iconst 1, 1) := by decide +kernel
theorem dX5_window_2 : decode cX5_window 2 = .ok (.if_icmp .lt 18, 3) := by decide +kernel
theorem dX5_window_5 : decode cX5_window 5 = .ok (.iload_n 1, 1) := by decide +kernel
theorem dX5_window_6 : decode cX5_window 6 = .ok (.aload_n 0, 1) := by decide +kernel
theorem dX5_window_7 : decode cX5_window 7 = .ok (.getfield 26, 3) := by decide +kernel
theorem dX5_window_10 : decode cX5_window 10 = .ok (.getfield 135, 3) := by decide +kernel
theorem dX5_window_13 : decode cX5_window 13 = .ok (.if_icmp .gt 7, 3) := by decide +kernel
theorem dX5_window_16 : decode cX5_window 16 = .ok (.iload_n 2, 1) := by decide +kernel
theorem dX5_window_17 : decode cX5_window 17 = .ok (.ifCond .ge 5, 3) := by decide +kernel
theorem dX5_window_20 : decode cX5_window 20 = .ok (.iconst (-1), 1) := by decide +kernel
theorem dX5_window_21 : decode cX5_window 21 = .ok (.ireturn, 1) := by decide +kernel
theorem dX5_window_22 : decode cX5_window 22 = .ok (.iload_n 2, 1) := by decide +kernel
theorem dX5_window_23 : decode cX5_window 23 = .ok (.aload_n 0, 1) := by decide +kernel
theorem dX5_window_24 : decode cX5_window 24 = .ok (.getfield 26, 3) := by decide +kernel
theorem dX5_window_27 : decode cX5_window 27 = .ok (.getfield 135, 3) := by decide +kernel
theorem dX5_window_30 : decode cX5_window 30 = .ok (.iload_n 1, 1) := by decide +kernel
theorem dX5_window_31 : decode cX5_window 31 = .ok (.isub, 1) := by decide +kernel
theorem dX5_window_32 : decode cX5_window 32 = .ok (.if_icmp .le 6, 3) := by decide +kernel
theorem dX5_window_35 : decode cX5_window 35 = .ok (.bipush (-2), 2) := by decide +kernel
theorem dX5_window_37 : decode cX5_window 37 = .ok (.ireturn, 1) := by decide +kernel
theorem dX5_window_38 : decode cX5_window 38 = .ok (.aload_n 0, 1) := by decide +kernel
theorem dX5_window_39 : decode cX5_window 39 = .ok (.iload_n 2, 1) := by decide +kernel
theorem dX5_window_40 : decode cX5_window 40 = .ok (.iload_n 2, 1) := by decide +kernel
theorem dX5_window_41 : decode cX5_window 41 = .ok (.iload_n 1, 1) := by decide +kernel
theorem dX5_window_42 : decode cX5_window 42 = .ok (.iadd, 1) := by decide +kernel
theorem dX5_window_43 : decode cX5_window 43 = .ok (.iconst 1, 1) := by decide +kernel
theorem dX5_window_44 : decode cX5_window 44 = .ok (.isub, 1) := by decide +kernel
theorem dX5_window_45 : decode cX5_window 45 = .ok (.invokevirtual 237, 3) := by decide +kernel
theorem dX5_window_48 : decode cX5_window 48 = .ok (.ireturn, 1) := by decide +kernel
set_option maxRecDepth 20000 in
theorem ggX5_windows_X5_isBelow : GoodIn wsX5_windows wsX5_isBelow := goodIn_r _ [9] rfl (by decide +kernel)
set_option maxRecDepth 20000 in
theorem gX5_windows_X5_isBelow : GoodIn wsX5_windows (va_wsS RX5 170 yX5_isBelow wsX5_isBelow) := goodIn_app (goodIn_r _ [6, 7, 8] rfl (by decide +kernel)) ggX5_windows_X5_isBelow
set_option maxRecDepth 20000 in
theorem ggX5_windows_X3_begin : GoodIn wsX5_windows wsX3_begin := goodIn_r _ [14, 15, 16, 17, 18, 19, 20, 57, 58, 59, 60, 61, 62, 63, 64] rfl (by decide +kernel)
set_option maxRecDepth 20000 in
theorem gX5_windows_X3_begin : GoodIn wsX5_windows (wsV RX5 228 RX3 yX3_begin wsX3_begin) := goodIn_app (goodIn_r _ [10, 11, 12, 13] rfl (by decide +kernel)) ggX5_windows_X3_begin
set_option maxRecDepth 20000 in
theorem ggX5_windows_X5_modeOf : GoodIn wsX5_windows wsX5_modeOf := goodIn_r _ [24, 25, 5, 26, 27, 28, 8, 29, 30, 1, 31, 10, 11, 12, 13, 14, 15, 16, 17, 18, 19, 20, 32, 33, 34, 35, 36, 37, 38, 39, 40, 41, 42, 43, 44, 45, 46, 47, 48, 49, 50, 51, 52, 53, 57, 58, 59, 60, 61, 62, 63, 64, 54, 55, 56] rfl (by decide +kernel)
set_option maxRecDepth 20000 in
theorem gX5_windows_X5_modeOf : GoodIn wsX5_windows (wsV RX5 237 RX5 yX5_modeOf wsX5_modeOf) := goodIn_app (goodIn_r _ [21, 22, 23, 8] rfl (by decide +kernel)) ggX5_windows_X5_modeOf
set_option maxRecDepth 20000 in
theorem ggX5_windows_X3_push : GoodIn wsX5_windows wsX3_push := goodIn_r _ [35, 16, 36, 18, 17, 15, 37, 19, 38, 39, 40, 13, 41, 20, 57, 58, 59, 60, 61, 62, 63, 64] rfl (by decide +kernel)
set_option maxRecDepth 20000 in
theorem gX5_windows_X3_push : GoodIn wsX5_windows (wsV RX5 231 RX3 yX3_push wsX3_push) := goodIn_app (goodIn_r _ [32, 33, 34, 13] rfl (by decide +kernel)) ggX5_windows_X3_push
theorem dX5_windows_0 : decode cX5_windows 0 = .ok (.iload_n 1, 1) := by decide +kernel
theorem dX5_windows_1 : decode cX5_windows 1 = .ok (.iconst 1, 1) := by decide +kernel
theorem dX5_windows_2 : decode cX5_windows 2 = .ok (.if_icmp .lt 22, 3) := by decide +kernel
theorem dX5_windows_5 : decode cX5_windows 5 = .ok (.iload_n 1, 1) := by decide +kernel
theorem dX5_windows_6 : decode cX5_windows 6 = .ok (.aload_n 0, 1) := by decide +kernel
theorem dX5_windows_7 : decode cX5_windows 7 = .ok (.getfield 26, 3) := by decide +kernel
theorem dX5_windows_10 : decode cX5_windows 10 = .ok (.getfield 135, 3) := by decide +kernel
theorem dX5_windows_13 : decode cX5_windows 13 = .ok (.if_icmp .gt 11, 3) := by decide +kernel
theorem dX5_windows_16 : decode cX5_windows 16 = .ok (.iload_n 2, 1) := by decide +kernel
theorem dX5_windows_17 : decode cX5_windows 17 = .ok (.iconst 3, 1) := by decide +kernel
theorem dX5_windows_18 : decode cX5_windows 18 = .ok (.invokestatic 170, 3) := by decide +kernel
theorem dX5_windows_21 : decode cX5_windows 21 = .ok (.ifCond .ne 5, 3) := by decide +kernel
theorem dX5_windows_24 : decode cX5_windows 24 = .ok (.iconst (-1), 1) := by decide +kernel
theorem dX5_windows_25 : decode cX5_windows 25 = .ok (.ireturn, 1) := by decide +kernel
theorem dX5_windows_26 : decode cX5_windows 26 = .ok (.iconst 0, 1) := by decide +kernel
theorem dX5_windows_27 : decode cX5_windows 27 = .ok (.istore_n 3, 1) := by decide +kernel
theorem dX5_windows_28 : decode cX5_windows 28 = .ok (.iconst (-1), 1) := by decide +kernel
theorem dX5_windows_29 : decode cX5_windows 29 = .ok (.istore 4, 2) := by decide +kernel
theorem dX5_windows_31 : decode cX5_windows 31 = .ok (.aload_n 0, 1) := by decide +kernel
theorem dX5_windows_32 : decode cX5_windows 32 = .ok (.getfield 47, 3) := by decide +kernel
theorem dX5_windows_35 : decode cX5_windows 35 = .ok (.iconst 2, 1) := by decide +kernel
theorem dX5_windows_36 : decode cX5_windows 36 = .ok (.invokevirtual 228, 3) := by decide +kernel
theorem dX5_windows_39 : decode cX5_windows 39 = .ok (.iconst 0, 1) := by decide +kernel
theorem dX5_windows_40 : decode cX5_windows 40 = .ok (.istore 5, 2) := by decide +kernel
theorem dX5_windows_42 : decode cX5_windows 42 = .ok (.iload 5, 2) := by decide +kernel
theorem dX5_windows_44 : decode cX5_windows 44 = .ok (.aload_n 0, 1) := by decide +kernel
theorem dX5_windows_45 : decode cX5_windows 45 = .ok (.getfield 26, 3) := by decide +kernel
theorem dX5_windows_48 : decode cX5_windows 48 = .ok (.getfield 135, 3) := by decide +kernel
theorem dX5_windows_51 : decode cX5_windows 51 = .ok (.iload_n 1, 1) := by decide +kernel
theorem dX5_windows_52 : decode cX5_windows 52 = .ok (.isub, 1) := by decide +kernel
theorem dX5_windows_53 : decode cX5_windows 53 = .ok (.if_icmp .gt 51, 3) := by decide +kernel
theorem dX5_windows_56 : decode cX5_windows 56 = .ok (.aload_n 0, 1) := by decide +kernel
theorem dX5_windows_57 : decode cX5_windows 57 = .ok (.iload 5, 2) := by decide +kernel
theorem dX5_windows_59 : decode cX5_windows 59 = .ok (.iload 5, 2) := by decide +kernel
theorem dX5_windows_61 : decode cX5_windows 61 = .ok (.iload_n 1, 1) := by decide +kernel
theorem dX5_windows_62 : decode cX5_windows 62 = .ok (.iadd, 1) := by decide +kernel
theorem dX5_windows_63 : decode cX5_windows 63 = .ok (.iconst 1, 1) := by decide +kernel
theorem dX5_windows_64 : decode cX5_windows 64 = .ok (.isub, 1) := by decide +kernel
theorem dX5_windows_65 : decode cX5_windows 65 = .ok (.invokevirtual 237, 3) := by decide +kernel
theorem dX5_windows_68 : decode cX5_windows 68 = .ok (.istore 6, 2) := by decide +kernel
theorem dX5_windows_70 : decode cX5_windows 70 = .ok (.iload 5, 2) := by decide +kernel
theorem dX5_windows_72 : decode cX5_windows 72 = .ok (.ifCond .le 13, 3) := by decide +kernel
theorem dX5_windows_75 : decode cX5_windows 75 = .ok (.iload 6, 2) := by decide +kernel
theorem dX5_windows_77 : decode cX5_windows 77 = .ok (.iload 4, 2) := by decide +kernel
theorem dX5_windows_79 : decode cX5_windows 79 = .ok (.if_icmp .eq 6, 3) := by decide +kernel
theorem dX5_windows_82 : decode cX5_windows 82 = .ok (.iinc 3 1, 3) := by decide +kernel
theorem dX5_windows_85 : decode cX5_windows 85 = .ok (.aload_n 0, 1) := by decide +kernel
theorem dX5_windows_86 : decode cX5_windows 86 = .ok (.getfield 47, 3) := by decide +kernel
theorem dX5_windows_89 : decode cX5_windows 89 = .ok (.iload 6, 2) := by decide +kernel
theorem dX5_windows_91 : decode cX5_windows 91 = .ok (.invokevirtual 231, 3) := by decide +kernel
theorem dX5_windows_94 : decode cX5_windows 94 = .ok (.iload 6, 2) := by decide +kernel
theorem dX5_windows_96 : decode cX5_windows 96 = .ok (.istore 4, 2) := by decide +kernel
theorem dX5_windows_98 : decode cX5_windows 98 = .ok (.iinc 5 1, 3) := by decide +kernel
theorem dX5_windows_101 : decode cX5_windows 101 = .ok (.goto (-59), 3) := by decide +kernel
theorem dX5_windows_104 : decode cX5_windows 104 = .ok (.iload_n 2, 1) := by decide +kernel
theorem dX5_windows_105 : decode cX5_windows 105 = .ok (.ifCond .ne 5, 3) := by decide +kernel
theorem dX5_windows_108 : decode cX5_windows 108 = .ok (.iload_n 3, 1) := by decide +kernel
theorem dX5_windows_109 : decode cX5_windows 109 = .ok (.ireturn, 1) := by decide +kernel
theorem dX5_windows_110 : decode cX5_windows 110 = .ok (.iload_n 2, 1) := by decide +kernel
theorem dX5_windows_111 : decode cX5_windows 111 = .ok (.iconst 1, 1) := by decide +kernel
theorem dX5_windows_112 : decode cX5_windows 112 = .ok (.if_icmp .ne 13, 3) := by decide +kernel
theorem dX5_windows_115 : decode cX5_windows 115 = .ok (.aload_n 0, 1) := by decide +kernel
theorem dX5_windows_116 : decode cX5_windows 116 = .ok (.getfield 47, 3) := by decide +kernel
theorem dX5_windows_119 : decode cX5_windows 119 = .ok (.getfield 182, 3) := by decide +kernel
theorem dX5_windows_122 : decode cX5_windows 122 = .ok (.goto 10, 3) := by decide +kernel
theorem dX5_windows_125 : decode cX5_windows 125 = .ok (.aload_n 0, 1) := by decide +kernel
theorem dX5_windows_126 : decode cX5_windows 126 = .ok (.getfield 47, 3) := by decide +kernel
theorem dX5_windows_129 : decode cX5_windows 129 = .ok (.getfield 176, 3) := by decide +kernel
theorem dX5_windows_132 : decode cX5_windows 132 = .ok (.ireturn, 1) := by decide +kernel
set_option maxRecDepth 20000 in
theorem ggX5_beginnings_X5_isBelow : GoodIn wsX5_beginnings wsX5_isBelow := goodIn_r _ [16] rfl (by decide +kernel)
set_option maxRecDepth 20000 in
theorem gX5_beginnings_X5_isBelow : GoodIn wsX5_beginnings (va_wsS RX5 170 yX5_isBelow wsX5_isBelow) := goodIn_app (goodIn_r _ [13, 14, 15] rfl (by decide +kernel)) ggX5_beginnings_X5_isBelow
set_option maxRecDepth 20000 in
theorem ggX5_beginnings_X3_begin : GoodIn wsX5_beginnings wsX3_begin := goodIn_r _ [21, 22, 23, 24, 25, 26, 27, 53, 54, 55, 56, 57, 58, 59, 60] rfl (by decide +kernel)
set_option maxRecDepth 20000 in
theorem gX5_beginnings_X3_begin : GoodIn wsX5_beginnings (wsV RX5 228 RX3 yX3_begin wsX3_begin) := goodIn_app (goodIn_r _ [17, 18, 19, 20] rfl (by decide +kernel)) ggX5_beginnings_X3_begin
set_option maxRecDepth 20000 in
theorem ggX5_beginnings_X3_push : GoodIn wsX5_beginnings wsX3_push := goodIn_r _ [31, 23, 32, 25, 24, 22, 33, 26, 34, 35, 36, 20, 37, 27, 53, 54, 55, 56, 57, 58, 59, 60] rfl (by decide +kernel)
set_option maxRecDepth 20000 in
theorem gX5_beginnings_X3_push : GoodIn wsX5_beginnings (wsV RX5 231 RX3 yX3_push wsX3_push) := goodIn_app (goodIn_r _ [28, 29, 30, 20] rfl (by decide +kernel)) ggX5_beginnings_X3_push
theorem dX5_beginnings_0 : decode cX5_beginnings 0 = .ok (.iload_n 1, 1) := by decide +kernel
theorem dX5_beginnings_1 : decode cX5_beginnings 1 = .ok (.iconst 4, 1) := by decide +kernel
theorem dX5_beginnings_2 : decode cX5_beginnings 2 = .ok (.invokestatic 170, 3) := by decide +kernel
theorem dX5_beginnings_5 : decode cX5_beginnings 5 = .ok (.ifCond .ne 5, 3) := by decide +kernel
theorem dX5_beginnings_8 : decode cX5_beginnings 8 = .ok (.iconst (-1), 1) := by decide +kernel
theorem dX5_beginnings_9 : decode cX5_beginnings 9 = .ok (.ireturn, 1) := by decide +kernel
theorem dX5_beginnings_10 : decode cX5_beginnings 10 = .ok (.iconst 0, 1) := by decide +kernel
theorem dX5_beginnings_11 : decode cX5_beginnings 11 = .ok (.istore_n 2, 1) := by decide +kernel
theorem dX5_beginnings_12 : decode cX5_beginnings 12 = .ok (.iconst 0, 1) := by decide +kernel
theorem dX5_beginnings_13 : decode cX5_beginnings 13 = .ok (.istore_n 3, 1) := by decide +kernel
theorem dX5_beginnings_14 : decode cX5_beginnings 14 = .ok (.bipush (-2), 2) := by decide +kernel
theorem dX5_beginnings_16 : decode cX5_beginnings 16 = .ok (.istore 4, 2) := by decide +kernel
theorem dX5_beginnings_18 : decode cX5_beginnings 18 = .ok (.iconst (-1), 1) := by decide +kernel
theorem dX5_beginnings_19 : decode cX5_beginnings 19 = .ok (.istore 5, 2) := by decide +kernel
theorem dX5_beginnings_21 : decode cX5_beginnings 21 = .ok (.aload_n 0, 1) := by decide +kernel
theorem dX5_beginnings_22 : decode cX5_beginnings 22 = .ok (.getfield 43, 3) := by decide +kernel
theorem dX5_beginnings_25 : decode cX5_beginnings 25 = .ok (.aload_n 0, 1) := by decide +kernel
theorem dX5_beginnings_26 : decode cX5_beginnings 26 = .ok (.getfield 58, 3) := by decide +kernel
theorem dX5_beginnings_29 : decode cX5_beginnings 29 = .ok (.invokevirtual 228, 3) := by decide +kernel
theorem dX5_beginnings_32 : decode cX5_beginnings 32 = .ok (.aload_n 0, 1) := by decide +kernel
theorem dX5_beginnings_33 : decode cX5_beginnings 33 = .ok (.getfield 47, 3) := by decide +kernel
theorem dX5_beginnings_36 : decode cX5_beginnings 36 = .ok (.iconst 2, 1) := by decide +kernel
theorem dX5_beginnings_37 : decode cX5_beginnings 37 = .ok (.invokevirtual 228, 3) := by decide +kernel
theorem dX5_beginnings_40 : decode cX5_beginnings 40 = .ok (.iconst 0, 1) := by decide +kernel
theorem dX5_beginnings_41 : decode cX5_beginnings 41 = .ok (.istore 6, 2) := by decide +kernel
theorem dX5_beginnings_43 : decode cX5_beginnings 43 = .ok (.iload 6, 2) := by decide +kernel
theorem dX5_beginnings_45 : decode cX5_beginnings 45 = .ok (.aload_n 0, 1) := by decide +kernel
theorem dX5_beginnings_46 : decode cX5_beginnings 46 = .ok (.getfield 26, 3) := by decide +kernel
theorem dX5_beginnings_49 : decode cX5_beginnings 49 = .ok (.getfield 135, 3) := by decide +kernel
theorem dX5_beginnings_52 : decode cX5_beginnings 52 = .ok (.if_icmp .ge 83, 3) := by decide +kernel
theorem dX5_beginnings_55 : decode cX5_beginnings 55 = .ok (.aload_n 0, 1) := by decide +kernel
theorem dX5_beginnings_56 : decode cX5_beginnings 56 = .ok (.getfield 43, 3) := by decide +kernel
theorem dX5_beginnings_59 : decode cX5_beginnings 59 = .ok (.aload_n 0, 1) := by decide +kernel
theorem dX5_beginnings_60 : decode cX5_beginnings 60 = .ok (.getfield 26, 3) := by decide +kernel
theorem dX5_beginnings_63 : decode cX5_beginnings 63 = .ok (.getfield 106, 3) := by decide +kernel
theorem dX5_beginnings_66 : decode cX5_beginnings 66 = .ok (.iload 6, 2) := by decide +kernel
theorem dX5_beginnings_68 : decode cX5_beginnings 68 = .ok (.iaload, 1) := by decide +kernel
theorem dX5_beginnings_69 : decode cX5_beginnings 69 = .ok (.invokevirtual 231, 3) := by decide +kernel
theorem dX5_beginnings_72 : decode cX5_beginnings 72 = .ok (.aload_n 0, 1) := by decide +kernel
theorem dX5_beginnings_73 : decode cX5_beginnings 73 = .ok (.getfield 47, 3) := by decide +kernel
theorem dX5_beginnings_76 : decode cX5_beginnings 76 = .ok (.aload_n 0, 1) := by decide +kernel
theorem dX5_beginnings_77 : decode cX5_beginnings 77 = .ok (.getfield 43, 3) := by decide +kernel
theorem dX5_beginnings_80 : decode cX5_beginnings 80 = .ok (.getfield 176, 3) := by decide +kernel
theorem dX5_beginnings_83 : decode cX5_beginnings 83 = .ok (.invokevirtual 231, 3) := by decide +kernel
theorem dX5_beginnings_86 : decode cX5_beginnings 86 = .ok (.iload 6, 2) := by decide +kernel
theorem dX5_beginnings_88 : decode cX5_beginnings 88 = .ok (.ifCond .le 21, 3) := by decide +kernel
theorem dX5_beginnings_91 : decode cX5_beginnings 91 = .ok (.aload_n 0, 1) := by decide +kernel
theorem dX5_beginnings_92 : decode cX5_beginnings 92 = .ok (.getfield 43, 3) := by decide +kernel
theorem dX5_beginnings_95 : decode cX5_beginnings 95 = .ok (.getfield 176, 3) := by decide +kernel
theorem dX5_beginnings_98 : decode cX5_beginnings 98 = .ok (.iload 5, 2) := by decide +kernel
theorem dX5_beginnings_100 : decode cX5_beginnings 100 = .ok (.if_icmp .eq 9, 3) := by decide +kernel
theorem dX5_beginnings_103 : decode cX5_beginnings 103 = .ok (.iinc 2 1, 3) := by decide +kernel
theorem dX5_beginnings_106 : decode cX5_beginnings 106 = .ok (.iload 6, 2) := by decide +kernel
theorem dX5_beginnings_108 : decode cX5_beginnings 108 = .ok (.istore_n 3, 1) := by decide +kernel
theorem dX5_beginnings_109 : decode cX5_beginnings 109 = .ok (.iload 4, 2) := by decide +kernel
theorem dX5_beginnings_111 : decode cX5_beginnings 111 = .ok (.iload 6, 2) := by decide +kernel
theorem dX5_beginnings_113 : decode cX5_beginnings 113 = .ok (.iload_n 3, 1) := by decide +kernel
theorem dX5_beginnings_114 : decode cX5_beginnings 114 = .ok (.isub, 1) := by decide +kernel
theorem dX5_beginnings_115 : decode cX5_beginnings 115 = .ok (.invokestatic 203, 3) := by decide +kernel
theorem dX5_beginnings_118 : decode cX5_beginnings 118 = .ok (.istore 4, 2) := by decide +kernel
theorem dX5_beginnings_120 : decode cX5_beginnings 120 = .ok (.aload_n 0, 1) := by decide +kernel
theorem dX5_beginnings_121 : decode cX5_beginnings 121 = .ok (.getfield 43, 3) := by decide +kernel
theorem dX5_beginnings_124 : decode cX5_beginnings 124 = .ok (.getfield 176, 3) := by decide +kernel
theorem dX5_beginnings_127 : decode cX5_beginnings 127 = .ok (.istore 5, 2) := by decide +kernel
theorem dX5_beginnings_129 : decode cX5_beginnings 129 = .ok (.iinc 6 1, 3) := by decide +kernel
theorem dX5_beginnings_132 : decode cX5_beginnings 132 = .ok (.goto (-89), 3) := by decide +kernel
theorem dX5_beginnings_135 : decode cX5_beginnings 135 = .ok (.iload_n 1, 1) := by decide +kernel
theorem dX5_beginnings_136 : decode cX5_beginnings 136 = .ok (.tableswitch 49 0 2 #[28, 30, 41], 28) := by decide +kernel
theorem dX5_beginnings_164 : decode cX5_beginnings 164 = .ok (.iload_n 2, 1) := by decide +kernel
theorem dX5_beginnings_165 : decode cX5_beginnings 165 = .ok (.ireturn, 1) := by decide +kernel
theorem dX5_beginnings_166 : decode cX5_beginnings 166 = .ok (.iload_n 2, 1) := by decide +kernel
theorem dX5_beginnings_167 : decode cX5_beginnings 167 = .ok (.ifCond .ne 8, 3) := by decide +kernel
theorem dX5_beginnings_170 : decode cX5_beginnings 170 = .ok (.bipush (-2), 2) := by decide +kernel
theorem dX5_beginnings_172 : decode cX5_beginnings 172 = .ok (.goto 4, 3) := by decide +kernel
theorem dX5_beginnings_175 : decode cX5_beginnings 175 = .ok (.iload_n 3, 1) := by decide +kernel
theorem dX5_beginnings_176 : decode cX5_beginnings 176 = .ok (.ireturn, 1) := by decide +kernel
theorem dX5_beginnings_177 : decode cX5_beginnings 177 = .ok (.aload_n 0, 1) := by decide +kernel
theorem dX5_beginnings_178 : decode cX5_beginnings 178 = .ok (.getfield 47, 3) := by decide +kernel
theorem dX5_beginnings_181 : decode cX5_beginnings 181 = .ok (.getfield 182, 3) := by decide +kernel
theorem dX5_beginnings_184 : decode cX5_beginnings 184 = .ok (.ireturn, 1) := by decide +kernel
theorem dX5_beginnings_185 : decode cX5_beginnings 185 = .ok (.iload 4, 2) := by decide +kernel
theorem dX5_beginnings_187 : decode cX5_beginnings 187 = .ok (.ireturn, 1) := by decide +kernel
set_option maxRecDepth 20000 in
theorem ggX5_spans_X5_isValue : GoodIn wsX5_spans wsX5_isValue := goodIn_r _ [10] rfl (by decide +kernel)
set_option maxRecDepth 20000 in
theorem gX5_spans_X5_isValue : GoodIn wsX5_spans (va_wsS RX5 128 yX5_isValue wsX5_isValue) := goodIn_app (goodIn_r _ [7, 8, 9] rfl (by decide +kernel)) ggX5_spans_X5_isValue
set_option maxRecDepth 20000 in
theorem ggX5_spans_X3_begin : GoodIn wsX5_spans wsX3_begin := goodIn_r _ [15, 16, 17, 18, 19, 20, 21, 47, 48, 49, 50, 51, 52, 53, 54] rfl (by decide +kernel)
set_option maxRecDepth 20000 in
theorem gX5_spans_X3_begin : GoodIn wsX5_spans (wsV RX5 228 RX3 yX3_begin wsX3_begin) := goodIn_app (goodIn_r _ [11, 12, 13, 14] rfl (by decide +kernel)) ggX5_spans_X3_begin
set_option maxRecDepth 20000 in
theorem ggX5_spans_X3_push : GoodIn wsX5_spans wsX3_push := goodIn_r _ [25, 17, 26, 19, 18, 16, 27, 20, 28, 29, 30, 14, 31, 21, 47, 48, 49, 50, 51, 52, 53, 54] rfl (by decide +kernel)
set_option maxRecDepth 20000 in
theorem gX5_spans_X3_push : GoodIn wsX5_spans (wsV RX5 231 RX3 yX3_push wsX3_push) := goodIn_app (goodIn_r _ [22, 23, 24, 14] rfl (by decide +kernel)) ggX5_spans_X3_push
theorem dX5_spans_0 : decode cX5_spans 0 = .ok (.iload_n 1, 1) := by decide +kernel
theorem dX5_spans_1 : decode cX5_spans 1 = .ok (.invokestatic 128, 3) := by decide +kernel
theorem dX5_spans_4 : decode cX5_spans 4 = .ok (.ifCond .ne 5, 3) := by decide +kernel
theorem dX5_spans_7 : decode cX5_spans 7 = .ok (.iconst (-1), 1) := by decide +kernel
theorem dX5_spans_8 : decode cX5_spans 8 = .ok (.ireturn, 1) := by decide +kernel
theorem dX5_spans_9 : decode cX5_spans 9 = .ok (.iconst 0, 1) := by decide +kernel
theorem dX5_spans_10 : decode cX5_spans 10 = .ok (.istore_n 2, 1) := by decide +kernel
theorem dX5_spans_11 : decode cX5_spans 11 = .ok (.iconst 0, 1) := by decide +kernel
theorem dX5_spans_12 : decode cX5_spans 12 = .ok (.istore_n 3, 1) := by decide +kernel
theorem dX5_spans_13 : decode cX5_spans 13 = .ok (.iload_n 3, 1) := by decide +kernel
theorem dX5_spans_14 : decode cX5_spans 14 = .ok (.aload_n 0, 1) := by decide +kernel
theorem dX5_spans_15 : decode cX5_spans 15 = .ok (.getfield 26, 3) := by decide +kernel
theorem dX5_spans_18 : decode cX5_spans 18 = .ok (.getfield 135, 3) := by decide +kernel
theorem dX5_spans_21 : decode cX5_spans 21 = .ok (.if_icmp .ge 72, 3) := by decide +kernel
theorem dX5_spans_24 : decode cX5_spans 24 = .ok (.aload_n 0, 1) := by decide +kernel
theorem dX5_spans_25 : decode cX5_spans 25 = .ok (.getfield 43, 3) := by decide +kernel
theorem dX5_spans_28 : decode cX5_spans 28 = .ok (.aload_n 0, 1) := by decide +kernel
theorem dX5_spans_29 : decode cX5_spans 29 = .ok (.getfield 58, 3) := by decide +kernel
theorem dX5_spans_32 : decode cX5_spans 32 = .ok (.invokevirtual 228, 3) := by decide +kernel
theorem dX5_spans_35 : decode cX5_spans 35 = .ok (.iload_n 3, 1) := by decide +kernel
theorem dX5_spans_36 : decode cX5_spans 36 = .ok (.istore 4, 2) := by decide +kernel
theorem dX5_spans_38 : decode cX5_spans 38 = .ok (.iload 4, 2) := by decide +kernel
theorem dX5_spans_40 : decode cX5_spans 40 = .ok (.aload_n 0, 1) := by decide +kernel
theorem dX5_spans_41 : decode cX5_spans 41 = .ok (.getfield 26, 3) := by decide +kernel
theorem dX5_spans_44 : decode cX5_spans 44 = .ok (.getfield 135, 3) := by decide +kernel
theorem dX5_spans_47 : decode cX5_spans 47 = .ok (.if_icmp .ge 40, 3) := by decide +kernel
theorem dX5_spans_50 : decode cX5_spans 50 = .ok (.aload_n 0, 1) := by decide +kernel
theorem dX5_spans_51 : decode cX5_spans 51 = .ok (.getfield 43, 3) := by decide +kernel
theorem dX5_spans_54 : decode cX5_spans 54 = .ok (.aload_n 0, 1) := by decide +kernel
theorem dX5_spans_55 : decode cX5_spans 55 = .ok (.getfield 26, 3) := by decide +kernel
theorem dX5_spans_58 : decode cX5_spans 58 = .ok (.getfield 106, 3) := by decide +kernel
theorem dX5_spans_61 : decode cX5_spans 61 = .ok (.iload 4, 2) := by decide +kernel
theorem dX5_spans_63 : decode cX5_spans 63 = .ok (.iaload, 1) := by decide +kernel
theorem dX5_spans_64 : decode cX5_spans 64 = .ok (.invokevirtual 231, 3) := by decide +kernel
theorem dX5_spans_67 : decode cX5_spans 67 = .ok (.aload_n 0, 1) := by decide +kernel
theorem dX5_spans_68 : decode cX5_spans 68 = .ok (.getfield 43, 3) := by decide +kernel
theorem dX5_spans_71 : decode cX5_spans 71 = .ok (.getfield 176, 3) := by decide +kernel
theorem dX5_spans_74 : decode cX5_spans 74 = .ok (.iload_n 1, 1) := by decide +kernel
theorem dX5_spans_75 : decode cX5_spans 75 = .ok (.if_icmp .ne 6, 3) := by decide +kernel
theorem dX5_spans_78 : decode cX5_spans 78 = .ok (.iinc 2 1, 3) := by decide +kernel
theorem dX5_spans_81 : decode cX5_spans 81 = .ok (.iinc 4 1, 3) := by decide +kernel
theorem dX5_spans_84 : decode cX5_spans 84 = .ok (.goto (-46), 3) := by decide +kernel
theorem dX5_spans_87 : decode cX5_spans 87 = .ok (.iinc 3 1, 3) := by decide +kernel
theorem dX5_spans_90 : decode cX5_spans 90 = .ok (.goto (-77), 3) := by decide +kernel
theorem dX5_spans_93 : decode cX5_spans 93 = .ok (.iload_n 2, 1) := by decide +kernel
theorem dX5_spans_94 : decode cX5_spans 94 = .ok (.ireturn, 1) := by decide +kernel
set_option maxRecDepth 20000 in
theorem ggX5_longest_X5_isValue : GoodIn wsX5_longest wsX5_isValue := goodIn_r _ [10] rfl (by decide +kernel)
set_option maxRecDepth 20000 in
theorem gX5_longest_X5_isValue : GoodIn wsX5_longest (va_wsS RX5 128 yX5_isValue wsX5_isValue) := goodIn_app (goodIn_r _ [7, 8, 9] rfl (by decide +kernel)) ggX5_longest_X5_isValue
set_option maxRecDepth 20000 in
theorem ggX5_longest_X5_isBelow : GoodIn wsX5_longest wsX5_isBelow := goodIn_r _ [13] rfl (by decide +kernel)
set_option maxRecDepth 20000 in
theorem gX5_longest_X5_isBelow : GoodIn wsX5_longest (va_wsS RX5 170 yX5_isBelow wsX5_isBelow) := goodIn_app (goodIn_r _ [11, 12, 9] rfl (by decide +kernel)) ggX5_longest_X5_isBelow
set_option maxRecDepth 20000 in
theorem ggX5_longest_X3_begin : GoodIn wsX5_longest wsX3_begin := goodIn_r _ [18, 19, 20, 21, 22, 23, 24, 54, 55, 56, 57, 58, 59, 60, 61] rfl (by decide +kernel)
set_option maxRecDepth 20000 in
theorem gX5_longest_X3_begin : GoodIn wsX5_longest (wsV RX5 228 RX3 yX3_begin wsX3_begin) := goodIn_app (goodIn_r _ [14, 15, 16, 17] rfl (by decide +kernel)) ggX5_longest_X3_begin
set_option maxRecDepth 20000 in
theorem ggX5_longest_X3_push : GoodIn wsX5_longest wsX3_push := goodIn_r _ [28, 20, 29, 22, 21, 19, 30, 23, 31, 32, 33, 17, 34, 24, 54, 55, 56, 57, 58, 59, 60, 61] rfl (by decide +kernel)
set_option maxRecDepth 20000 in
theorem gX5_longest_X3_push : GoodIn wsX5_longest (wsV RX5 231 RX3 yX3_push wsX3_push) := goodIn_app (goodIn_r _ [25, 26, 27, 17] rfl (by decide +kernel)) ggX5_longest_X3_push
set_option maxRecDepth 20000 in
theorem ggX5_longest_X5_spanTold : GoodIn wsX5_longest wsX5_spanTold := goodIn_r _ [38, 1, 5, 39, 40, 41, 42, 43, 44, 45, 46, 47, 48, 49, 50, 51, 52, 53] rfl (by decide +kernel)
set_option maxRecDepth 20000 in
theorem gX5_longest_X5_spanTold : GoodIn wsX5_longest (wsV RX5 225 RX5 yX5_spanTold wsX5_spanTold) := goodIn_app (goodIn_r _ [35, 36, 37, 9] rfl (by decide +kernel)) ggX5_longest_X5_spanTold
theorem dX5_longest_0 : decode cX5_longest 0 = .ok (.iload_n 1, 1) := by decide +kernel
theorem dX5_longest_1 : decode cX5_longest 1 = .ok (.invokestatic 128, 3) := by decide +kernel
theorem dX5_longest_4 : decode cX5_longest 4 = .ok (.ifCond .eq 11, 3) := by decide +kernel
theorem dX5_longest_7 : decode cX5_longest 7 = .ok (.iload_n 2, 1) := by decide +kernel
theorem dX5_longest_8 : decode cX5_longest 8 = .ok (.iconst 2, 1) := by decide +kernel
theorem dX5_longest_9 : decode cX5_longest 9 = .ok (.invokestatic 170, 3) := by decide +kernel
theorem dX5_longest_12 : decode cX5_longest 12 = .ok (.ifCond .ne 5, 3) := by decide +kernel
theorem dX5_longest_15 : decode cX5_longest 15 = .ok (.iconst (-1), 1) := by decide +kernel
theorem dX5_longest_16 : decode cX5_longest 16 = .ok (.ireturn, 1) := by decide +kernel
theorem dX5_longest_17 : decode cX5_longest 17 = .ok (.iconst 0, 1) := by decide +kernel
theorem dX5_longest_18 : decode cX5_longest 18 = .ok (.istore_n 3, 1) := by decide +kernel
theorem dX5_longest_19 : decode cX5_longest 19 = .ok (.iconst 0, 1) := by decide +kernel
theorem dX5_longest_20 : decode cX5_longest 20 = .ok (.istore 4, 2) := by decide +kernel
theorem dX5_longest_22 : decode cX5_longest 22 = .ok (.iconst 0, 1) := by decide +kernel
theorem dX5_longest_23 : decode cX5_longest 23 = .ok (.istore 5, 2) := by decide +kernel
theorem dX5_longest_25 : decode cX5_longest 25 = .ok (.iload 5, 2) := by decide +kernel
theorem dX5_longest_27 : decode cX5_longest 27 = .ok (.aload_n 0, 1) := by decide +kernel
theorem dX5_longest_28 : decode cX5_longest 28 = .ok (.getfield 26, 3) := by decide +kernel
theorem dX5_longest_31 : decode cX5_longest 31 = .ok (.getfield 135, 3) := by decide +kernel
theorem dX5_longest_34 : decode cX5_longest 34 = .ok (.iload 4, 2) := by decide +kernel
theorem dX5_longest_36 : decode cX5_longest 36 = .ok (.isub, 1) := by decide +kernel
theorem dX5_longest_37 : decode cX5_longest 37 = .ok (.if_icmp .ge 94, 3) := by decide +kernel
theorem dX5_longest_40 : decode cX5_longest 40 = .ok (.aload_n 0, 1) := by decide +kernel
theorem dX5_longest_41 : decode cX5_longest 41 = .ok (.getfield 43, 3) := by decide +kernel
theorem dX5_longest_44 : decode cX5_longest 44 = .ok (.aload_n 0, 1) := by decide +kernel
theorem dX5_longest_45 : decode cX5_longest 45 = .ok (.getfield 58, 3) := by decide +kernel
theorem dX5_longest_48 : decode cX5_longest 48 = .ok (.invokevirtual 228, 3) := by decide +kernel
theorem dX5_longest_51 : decode cX5_longest 51 = .ok (.iload 5, 2) := by decide +kernel
theorem dX5_longest_53 : decode cX5_longest 53 = .ok (.istore 6, 2) := by decide +kernel
theorem dX5_longest_55 : decode cX5_longest 55 = .ok (.iload 6, 2) := by decide +kernel
theorem dX5_longest_57 : decode cX5_longest 57 = .ok (.aload_n 0, 1) := by decide +kernel
theorem dX5_longest_58 : decode cX5_longest 58 = .ok (.getfield 26, 3) := by decide +kernel
theorem dX5_longest_61 : decode cX5_longest 61 = .ok (.getfield 135, 3) := by decide +kernel
theorem dX5_longest_64 : decode cX5_longest 64 = .ok (.if_icmp .ge 61, 3) := by decide +kernel
theorem dX5_longest_67 : decode cX5_longest 67 = .ok (.aload_n 0, 1) := by decide +kernel
theorem dX5_longest_68 : decode cX5_longest 68 = .ok (.getfield 43, 3) := by decide +kernel
theorem dX5_longest_71 : decode cX5_longest 71 = .ok (.aload_n 0, 1) := by decide +kernel
theorem dX5_longest_72 : decode cX5_longest 72 = .ok (.getfield 26, 3) := by decide +kernel
theorem dX5_longest_75 : decode cX5_longest 75 = .ok (.getfield 106, 3) := by decide +kernel
theorem dX5_longest_78 : decode cX5_longest 78 = .ok (.iload 6, 2) := by decide +kernel
theorem dX5_longest_80 : decode cX5_longest 80 = .ok (.iaload, 1) := by decide +kernel
theorem dX5_longest_81 : decode cX5_longest 81 = .ok (.invokevirtual 231, 3) := by decide +kernel
theorem dX5_longest_84 : decode cX5_longest 84 = .ok (.aload_n 0, 1) := by decide +kernel
theorem dX5_longest_85 : decode cX5_longest 85 = .ok (.getfield 43, 3) := by decide +kernel
theorem dX5_longest_88 : decode cX5_longest 88 = .ok (.getfield 176, 3) := by decide +kernel
theorem dX5_longest_91 : decode cX5_longest 91 = .ok (.iload_n 1, 1) := by decide +kernel
theorem dX5_longest_92 : decode cX5_longest 92 = .ok (.if_icmp .ne 27, 3) := by decide +kernel
theorem dX5_longest_95 : decode cX5_longest 95 = .ok (.iload 6, 2) := by decide +kernel
theorem dX5_longest_97 : decode cX5_longest 97 = .ok (.iload 5, 2) := by decide +kernel
theorem dX5_longest_99 : decode cX5_longest 99 = .ok (.isub, 1) := by decide +kernel
theorem dX5_longest_100 : decode cX5_longest 100 = .ok (.iconst 1, 1) := by decide +kernel
theorem dX5_longest_101 : decode cX5_longest 101 = .ok (.iadd, 1) := by decide +kernel
theorem dX5_longest_102 : decode cX5_longest 102 = .ok (.iload 4, 2) := by decide +kernel
theorem dX5_longest_104 : decode cX5_longest 104 = .ok (.if_icmp .le 15, 3) := by decide +kernel
theorem dX5_longest_107 : decode cX5_longest 107 = .ok (.iload 5, 2) := by decide +kernel
theorem dX5_longest_109 : decode cX5_longest 109 = .ok (.istore_n 3, 1) := by decide +kernel
theorem dX5_longest_110 : decode cX5_longest 110 = .ok (.iload 6, 2) := by decide +kernel
theorem dX5_longest_112 : decode cX5_longest 112 = .ok (.iload 5, 2) := by decide +kernel
theorem dX5_longest_114 : decode cX5_longest 114 = .ok (.isub, 1) := by decide +kernel
theorem dX5_longest_115 : decode cX5_longest 115 = .ok (.iconst 1, 1) := by decide +kernel
theorem dX5_longest_116 : decode cX5_longest 116 = .ok (.iadd, 1) := by decide +kernel
theorem dX5_longest_117 : decode cX5_longest 117 = .ok (.istore 4, 2) := by decide +kernel
theorem dX5_longest_119 : decode cX5_longest 119 = .ok (.iinc 6 1, 3) := by decide +kernel
theorem dX5_longest_122 : decode cX5_longest 122 = .ok (.goto (-67), 3) := by decide +kernel
theorem dX5_longest_125 : decode cX5_longest 125 = .ok (.iinc 5 1, 3) := by decide +kernel
theorem dX5_longest_128 : decode cX5_longest 128 = .ok (.goto (-103), 3) := by decide +kernel
theorem dX5_longest_131 : decode cX5_longest 131 = .ok (.aload_n 0, 1) := by decide +kernel
theorem dX5_longest_132 : decode cX5_longest 132 = .ok (.iload_n 3, 1) := by decide +kernel
theorem dX5_longest_133 : decode cX5_longest 133 = .ok (.iload 4, 2) := by decide +kernel
theorem dX5_longest_135 : decode cX5_longest 135 = .ok (.iload_n 2, 1) := by decide +kernel
theorem dX5_longest_136 : decode cX5_longest 136 = .ok (.invokevirtual 225, 3) := by decide +kernel
theorem dX5_longest_139 : decode cX5_longest 139 = .ok (.ireturn, 1) := by decide +kernel
set_option maxRecDepth 20000 in
theorem ggX5_reign_X5_isValue : GoodIn wsX5_reign wsX5_isValue := goodIn_r _ [7] rfl (by decide +kernel)
set_option maxRecDepth 20000 in
theorem gX5_reign_X5_isValue : GoodIn wsX5_reign (va_wsS RX5 128 yX5_isValue wsX5_isValue) := goodIn_app (goodIn_r _ [4, 5, 6] rfl (by decide +kernel)) ggX5_reign_X5_isValue
set_option maxRecDepth 20000 in
theorem ggX5_reign_X5_isBelow : GoodIn wsX5_reign wsX5_isBelow := goodIn_r _ [10] rfl (by decide +kernel)
set_option maxRecDepth 20000 in
theorem gX5_reign_X5_isBelow : GoodIn wsX5_reign (va_wsS RX5 170 yX5_isBelow wsX5_isBelow) := goodIn_app (goodIn_r _ [8, 9, 6] rfl (by decide +kernel)) ggX5_reign_X5_isBelow
set_option maxRecDepth 20000 in
theorem ggX5_reign_X5_spanTold : GoodIn wsX5_reign wsX5_spanTold := goodIn_r _ [14, 1, 3, 15, 16, 17, 18, 19, 20, 21, 22, 23, 24, 25, 26, 27, 28, 29] rfl (by decide +kernel)
set_option maxRecDepth 20000 in
theorem gX5_reign_X5_spanTold : GoodIn wsX5_reign (wsV RX5 225 RX5 yX5_spanTold wsX5_spanTold) := goodIn_app (goodIn_r _ [11, 12, 13, 6] rfl (by decide +kernel)) ggX5_reign_X5_spanTold
theorem dX5_reign_0 : decode cX5_reign 0 = .ok (.iload_n 1, 1) := by decide +kernel
theorem dX5_reign_1 : decode cX5_reign 1 = .ok (.invokestatic 128, 3) := by decide +kernel
theorem dX5_reign_4 : decode cX5_reign 4 = .ok (.ifCond .eq 11, 3) := by decide +kernel
theorem dX5_reign_7 : decode cX5_reign 7 = .ok (.iload_n 2, 1) := by decide +kernel
theorem dX5_reign_8 : decode cX5_reign 8 = .ok (.iconst 2, 1) := by decide +kernel
theorem dX5_reign_9 : decode cX5_reign 9 = .ok (.invokestatic 170, 3) := by decide +kernel
theorem dX5_reign_12 : decode cX5_reign 12 = .ok (.ifCond .ne 5, 3) := by decide +kernel
theorem dX5_reign_15 : decode cX5_reign 15 = .ok (.iconst (-1), 1) := by decide +kernel
theorem dX5_reign_16 : decode cX5_reign 16 = .ok (.ireturn, 1) := by decide +kernel
theorem dX5_reign_17 : decode cX5_reign 17 = .ok (.iconst 0, 1) := by decide +kernel
theorem dX5_reign_18 : decode cX5_reign 18 = .ok (.istore_n 3, 1) := by decide +kernel
theorem dX5_reign_19 : decode cX5_reign 19 = .ok (.iconst 0, 1) := by decide +kernel
theorem dX5_reign_20 : decode cX5_reign 20 = .ok (.istore 4, 2) := by decide +kernel
theorem dX5_reign_22 : decode cX5_reign 22 = .ok (.iconst 0, 1) := by decide +kernel
theorem dX5_reign_23 : decode cX5_reign 23 = .ok (.istore 5, 2) := by decide +kernel
theorem dX5_reign_25 : decode cX5_reign 25 = .ok (.iload 5, 2) := by decide +kernel
theorem dX5_reign_27 : decode cX5_reign 27 = .ok (.aload_n 0, 1) := by decide +kernel
theorem dX5_reign_28 : decode cX5_reign 28 = .ok (.getfield 26, 3) := by decide +kernel
theorem dX5_reign_31 : decode cX5_reign 31 = .ok (.getfield 135, 3) := by decide +kernel
theorem dX5_reign_34 : decode cX5_reign 34 = .ok (.iload 4, 2) := by decide +kernel
theorem dX5_reign_36 : decode cX5_reign 36 = .ok (.isub, 1) := by decide +kernel
theorem dX5_reign_37 : decode cX5_reign 37 = .ok (.if_icmp .ge 89, 3) := by decide +kernel
theorem dX5_reign_40 : decode cX5_reign 40 = .ok (.iconst 0, 1) := by decide +kernel
theorem dX5_reign_41 : decode cX5_reign 41 = .ok (.istore 6, 2) := by decide +kernel
theorem dX5_reign_43 : decode cX5_reign 43 = .ok (.iload 5, 2) := by decide +kernel
theorem dX5_reign_45 : decode cX5_reign 45 = .ok (.istore 7, 2) := by decide +kernel
theorem dX5_reign_47 : decode cX5_reign 47 = .ok (.iload 7, 2) := by decide +kernel
theorem dX5_reign_49 : decode cX5_reign 49 = .ok (.aload_n 0, 1) := by decide +kernel
theorem dX5_reign_50 : decode cX5_reign 50 = .ok (.getfield 26, 3) := by decide +kernel
theorem dX5_reign_53 : decode cX5_reign 53 = .ok (.getfield 135, 3) := by decide +kernel
theorem dX5_reign_56 : decode cX5_reign 56 = .ok (.if_icmp .ge 64, 3) := by decide +kernel
theorem dX5_reign_59 : decode cX5_reign 59 = .ok (.aload_n 0, 1) := by decide +kernel
theorem dX5_reign_60 : decode cX5_reign 60 = .ok (.getfield 26, 3) := by decide +kernel
theorem dX5_reign_63 : decode cX5_reign 63 = .ok (.getfield 106, 3) := by decide +kernel
theorem dX5_reign_66 : decode cX5_reign 66 = .ok (.iload 7, 2) := by decide +kernel
theorem dX5_reign_68 : decode cX5_reign 68 = .ok (.iaload, 1) := by decide +kernel
theorem dX5_reign_69 : decode cX5_reign 69 = .ok (.iload_n 1, 1) := by decide +kernel
theorem dX5_reign_70 : decode cX5_reign 70 = .ok (.if_icmp .ne 6, 3) := by decide +kernel
theorem dX5_reign_73 : decode cX5_reign 73 = .ok (.iinc 6 1, 3) := by decide +kernel
theorem dX5_reign_76 : decode cX5_reign 76 = .ok (.iconst 2, 1) := by decide +kernel
theorem dX5_reign_77 : decode cX5_reign 77 = .ok (.iload 6, 2) := by decide +kernel
theorem dX5_reign_79 : decode cX5_reign 79 = .ok (.imul, 1) := by decide +kernel
theorem dX5_reign_80 : decode cX5_reign 80 = .ok (.iload 7, 2) := by decide +kernel
theorem dX5_reign_82 : decode cX5_reign 82 = .ok (.iload 5, 2) := by decide +kernel
theorem dX5_reign_84 : decode cX5_reign 84 = .ok (.isub, 1) := by decide +kernel
theorem dX5_reign_85 : decode cX5_reign 85 = .ok (.iconst 1, 1) := by decide +kernel
theorem dX5_reign_86 : decode cX5_reign 86 = .ok (.iadd, 1) := by decide +kernel
theorem dX5_reign_87 : decode cX5_reign 87 = .ok (.if_icmp .le 27, 3) := by decide +kernel
theorem dX5_reign_90 : decode cX5_reign 90 = .ok (.iload 7, 2) := by decide +kernel
theorem dX5_reign_92 : decode cX5_reign 92 = .ok (.iload 5, 2) := by decide +kernel
theorem dX5_reign_94 : decode cX5_reign 94 = .ok (.isub, 1) := by decide +kernel
theorem dX5_reign_95 : decode cX5_reign 95 = .ok (.iconst 1, 1) := by decide +kernel
theorem dX5_reign_96 : decode cX5_reign 96 = .ok (.iadd, 1) := by decide +kernel
theorem dX5_reign_97 : decode cX5_reign 97 = .ok (.iload 4, 2) := by decide +kernel
theorem dX5_reign_99 : decode cX5_reign 99 = .ok (.if_icmp .le 15, 3) := by decide +kernel
theorem dX5_reign_102 : decode cX5_reign 102 = .ok (.iload 5, 2) := by decide +kernel
theorem dX5_reign_104 : decode cX5_reign 104 = .ok (.istore_n 3, 1) := by decide +kernel
theorem dX5_reign_105 : decode cX5_reign 105 = .ok (.iload 7, 2) := by decide +kernel
theorem dX5_reign_107 : decode cX5_reign 107 = .ok (.iload 5, 2) := by decide +kernel
theorem dX5_reign_109 : decode cX5_reign 109 = .ok (.isub, 1) := by decide +kernel
theorem dX5_reign_110 : decode cX5_reign 110 = .ok (.iconst 1, 1) := by decide +kernel
theorem dX5_reign_111 : decode cX5_reign 111 = .ok (.iadd, 1) := by decide +kernel
theorem dX5_reign_112 : decode cX5_reign 112 = .ok (.istore 4, 2) := by decide +kernel
theorem dX5_reign_114 : decode cX5_reign 114 = .ok (.iinc 7 1, 3) := by decide +kernel
theorem dX5_reign_117 : decode cX5_reign 117 = .ok (.goto (-70), 3) := by decide +kernel
theorem dX5_reign_120 : decode cX5_reign 120 = .ok (.iinc 5 1, 3) := by decide +kernel
theorem dX5_reign_123 : decode cX5_reign 123 = .ok (.goto (-98), 3) := by decide +kernel
theorem dX5_reign_126 : decode cX5_reign 126 = .ok (.aload_n 0, 1) := by decide +kernel
theorem dX5_reign_127 : decode cX5_reign 127 = .ok (.iload_n 3, 1) := by decide +kernel
theorem dX5_reign_128 : decode cX5_reign 128 = .ok (.iload 4, 2) := by decide +kernel
theorem dX5_reign_130 : decode cX5_reign 130 = .ok (.iload_n 2, 1) := by decide +kernel
theorem dX5_reign_131 : decode cX5_reign 131 = .ok (.invokevirtual 225, 3) := by decide +kernel
theorem dX5_reign_134 : decode cX5_reign 134 = .ok (.ireturn, 1) := by decide +kernel
set_option maxRecDepth 20000 in
theorem ggX5_tightest_X5_isBelow : GoodIn wsX5_tightest wsX5_isBelow := goodIn_r _ [7] rfl (by decide +kernel)
set_option maxRecDepth 20000 in
theorem gX5_tightest_X5_isBelow : GoodIn wsX5_tightest (va_wsS RX5 170 yX5_isBelow wsX5_isBelow) := goodIn_app (goodIn_r _ [4, 5, 6] rfl (by decide +kernel)) ggX5_tightest_X5_isBelow
set_option maxRecDepth 20000 in
theorem ggX5_tightest_X2_nth : GoodIn wsX5_tightest wsX2_nth := goodIn_r _ [12, 13, 14, 31, 32, 33] rfl (by decide +kernel)
set_option maxRecDepth 20000 in
theorem gX5_tightest_X2_nth : GoodIn wsX5_tightest (wsV RX5 240 RX2 yX2_nth wsX2_nth) := goodIn_app (goodIn_r _ [8, 9, 10, 11] rfl (by decide +kernel)) ggX5_tightest_X2_nth
set_option maxRecDepth 20000 in
theorem ggX5_tightest_X5_spanTold : GoodIn wsX5_tightest wsX5_spanTold := goodIn_r _ [18, 1, 3, 19, 20, 21, 22, 23, 24, 25, 26, 27, 28, 29, 30, 31, 32, 33] rfl (by decide +kernel)
set_option maxRecDepth 20000 in
theorem gX5_tightest_X5_spanTold : GoodIn wsX5_tightest (wsV RX5 225 RX5 yX5_spanTold wsX5_spanTold) := goodIn_app (goodIn_r _ [15, 16, 17, 6] rfl (by decide +kernel)) ggX5_tightest_X5_spanTold
theorem dX5_tightest_0 : decode cX5_tightest 0 = .ok (.iload_n 1, 1) := by decide +kernel
theorem dX5_tightest_1 : decode cX5_tightest 1 = .ok (.iconst 1, 1) := by decide +kernel
theorem dX5_tightest_2 : decode cX5_tightest 2 = .ok (.if_icmp .lt 11, 3) := by decide +kernel
theorem dX5_tightest_5 : decode cX5_tightest 5 = .ok (.iload_n 2, 1) := by decide +kernel
theorem dX5_tightest_6 : decode cX5_tightest 6 = .ok (.iconst 3, 1) := by decide +kernel
theorem dX5_tightest_7 : decode cX5_tightest 7 = .ok (.invokestatic 170, 3) := by decide +kernel
theorem dX5_tightest_10 : decode cX5_tightest 10 = .ok (.ifCond .ne 5, 3) := by decide +kernel
theorem dX5_tightest_13 : decode cX5_tightest 13 = .ok (.iconst (-1), 1) := by decide +kernel
theorem dX5_tightest_14 : decode cX5_tightest 14 = .ok (.ireturn, 1) := by decide +kernel
theorem dX5_tightest_15 : decode cX5_tightest 15 = .ok (.iconst 0, 1) := by decide +kernel
theorem dX5_tightest_16 : decode cX5_tightest 16 = .ok (.istore_n 3, 1) := by decide +kernel
theorem dX5_tightest_17 : decode cX5_tightest 17 = .ok (.iconst 0, 1) := by decide +kernel
theorem dX5_tightest_18 : decode cX5_tightest 18 = .ok (.istore 4, 2) := by decide +kernel
theorem dX5_tightest_20 : decode cX5_tightest 20 = .ok (.iconst 0, 1) := by decide +kernel
theorem dX5_tightest_21 : decode cX5_tightest 21 = .ok (.istore 5, 2) := by decide +kernel
theorem dX5_tightest_23 : decode cX5_tightest 23 = .ok (.iload 5, 2) := by decide +kernel
theorem dX5_tightest_25 : decode cX5_tightest 25 = .ok (.aload_n 0, 1) := by decide +kernel
theorem dX5_tightest_26 : decode cX5_tightest 26 = .ok (.getfield 26, 3) := by decide +kernel
theorem dX5_tightest_29 : decode cX5_tightest 29 = .ok (.getfield 135, 3) := by decide +kernel
theorem dX5_tightest_32 : decode cX5_tightest 32 = .ok (.if_icmp .ge 67, 3) := by decide +kernel
theorem dX5_tightest_35 : decode cX5_tightest 35 = .ok (.aload_n 0, 1) := by decide +kernel
theorem dX5_tightest_36 : decode cX5_tightest 36 = .ok (.getfield 26, 3) := by decide +kernel
theorem dX5_tightest_39 : decode cX5_tightest 39 = .ok (.aload_n 0, 1) := by decide +kernel
theorem dX5_tightest_40 : decode cX5_tightest 40 = .ok (.getfield 26, 3) := by decide +kernel
theorem dX5_tightest_43 : decode cX5_tightest 43 = .ok (.getfield 106, 3) := by decide +kernel
theorem dX5_tightest_46 : decode cX5_tightest 46 = .ok (.iload 5, 2) := by decide +kernel
theorem dX5_tightest_48 : decode cX5_tightest 48 = .ok (.iaload, 1) := by decide +kernel
theorem dX5_tightest_49 : decode cX5_tightest 49 = .ok (.iload 5, 2) := by decide +kernel
theorem dX5_tightest_51 : decode cX5_tightest 51 = .ok (.iload_n 1, 1) := by decide +kernel
theorem dX5_tightest_52 : decode cX5_tightest 52 = .ok (.invokevirtual 240, 3) := by decide +kernel
theorem dX5_tightest_55 : decode cX5_tightest 55 = .ok (.istore 6, 2) := by decide +kernel
theorem dX5_tightest_57 : decode cX5_tightest 57 = .ok (.iload 6, 2) := by decide +kernel
theorem dX5_tightest_59 : decode cX5_tightest 59 = .ok (.bipush (-2), 2) := by decide +kernel
theorem dX5_tightest_61 : decode cX5_tightest 61 = .ok (.if_icmp .eq 32, 3) := by decide +kernel
theorem dX5_tightest_64 : decode cX5_tightest 64 = .ok (.iload 4, 2) := by decide +kernel
theorem dX5_tightest_66 : decode cX5_tightest 66 = .ok (.ifCond .eq 15, 3) := by decide +kernel
theorem dX5_tightest_69 : decode cX5_tightest 69 = .ok (.iload 6, 2) := by decide +kernel
theorem dX5_tightest_71 : decode cX5_tightest 71 = .ok (.iload 5, 2) := by decide +kernel
theorem dX5_tightest_73 : decode cX5_tightest 73 = .ok (.isub, 1) := by decide +kernel
theorem dX5_tightest_74 : decode cX5_tightest 74 = .ok (.iconst 1, 1) := by decide +kernel
theorem dX5_tightest_75 : decode cX5_tightest 75 = .ok (.iadd, 1) := by decide +kernel
theorem dX5_tightest_76 : decode cX5_tightest 76 = .ok (.iload 4, 2) := by decide +kernel
theorem dX5_tightest_78 : decode cX5_tightest 78 = .ok (.if_icmp .ge 15, 3) := by decide +kernel
theorem dX5_tightest_81 : decode cX5_tightest 81 = .ok (.iload 5, 2) := by decide +kernel
theorem dX5_tightest_83 : decode cX5_tightest 83 = .ok (.istore_n 3, 1) := by decide +kernel
theorem dX5_tightest_84 : decode cX5_tightest 84 = .ok (.iload 6, 2) := by decide +kernel
theorem dX5_tightest_86 : decode cX5_tightest 86 = .ok (.iload 5, 2) := by decide +kernel
theorem dX5_tightest_88 : decode cX5_tightest 88 = .ok (.isub, 1) := by decide +kernel
theorem dX5_tightest_89 : decode cX5_tightest 89 = .ok (.iconst 1, 1) := by decide +kernel
theorem dX5_tightest_90 : decode cX5_tightest 90 = .ok (.iadd, 1) := by decide +kernel
theorem dX5_tightest_91 : decode cX5_tightest 91 = .ok (.istore 4, 2) := by decide +kernel
theorem dX5_tightest_93 : decode cX5_tightest 93 = .ok (.iinc 5 1, 3) := by decide +kernel
theorem dX5_tightest_96 : decode cX5_tightest 96 = .ok (.goto (-73), 3) := by decide +kernel
theorem dX5_tightest_99 : decode cX5_tightest 99 = .ok (.aload_n 0, 1) := by decide +kernel
theorem dX5_tightest_100 : decode cX5_tightest 100 = .ok (.iload_n 3, 1) := by decide +kernel
theorem dX5_tightest_101 : decode cX5_tightest 101 = .ok (.iload 4, 2) := by decide +kernel
theorem dX5_tightest_103 : decode cX5_tightest 103 = .ok (.iload_n 2, 1) := by decide +kernel
theorem dX5_tightest_104 : decode cX5_tightest 104 = .ok (.invokevirtual 225, 3) := by decide +kernel
theorem dX5_tightest_107 : decode cX5_tightest 107 = .ok (.ireturn, 1) := by decide +kernel
set_option maxRecDepth 20000 in
theorem ggX5_wide_X5_widthWith : GoodIn wsX5_wide wsX5_widthWith := goodIn_r _ [8, 9, 10, 1, 2, 11, 12, 13, 14, 15, 16, 17, 18, 19, 20, 21, 22, 23, 24, 25, 26, 27, 28, 29, 30, 31, 32, 33, 34, 35, 36, 37, 38, 39, 40, 41, 42, 43, 44, 45, 46, 47, 48, 49, 50, 51, 52, 53, 54, 55, 56, 57, 58, 59] rfl (by decide +kernel)
set_option maxRecDepth 20000 in
theorem gX5_wide_X5_widthWith : GoodIn wsX5_wide (wsV RX5 243 RX5 yX5_widthWith wsX5_widthWith) := goodIn_app (goodIn_r _ [4, 5, 6, 7] rfl (by decide +kernel)) ggX5_wide_X5_widthWith
theorem dX5_wide_0 : decode cX5_wide 0 = .ok (.iload_n 1, 1) := by decide +kernel
theorem dX5_wide_1 : decode cX5_wide 1 = .ok (.iconst 1, 1) := by decide +kernel
theorem dX5_wide_2 : decode cX5_wide 2 = .ok (.if_icmp .ge 5, 3) := by decide +kernel
theorem dX5_wide_5 : decode cX5_wide 5 = .ok (.iconst (-1), 1) := by decide +kernel
theorem dX5_wide_6 : decode cX5_wide 6 = .ok (.ireturn, 1) := by decide +kernel
theorem dX5_wide_7 : decode cX5_wide 7 = .ok (.iconst 0, 1) := by decide +kernel
theorem dX5_wide_8 : decode cX5_wide 8 = .ok (.istore_n 2, 1) := by decide +kernel
theorem dX5_wide_9 : decode cX5_wide 9 = .ok (.iload_n 2, 1) := by decide +kernel
theorem dX5_wide_10 : decode cX5_wide 10 = .ok (.aload_n 0, 1) := by decide +kernel
theorem dX5_wide_11 : decode cX5_wide 11 = .ok (.getfield 26, 3) := by decide +kernel
theorem dX5_wide_14 : decode cX5_wide 14 = .ok (.getfield 135, 3) := by decide +kernel
theorem dX5_wide_17 : decode cX5_wide 17 = .ok (.if_icmp .ge 21, 3) := by decide +kernel
theorem dX5_wide_20 : decode cX5_wide 20 = .ok (.aload_n 0, 1) := by decide +kernel
theorem dX5_wide_21 : decode cX5_wide 21 = .ok (.getfield 50, 3) := by decide +kernel
theorem dX5_wide_24 : decode cX5_wide 24 = .ok (.iload_n 2, 1) := by decide +kernel
theorem dX5_wide_25 : decode cX5_wide 25 = .ok (.aload_n 0, 1) := by decide +kernel
theorem dX5_wide_26 : decode cX5_wide 26 = .ok (.iload_n 1, 1) := by decide +kernel
theorem dX5_wide_27 : decode cX5_wide 27 = .ok (.iload_n 2, 1) := by decide +kernel
theorem dX5_wide_28 : decode cX5_wide 28 = .ok (.invokevirtual 243, 3) := by decide +kernel
theorem dX5_wide_31 : decode cX5_wide 31 = .ok (.iastore, 1) := by decide +kernel
theorem dX5_wide_32 : decode cX5_wide 32 = .ok (.iinc 2 1, 3) := by decide +kernel
theorem dX5_wide_35 : decode cX5_wide 35 = .ok (.goto (-26), 3) := by decide +kernel
theorem dX5_wide_38 : decode cX5_wide 38 = .ok (.iconst 1, 1) := by decide +kernel
theorem dX5_wide_39 : decode cX5_wide 39 = .ok (.istore_n 2, 1) := by decide +kernel
theorem dX5_wide_40 : decode cX5_wide 40 = .ok (.iload_n 2, 1) := by decide +kernel
theorem dX5_wide_41 : decode cX5_wide 41 = .ok (.aload_n 0, 1) := by decide +kernel
theorem dX5_wide_42 : decode cX5_wide 42 = .ok (.getfield 26, 3) := by decide +kernel
theorem dX5_wide_45 : decode cX5_wide 45 = .ok (.getfield 135, 3) := by decide +kernel
theorem dX5_wide_48 : decode cX5_wide 48 = .ok (.if_icmp .gt 55, 3) := by decide +kernel
theorem dX5_wide_51 : decode cX5_wide 51 = .ok (.iconst 0, 1) := by decide +kernel
theorem dX5_wide_52 : decode cX5_wide 52 = .ok (.istore_n 3, 1) := by decide +kernel
theorem dX5_wide_53 : decode cX5_wide 53 = .ok (.iload_n 3, 1) := by decide +kernel
theorem dX5_wide_54 : decode cX5_wide 54 = .ok (.aload_n 0, 1) := by decide +kernel
theorem dX5_wide_55 : decode cX5_wide 55 = .ok (.getfield 26, 3) := by decide +kernel
theorem dX5_wide_58 : decode cX5_wide 58 = .ok (.getfield 135, 3) := by decide +kernel
theorem dX5_wide_61 : decode cX5_wide 61 = .ok (.iload_n 2, 1) := by decide +kernel
theorem dX5_wide_62 : decode cX5_wide 62 = .ok (.isub, 1) := by decide +kernel
theorem dX5_wide_63 : decode cX5_wide 63 = .ok (.if_icmp .gt 19, 3) := by decide +kernel
theorem dX5_wide_66 : decode cX5_wide 66 = .ok (.aload_n 0, 1) := by decide +kernel
theorem dX5_wide_67 : decode cX5_wide 67 = .ok (.getfield 50, 3) := by decide +kernel
theorem dX5_wide_70 : decode cX5_wide 70 = .ok (.iload_n 3, 1) := by decide +kernel
theorem dX5_wide_71 : decode cX5_wide 71 = .ok (.iaload, 1) := by decide +kernel
theorem dX5_wide_72 : decode cX5_wide 72 = .ok (.iload_n 2, 1) := by decide +kernel
theorem dX5_wide_73 : decode cX5_wide 73 = .ok (.if_icmp .gt 9, 3) := by decide +kernel
theorem dX5_wide_76 : decode cX5_wide 76 = .ok (.iinc 3 1, 3) := by decide +kernel
theorem dX5_wide_79 : decode cX5_wide 79 = .ok (.goto (-26), 3) := by decide +kernel
theorem dX5_wide_82 : decode cX5_wide 82 = .ok (.iload_n 3, 1) := by decide +kernel
theorem dX5_wide_83 : decode cX5_wide 83 = .ok (.aload_n 0, 1) := by decide +kernel
theorem dX5_wide_84 : decode cX5_wide 84 = .ok (.getfield 26, 3) := by decide +kernel
theorem dX5_wide_87 : decode cX5_wide 87 = .ok (.getfield 135, 3) := by decide +kernel
theorem dX5_wide_90 : decode cX5_wide 90 = .ok (.iload_n 2, 1) := by decide +kernel
theorem dX5_wide_91 : decode cX5_wide 91 = .ok (.isub, 1) := by decide +kernel
theorem dX5_wide_92 : decode cX5_wide 92 = .ok (.if_icmp .le 5, 3) := by decide +kernel
theorem dX5_wide_95 : decode cX5_wide 95 = .ok (.iload_n 2, 1) := by decide +kernel
theorem dX5_wide_96 : decode cX5_wide 96 = .ok (.ireturn, 1) := by decide +kernel
theorem dX5_wide_97 : decode cX5_wide 97 = .ok (.iinc 2 1, 3) := by decide +kernel
theorem dX5_wide_100 : decode cX5_wide 100 = .ok (.goto (-60), 3) := by decide +kernel
theorem dX5_wide_103 : decode cX5_wide 103 = .ok (.bipush (-2), 2) := by decide +kernel
theorem dX5_wide_105 : decode cX5_wide 105 = .ok (.ireturn, 1) := by decide +kernel
set_option maxRecDepth 20000 in
theorem ggX5_part_X5_fewestParts : GoodIn wsX5_part wsX5_fewestParts := goodIn_r _ [6, 1, 7, 8, 9, 10, 11, 12, 13, 14, 15, 16, 17, 18, 19, 20, 21, 22, 23, 24, 25, 26, 27, 28, 29, 30, 31, 32, 33, 34, 35, 36, 37, 38, 39, 40, 41, 42, 43, 44, 49, 50, 51, 52, 53, 54, 55, 56, 57, 58, 59, 60, 61, 62, 63, 64, 65, 66, 67, 68, 69, 70, 71] rfl (by decide +kernel)
set_option maxRecDepth 20000 in
theorem gX5_part_X5_fewestParts : GoodIn wsX5_part (wsV RX5 246 RX5 yX5_fewestParts wsX5_fewestParts) := goodIn_app (goodIn_r _ [2, 3, 4, 5] rfl (by decide +kernel)) ggX5_part_X5_fewestParts
set_option maxRecDepth 20000 in
theorem ggX5_part_X5_behindPart : GoodIn wsX5_part wsX5_behindPart := goodIn_r _ [48, 9, 10, 7, 8, 11, 1, 16, 17, 18, 19, 20, 21, 22, 23, 24, 25, 26, 27, 28, 29, 30, 31, 32, 33, 34, 35, 36, 37, 38, 39, 40, 41, 42, 43, 44, 49, 50, 51, 52, 53, 54, 55, 56, 57, 58, 59, 60, 61, 62, 63, 64, 65, 66, 67, 68, 69, 70, 71] rfl (by decide +kernel)
set_option maxRecDepth 20000 in
theorem gX5_part_X5_behindPart : GoodIn wsX5_part (wsV RX5 249 RX5 yX5_behindPart wsX5_behindPart) := goodIn_app (goodIn_r _ [45, 46, 47, 5] rfl (by decide +kernel)) ggX5_part_X5_behindPart
theorem dX5_part_0 : decode cX5_part 0 = .ok (.iload_n 1, 1) := by decide +kernel
theorem dX5_part_1 : decode cX5_part 1 = .ok (.iconst (-1), 1) := by decide +kernel
theorem dX5_part_2 : decode cX5_part 2 = .ok (.if_icmp .ge 5, 3) := by decide +kernel
theorem dX5_part_5 : decode cX5_part 5 = .ok (.iconst (-1), 1) := by decide +kernel
theorem dX5_part_6 : decode cX5_part 6 = .ok (.ireturn, 1) := by decide +kernel
theorem dX5_part_7 : decode cX5_part 7 = .ok (.aload_n 0, 1) := by decide +kernel
theorem dX5_part_8 : decode cX5_part 8 = .ok (.invokevirtual 246, 3) := by decide +kernel
theorem dX5_part_11 : decode cX5_part 11 = .ok (.aload_n 0, 1) := by decide +kernel
theorem dX5_part_12 : decode cX5_part 12 = .ok (.getfield 50, 3) := by decide +kernel
theorem dX5_part_15 : decode cX5_part 15 = .ok (.iconst 0, 1) := by decide +kernel
theorem dX5_part_16 : decode cX5_part 16 = .ok (.iaload, 1) := by decide +kernel
theorem dX5_part_17 : decode cX5_part 17 = .ok (.istore_n 2, 1) := by decide +kernel
theorem dX5_part_18 : decode cX5_part 18 = .ok (.iload_n 1, 1) := by decide +kernel
theorem dX5_part_19 : decode cX5_part 19 = .ok (.iconst (-1), 1) := by decide +kernel
theorem dX5_part_20 : decode cX5_part 20 = .ok (.if_icmp .ne 5, 3) := by decide +kernel
theorem dX5_part_23 : decode cX5_part 23 = .ok (.iload_n 2, 1) := by decide +kernel
theorem dX5_part_24 : decode cX5_part 24 = .ok (.ireturn, 1) := by decide +kernel
theorem dX5_part_25 : decode cX5_part 25 = .ok (.iload_n 1, 1) := by decide +kernel
theorem dX5_part_26 : decode cX5_part 26 = .ok (.iload_n 2, 1) := by decide +kernel
theorem dX5_part_27 : decode cX5_part 27 = .ok (.if_icmp .lt 6, 3) := by decide +kernel
theorem dX5_part_30 : decode cX5_part 30 = .ok (.bipush (-2), 2) := by decide +kernel
theorem dX5_part_32 : decode cX5_part 32 = .ok (.ireturn, 1) := by decide +kernel
theorem dX5_part_33 : decode cX5_part 33 = .ok (.iconst 0, 1) := by decide +kernel
theorem dX5_part_34 : decode cX5_part 34 = .ok (.istore_n 3, 1) := by decide +kernel
theorem dX5_part_35 : decode cX5_part 35 = .ok (.iconst 0, 1) := by decide +kernel
theorem dX5_part_36 : decode cX5_part 36 = .ok (.istore 4, 2) := by decide +kernel
theorem dX5_part_38 : decode cX5_part 38 = .ok (.iload 4, 2) := by decide +kernel
theorem dX5_part_40 : decode cX5_part 40 = .ok (.iload_n 1, 1) := by decide +kernel
theorem dX5_part_41 : decode cX5_part 41 = .ok (.if_icmp .ge 15, 3) := by decide +kernel
theorem dX5_part_44 : decode cX5_part 44 = .ok (.aload_n 0, 1) := by decide +kernel
theorem dX5_part_45 : decode cX5_part 45 = .ok (.iload_n 3, 1) := by decide +kernel
theorem dX5_part_46 : decode cX5_part 46 = .ok (.invokevirtual 249, 3) := by decide +kernel
theorem dX5_part_49 : decode cX5_part 49 = .ok (.istore_n 3, 1) := by decide +kernel
theorem dX5_part_50 : decode cX5_part 50 = .ok (.iinc 4 1, 3) := by decide +kernel
theorem dX5_part_53 : decode cX5_part 53 = .ok (.goto (-15), 3) := by decide +kernel
theorem dX5_part_56 : decode cX5_part 56 = .ok (.iload_n 3, 1) := by decide +kernel
theorem dX5_part_57 : decode cX5_part 57 = .ok (.ireturn, 1) := by decide +kernel
set_option maxRecDepth 20000 in
theorem ggX5_count_X5_blocksOf : GoodIn wsX5_count wsX5_blocksOf := goodIn_r _ [16, 2, 3, 62, 63, 64, 50, 51, 52, 53, 54, 55, 56, 57, 58, 59, 60, 61] rfl (by decide +kernel)
set_option maxRecDepth 20000 in
theorem gX5_count_X5_blocksOf : GoodIn wsX5_count (wsV RX5 214 RX5 yX5_blocksOf wsX5_blocksOf) := goodIn_app (goodIn_r _ [12, 13, 14, 15] rfl (by decide +kernel)) ggX5_count_X5_blocksOf
set_option maxRecDepth 20000 in
theorem ggX5_count_X5_tallySpan : GoodIn wsX5_count wsX5_tallySpan := goodIn_r _ [20, 6, 4, 1, 21, 22, 23, 24, 25, 26, 27, 28, 29, 30, 31, 32, 33, 34, 35, 36, 37, 38, 39, 40, 41, 42, 50, 51, 52, 53, 54, 55, 56, 57, 58, 59, 60, 61, 62, 63, 64, 65, 66, 67, 68, 69, 70, 71, 72] rfl (by decide +kernel)
set_option maxRecDepth 20000 in
theorem gX5_count_X5_tallySpan : GoodIn wsX5_count (wsV RX5 173 RX5 yX5_tallySpan wsX5_tallySpan) := goodIn_app (goodIn_r _ [17, 18, 19, 15] rfl (by decide +kernel)) ggX5_count_X5_tallySpan
set_option maxRecDepth 20000 in
theorem ggX5_count_X2_allWeights : GoodIn wsX5_count wsX2_allWeights := goodIn_r _ [47, 48, 49, 62, 63, 64] rfl (by decide +kernel)
set_option maxRecDepth 20000 in
theorem gX5_count_X2_allWeights : GoodIn wsX5_count (wsV RX5 253 RX2 yX2_allWeights wsX2_allWeights) := goodIn_app (goodIn_r _ [43, 44, 45, 46] rfl (by decide +kernel)) ggX5_count_X2_allWeights
theorem dX5_count_0 : decode cX5_count 0 = .ok (.iload_n 1, 1) := by decide +kernel
theorem dX5_count_1 : decode cX5_count 1 = .ok (.tableswitch 129 0 8 #[51, 59, 64, 73, 78, 83, 105, 113, 121], 51) := by decide +kernel
theorem dX5_count_52 : decode cX5_count 52 = .ok (.aload_n 0, 1) := by decide +kernel
theorem dX5_count_53 : decode cX5_count 53 = .ok (.getfield 26, 3) := by decide +kernel
theorem dX5_count_56 : decode cX5_count 56 = .ok (.getfield 135, 3) := by decide +kernel
theorem dX5_count_59 : decode cX5_count 59 = .ok (.ireturn, 1) := by decide +kernel
theorem dX5_count_60 : decode cX5_count 60 = .ok (.aload_n 0, 1) := by decide +kernel
theorem dX5_count_61 : decode cX5_count 61 = .ok (.getfield 54, 3) := by decide +kernel
theorem dX5_count_64 : decode cX5_count 64 = .ok (.ireturn, 1) := by decide +kernel
theorem dX5_count_65 : decode cX5_count 65 = .ok (.aload_n 0, 1) := by decide +kernel
theorem dX5_count_66 : decode cX5_count 66 = .ok (.aload_n 0, 1) := by decide +kernel
theorem dX5_count_67 : decode cX5_count 67 = .ok (.getfield 26, 3) := by decide +kernel
theorem dX5_count_70 : decode cX5_count 70 = .ok (.invokevirtual 214, 3) := by decide +kernel
theorem dX5_count_73 : decode cX5_count 73 = .ok (.ireturn, 1) := by decide +kernel
theorem dX5_count_74 : decode cX5_count 74 = .ok (.aload_n 0, 1) := by decide +kernel
theorem dX5_count_75 : decode cX5_count 75 = .ok (.getfield 58, 3) := by decide +kernel
theorem dX5_count_78 : decode cX5_count 78 = .ok (.ireturn, 1) := by decide +kernel
theorem dX5_count_79 : decode cX5_count 79 = .ok (.aload_n 0, 1) := by decide +kernel
theorem dX5_count_80 : decode cX5_count 80 = .ok (.getfield 61, 3) := by decide +kernel
theorem dX5_count_83 : decode cX5_count 83 = .ok (.ireturn, 1) := by decide +kernel
theorem dX5_count_84 : decode cX5_count 84 = .ok (.aload_n 0, 1) := by decide +kernel
theorem dX5_count_85 : decode cX5_count 85 = .ok (.iconst 0, 1) := by decide +kernel
theorem dX5_count_86 : decode cX5_count 86 = .ok (.aload_n 0, 1) := by decide +kernel
theorem dX5_count_87 : decode cX5_count 87 = .ok (.getfield 26, 3) := by decide +kernel
theorem dX5_count_90 : decode cX5_count 90 = .ok (.getfield 135, 3) := by decide +kernel
theorem dX5_count_93 : decode cX5_count 93 = .ok (.iconst 1, 1) := by decide +kernel
theorem dX5_count_94 : decode cX5_count 94 = .ok (.isub, 1) := by decide +kernel
theorem dX5_count_95 : decode cX5_count 95 = .ok (.invokevirtual 173, 3) := by decide +kernel
theorem dX5_count_98 : decode cX5_count 98 = .ok (.aload_n 0, 1) := by decide +kernel
theorem dX5_count_99 : decode cX5_count 99 = .ok (.getfield 43, 3) := by decide +kernel
theorem dX5_count_102 : decode cX5_count 102 = .ok (.getfield 182, 3) := by decide +kernel
theorem dX5_count_105 : decode cX5_count 105 = .ok (.ireturn, 1) := by decide +kernel
theorem dX5_count_106 : decode cX5_count 106 = .ok (.aload_n 0, 1) := by decide +kernel
theorem dX5_count_107 : decode cX5_count 107 = .ok (.getfield 36, 3) := by decide +kernel
theorem dX5_count_110 : decode cX5_count 110 = .ok (.getfield 86, 3) := by decide +kernel
theorem dX5_count_113 : decode cX5_count 113 = .ok (.ireturn, 1) := by decide +kernel
theorem dX5_count_114 : decode cX5_count 114 = .ok (.aload_n 0, 1) := by decide +kernel
theorem dX5_count_115 : decode cX5_count 115 = .ok (.getfield 26, 3) := by decide +kernel
theorem dX5_count_118 : decode cX5_count 118 = .ok (.invokevirtual 253, 3) := by decide +kernel
theorem dX5_count_121 : decode cX5_count 121 = .ok (.ireturn, 1) := by decide +kernel
theorem dX5_count_122 : decode cX5_count 122 = .ok (.aload_n 0, 1) := by decide +kernel
theorem dX5_count_123 : decode cX5_count 123 = .ok (.getfield 10, 3) := by decide +kernel
theorem dX5_count_126 : decode cX5_count 126 = .ok (.getfield 67, 3) := by decide +kernel
theorem dX5_count_129 : decode cX5_count 129 = .ok (.ireturn, 1) := by decide +kernel
theorem dX5_count_130 : decode cX5_count 130 = .ok (.iconst (-1), 1) := by decide +kernel
theorem dX5_count_131 : decode cX5_count 131 = .ok (.ireturn, 1) := by decide +kernel
theorem dX5_isValue_0 : decode cX5_isValue 0 = .ok (.iload_n 0, 1) := by decide +kernel
theorem dX5_isValue_1 : decode cX5_isValue 1 = .ok (.ifCond .lt 14, 3) := by decide +kernel
theorem dX5_isValue_4 : decode cX5_isValue 4 = .ok (.iload_n 0, 1) := by decide +kernel
theorem dX5_isValue_5 : decode cX5_isValue 5 = .ok (.sipush 1000, 3) := by decide +kernel
theorem dX5_isValue_8 : decode cX5_isValue 8 = .ok (.if_icmp .ge 7, 3) := by decide +kernel
theorem dX5_isValue_11 : decode cX5_isValue 11 = .ok (.iconst 1, 1) := by decide +kernel
theorem dX5_isValue_12 : decode cX5_isValue 12 = .ok (.goto 4, 3) := by decide +kernel
theorem dX5_isValue_15 : decode cX5_isValue 15 = .ok (.iconst 0, 1) := by decide +kernel
theorem dX5_isValue_16 : decode cX5_isValue 16 = .ok (.ireturn, 1) := by decide +kernel
theorem dX5_isBelow_0 : decode cX5_isBelow 0 = .ok (.iload_n 0, 1) := by decide +kernel
theorem dX5_isBelow_1 : decode cX5_isBelow 1 = .ok (.ifCond .lt 12, 3) := by decide +kernel
theorem dX5_isBelow_4 : decode cX5_isBelow 4 = .ok (.iload_n 0, 1) := by decide +kernel
theorem dX5_isBelow_5 : decode cX5_isBelow 5 = .ok (.iload_n 1, 1) := by decide +kernel
theorem dX5_isBelow_6 : decode cX5_isBelow 6 = .ok (.if_icmp .ge 7, 3) := by decide +kernel
theorem dX5_isBelow_9 : decode cX5_isBelow 9 = .ok (.iconst 1, 1) := by decide +kernel
theorem dX5_isBelow_10 : decode cX5_isBelow 10 = .ok (.goto 4, 3) := by decide +kernel
theorem dX5_isBelow_13 : decode cX5_isBelow 13 = .ok (.iconst 0, 1) := by decide +kernel
theorem dX5_isBelow_14 : decode cX5_isBelow 14 = .ok (.ireturn, 1) := by decide +kernel
set_option maxRecDepth 20000 in
theorem ggX5_settle_X2_isLike : GoodIn wsX5_settle wsX2_isLike := goodIn_r _ [10, 11, 12, 13, 66, 67, 68] rfl (by decide +kernel)
set_option maxRecDepth 20000 in
theorem gX5_settle_X2_isLike : GoodIn wsX5_settle (wsV RX5 256 RX2 yX2_isLike wsX2_isLike) := goodIn_app (goodIn_r _ [6, 7, 8, 9] rfl (by decide +kernel)) ggX5_settle_X2_isLike
set_option maxRecDepth 20000 in
theorem ggX5_settle_X2_isOtherThan : GoodIn wsX5_settle wsX2_isOtherThan := goodIn_r _ [17, 11, 12, 66, 67, 68] rfl (by decide +kernel)
set_option maxRecDepth 20000 in
theorem gX5_settle_X2_isOtherThan : GoodIn wsX5_settle (wsV RX5 260 RX2 yX2_isOtherThan wsX2_isOtherThan) := goodIn_app (goodIn_r _ [14, 15, 16, 9] rfl (by decide +kernel)) ggX5_settle_X2_isOtherThan
set_option maxRecDepth 20000 in
theorem ggX5_settle_X0_keep : GoodIn wsX5_settle wsX0_keep := goodIn_r _ [22, 23, 24, 25, 26, 27, 28, 29, 30, 31, 32, 9, 33, 11, 12, 13, 69, 70, 71, 66, 67, 68] rfl (by decide +kernel)
set_option maxRecDepth 20000 in
theorem gX5_settle_X0_keep : GoodIn wsX5_settle (wsV RX5 264 RX0 yX0_keep wsX0_keep) := goodIn_app (goodIn_r _ [18, 19, 20, 21] rfl (by decide +kernel)) ggX5_settle_X0_keep
set_option maxRecDepth 20000 in
theorem ggX5_settle_X5_pairsTouched : GoodIn wsX5_settle wsX5_pairsTouched := goodIn_r _ [38, 39, 40, 41, 37, 42, 3, 43, 44, 45, 46, 47, 48, 49, 50, 51, 52, 27, 28, 29, 14, 15, 16, 9, 17, 11, 12, 66, 67, 68, 54, 55, 56, 57, 58, 59, 60, 61, 62, 63, 64, 65] rfl (by decide +kernel)
set_option maxRecDepth 20000 in
theorem gX5_settle_X5_pairsTouched : GoodIn wsX5_settle (wsV RX5 163 RX5 yX5_pairsTouched wsX5_pairsTouched) := goodIn_app (goodIn_r _ [34, 35, 36, 37] rfl (by decide +kernel)) ggX5_settle_X5_pairsTouched
set_option maxRecDepth 20000 in
theorem ggX5_settle_X2_take : GoodIn wsX5_settle wsX2_take := goodIn_r _ [33, 11, 12, 13, 66, 67, 68] rfl (by decide +kernel)
set_option maxRecDepth 20000 in
theorem gX5_settle_X2_take : GoodIn wsX5_settle (wsV RX5 79 RX2 yX2_take wsX2_take) := goodIn_app (goodIn_r _ [53, 31, 32, 9] rfl (by decide +kernel)) ggX5_settle_X2_take
theorem dX5_settle_0 : decode cX5_settle 0 = .ok (.aload_n 0, 1) := by decide +kernel
theorem dX5_settle_1 : decode cX5_settle 1 = .ok (.getfield 30, 3) := by decide +kernel
theorem dX5_settle_4 : decode cX5_settle 4 = .ok (.aload_n 0, 1) := by decide +kernel
theorem dX5_settle_5 : decode cX5_settle 5 = .ok (.getfield 26, 3) := by decide +kernel
theorem dX5_settle_8 : decode cX5_settle 8 = .ok (.invokevirtual 256, 3) := by decide +kernel
theorem dX5_settle_11 : decode cX5_settle 11 = .ok (.ifCond .eq 5, 3) := by decide +kernel
theorem dX5_settle_14 : decode cX5_settle 14 = .ok (.iconst 0, 1) := by decide +kernel
theorem dX5_settle_15 : decode cX5_settle 15 = .ok (.ireturn, 1) := by decide +kernel
theorem dX5_settle_16 : decode cX5_settle 16 = .ok (.iconst 0, 1) := by decide +kernel
theorem dX5_settle_17 : decode cX5_settle 17 = .ok (.istore_n 1, 1) := by decide +kernel
theorem dX5_settle_18 : decode cX5_settle 18 = .ok (.iconst 0, 1) := by decide +kernel
theorem dX5_settle_19 : decode cX5_settle 19 = .ok (.istore_n 2, 1) := by decide +kernel
theorem dX5_settle_20 : decode cX5_settle 20 = .ok (.iload_n 2, 1) := by decide +kernel
theorem dX5_settle_21 : decode cX5_settle 21 = .ok (.aload_n 0, 1) := by decide +kernel
theorem dX5_settle_22 : decode cX5_settle 22 = .ok (.getfield 30, 3) := by decide +kernel
theorem dX5_settle_25 : decode cX5_settle 25 = .ok (.getfield 135, 3) := by decide +kernel
theorem dX5_settle_28 : decode cX5_settle 28 = .ok (.if_icmp .ge 27, 3) := by decide +kernel
theorem dX5_settle_31 : decode cX5_settle 31 = .ok (.aload_n 0, 1) := by decide +kernel
theorem dX5_settle_32 : decode cX5_settle 32 = .ok (.getfield 30, 3) := by decide +kernel
theorem dX5_settle_35 : decode cX5_settle 35 = .ok (.aload_n 0, 1) := by decide +kernel
theorem dX5_settle_36 : decode cX5_settle 36 = .ok (.getfield 26, 3) := by decide +kernel
theorem dX5_settle_39 : decode cX5_settle 39 = .ok (.iload_n 2, 1) := by decide +kernel
theorem dX5_settle_40 : decode cX5_settle 40 = .ok (.invokevirtual 260, 3) := by decide +kernel
theorem dX5_settle_43 : decode cX5_settle 43 = .ok (.ifCond .eq 6, 3) := by decide +kernel
theorem dX5_settle_46 : decode cX5_settle 46 = .ok (.iinc 1 1, 3) := by decide +kernel
theorem dX5_settle_49 : decode cX5_settle 49 = .ok (.iinc 2 1, 3) := by decide +kernel
theorem dX5_settle_52 : decode cX5_settle 52 = .ok (.goto (-32), 3) := by decide +kernel
theorem dX5_settle_55 : decode cX5_settle 55 = .ok (.aload_n 0, 1) := by decide +kernel
theorem dX5_settle_56 : decode cX5_settle 56 = .ok (.getfield 36, 3) := by decide +kernel
theorem dX5_settle_59 : decode cX5_settle 59 = .ok (.aload_n 0, 1) := by decide +kernel
theorem dX5_settle_60 : decode cX5_settle 60 = .ok (.getfield 26, 3) := by decide +kernel
theorem dX5_settle_63 : decode cX5_settle 63 = .ok (.invokevirtual 264, 3) := by decide +kernel
theorem dX5_settle_66 : decode cX5_settle 66 = .ok (.aload_n 0, 1) := by decide +kernel
theorem dX5_settle_67 : decode cX5_settle 67 = .ok (.aload_n 0, 1) := by decide +kernel
theorem dX5_settle_68 : decode cX5_settle 68 = .ok (.aload_n 0, 1) := by decide +kernel
theorem dX5_settle_69 : decode cX5_settle 69 = .ok (.getfield 26, 3) := by decide +kernel
theorem dX5_settle_72 : decode cX5_settle 72 = .ok (.aload_n 0, 1) := by decide +kernel
theorem dX5_settle_73 : decode cX5_settle 73 = .ok (.getfield 30, 3) := by decide +kernel
theorem dX5_settle_76 : decode cX5_settle 76 = .ok (.invokevirtual 163, 3) := by decide +kernel
theorem dX5_settle_79 : decode cX5_settle 79 = .ok (.putfield 64, 3) := by decide +kernel
theorem dX5_settle_82 : decode cX5_settle 82 = .ok (.aload_n 0, 1) := by decide +kernel
theorem dX5_settle_83 : decode cX5_settle 83 = .ok (.getfield 26, 3) := by decide +kernel
theorem dX5_settle_86 : decode cX5_settle 86 = .ok (.aload_n 0, 1) := by decide +kernel
theorem dX5_settle_87 : decode cX5_settle 87 = .ok (.getfield 30, 3) := by decide +kernel
theorem dX5_settle_90 : decode cX5_settle 90 = .ok (.invokevirtual 79, 3) := by decide +kernel
theorem dX5_settle_93 : decode cX5_settle 93 = .ok (.iload_n 1, 1) := by decide +kernel
theorem dX5_settle_94 : decode cX5_settle 94 = .ok (.ireturn, 1) := by decide +kernel
set_option maxRecDepth 20000 in
theorem ggX5_pairsTouched_X5_blocksOf : GoodIn wsX5_pairsTouched wsX5_blocksOf := goodIn_r _ [5, 6, 7, 27, 28, 29, 30, 31, 32, 33, 34, 35, 36, 37, 38, 39, 40, 41] rfl (by decide +kernel)
set_option maxRecDepth 20000 in
theorem gX5_pairsTouched_X5_blocksOf : GoodIn wsX5_pairsTouched (wsV RX5 214 RX5 yX5_blocksOf wsX5_blocksOf) := goodIn_app (goodIn_r _ [1, 2, 3, 4] rfl (by decide +kernel)) ggX5_pairsTouched_X5_blocksOf
set_option maxRecDepth 20000 in
theorem ggX5_pairsTouched_X5_isTouched : GoodIn wsX5_pairsTouched wsX5_isTouched := goodIn_r _ [11, 7, 12, 13, 14, 4, 15, 6, 16, 17, 18, 19, 20, 21, 22, 23, 24, 25, 26, 30, 31, 32, 33, 34, 35, 36, 37, 38, 39, 40, 41, 27, 28, 29] rfl (by decide +kernel)
set_option maxRecDepth 20000 in
theorem gX5_pairsTouched_X5_isTouched : GoodIn wsX5_pairsTouched (wsV RX5 267 RX5 yX5_isTouched wsX5_isTouched) := goodIn_app (goodIn_r _ [8, 9, 10, 4] rfl (by decide +kernel)) ggX5_pairsTouched_X5_isTouched
theorem dX5_pairsTouched_0 : decode cX5_pairsTouched 0 = .ok (.aload_n 0, 1) := by decide +kernel
theorem dX5_pairsTouched_1 : decode cX5_pairsTouched 1 = .ok (.aload_n 2, 1) := by decide +kernel
theorem dX5_pairsTouched_2 : decode cX5_pairsTouched 2 = .ok (.invokevirtual 214, 3) := by decide +kernel
theorem dX5_pairsTouched_5 : decode cX5_pairsTouched 5 = .ok (.istore_n 3, 1) := by decide +kernel
theorem dX5_pairsTouched_6 : decode cX5_pairsTouched 6 = .ok (.iconst 0, 1) := by decide +kernel
theorem dX5_pairsTouched_7 : decode cX5_pairsTouched 7 = .ok (.istore 4, 2) := by decide +kernel
theorem dX5_pairsTouched_9 : decode cX5_pairsTouched 9 = .ok (.iconst 0, 1) := by decide +kernel
theorem dX5_pairsTouched_10 : decode cX5_pairsTouched 10 = .ok (.istore 5, 2) := by decide +kernel
theorem dX5_pairsTouched_12 : decode cX5_pairsTouched 12 = .ok (.iconst 0, 1) := by decide +kernel
theorem dX5_pairsTouched_13 : decode cX5_pairsTouched 13 = .ok (.istore 6, 2) := by decide +kernel
theorem dX5_pairsTouched_15 : decode cX5_pairsTouched 15 = .ok (.iload 6, 2) := by decide +kernel
theorem dX5_pairsTouched_17 : decode cX5_pairsTouched 17 = .ok (.iload_n 3, 1) := by decide +kernel
theorem dX5_pairsTouched_18 : decode cX5_pairsTouched 18 = .ok (.if_icmp .ge 37, 3) := by decide +kernel
theorem dX5_pairsTouched_21 : decode cX5_pairsTouched 21 = .ok (.aload_n 0, 1) := by decide +kernel
theorem dX5_pairsTouched_22 : decode cX5_pairsTouched 22 = .ok (.aload_n 1, 1) := by decide +kernel
theorem dX5_pairsTouched_23 : decode cX5_pairsTouched 23 = .ok (.aload_n 2, 1) := by decide +kernel
theorem dX5_pairsTouched_24 : decode cX5_pairsTouched 24 = .ok (.iload 6, 2) := by decide +kernel
theorem dX5_pairsTouched_26 : decode cX5_pairsTouched 26 = .ok (.invokevirtual 267, 3) := by decide +kernel
theorem dX5_pairsTouched_29 : decode cX5_pairsTouched 29 = .ok (.ifCond .eq 7, 3) := by decide +kernel
theorem dX5_pairsTouched_32 : decode cX5_pairsTouched 32 = .ok (.iconst 0, 1) := by decide +kernel
theorem dX5_pairsTouched_33 : decode cX5_pairsTouched 33 = .ok (.goto 7, 3) := by decide +kernel
theorem dX5_pairsTouched_36 : decode cX5_pairsTouched 36 = .ok (.iload 5, 2) := by decide +kernel
theorem dX5_pairsTouched_38 : decode cX5_pairsTouched 38 = .ok (.iconst 1, 1) := by decide +kernel
theorem dX5_pairsTouched_39 : decode cX5_pairsTouched 39 = .ok (.iadd, 1) := by decide +kernel
theorem dX5_pairsTouched_40 : decode cX5_pairsTouched 40 = .ok (.istore 5, 2) := by decide +kernel
theorem dX5_pairsTouched_42 : decode cX5_pairsTouched 42 = .ok (.iload 4, 2) := by decide +kernel
theorem dX5_pairsTouched_44 : decode cX5_pairsTouched 44 = .ok (.iload 5, 2) := by decide +kernel
theorem dX5_pairsTouched_46 : decode cX5_pairsTouched 46 = .ok (.iadd, 1) := by decide +kernel
theorem dX5_pairsTouched_47 : decode cX5_pairsTouched 47 = .ok (.istore 4, 2) := by decide +kernel
theorem dX5_pairsTouched_49 : decode cX5_pairsTouched 49 = .ok (.iinc 6 1, 3) := by decide +kernel
theorem dX5_pairsTouched_52 : decode cX5_pairsTouched 52 = .ok (.goto (-37), 3) := by decide +kernel
theorem dX5_pairsTouched_55 : decode cX5_pairsTouched 55 = .ok (.iload_n 3, 1) := by decide +kernel
theorem dX5_pairsTouched_56 : decode cX5_pairsTouched 56 = .ok (.iload_n 3, 1) := by decide +kernel
theorem dX5_pairsTouched_57 : decode cX5_pairsTouched 57 = .ok (.iconst 1, 1) := by decide +kernel
theorem dX5_pairsTouched_58 : decode cX5_pairsTouched 58 = .ok (.iadd, 1) := by decide +kernel
theorem dX5_pairsTouched_59 : decode cX5_pairsTouched 59 = .ok (.imul, 1) := by decide +kernel
theorem dX5_pairsTouched_60 : decode cX5_pairsTouched 60 = .ok (.iconst 2, 1) := by decide +kernel
theorem dX5_pairsTouched_61 : decode cX5_pairsTouched 61 = .ok (.idiv, 1) := by decide +kernel
theorem dX5_pairsTouched_62 : decode cX5_pairsTouched 62 = .ok (.iload 4, 2) := by decide +kernel
theorem dX5_pairsTouched_64 : decode cX5_pairsTouched 64 = .ok (.isub, 1) := by decide +kernel
theorem dX5_pairsTouched_65 : decode cX5_pairsTouched 65 = .ok (.ireturn, 1) := by decide +kernel
set_option maxRecDepth 20000 in
theorem ggX5_isTouched_X5_blockEnd : GoodIn wsX5_isTouched wsX5_blockEnd := goodIn_r _ [6, 7, 1, 8, 9, 10, 11, 31, 32, 33, 19, 20, 21, 22, 23, 24, 25, 26, 27, 28, 29, 30] rfl (by decide +kernel)
set_option maxRecDepth 20000 in
theorem gX5_isTouched_X5_blockEnd : GoodIn wsX5_isTouched (wsV RX5 218 RX5 yX5_blockEnd wsX5_blockEnd) := goodIn_app (goodIn_r _ [2, 3, 4, 5] rfl (by decide +kernel)) ggX5_isTouched_X5_blockEnd
set_option maxRecDepth 20000 in
theorem ggX5_isTouched_X2_isOtherThan : GoodIn wsX5_isTouched wsX2_isOtherThan := goodIn_r _ [16, 17, 18, 31, 32, 33] rfl (by decide +kernel)
set_option maxRecDepth 20000 in
theorem gX5_isTouched_X2_isOtherThan : GoodIn wsX5_isTouched (wsV RX5 260 RX2 yX2_isOtherThan wsX2_isOtherThan) := goodIn_app (goodIn_r _ [12, 13, 14, 15] rfl (by decide +kernel)) ggX5_isTouched_X2_isOtherThan
theorem dX5_isTouched_0 : decode cX5_isTouched 0 = .ok (.aload_n 0, 1) := by decide +kernel
theorem dX5_isTouched_1 : decode cX5_isTouched 1 = .ok (.aload_n 2, 1) := by decide +kernel
theorem dX5_isTouched_2 : decode cX5_isTouched 2 = .ok (.iload_n 3, 1) := by decide +kernel
theorem dX5_isTouched_3 : decode cX5_isTouched 3 = .ok (.invokevirtual 218, 3) := by decide +kernel
theorem dX5_isTouched_6 : decode cX5_isTouched 6 = .ok (.istore 4, 2) := by decide +kernel
theorem dX5_isTouched_8 : decode cX5_isTouched 8 = .ok (.iload_n 3, 1) := by decide +kernel
theorem dX5_isTouched_9 : decode cX5_isTouched 9 = .ok (.aload_n 0, 1) := by decide +kernel
theorem dX5_isTouched_10 : decode cX5_isTouched 10 = .ok (.getfield 54, 3) := by decide +kernel
theorem dX5_isTouched_13 : decode cX5_isTouched 13 = .ok (.imul, 1) := by decide +kernel
theorem dX5_isTouched_14 : decode cX5_isTouched 14 = .ok (.istore 5, 2) := by decide +kernel
theorem dX5_isTouched_16 : decode cX5_isTouched 16 = .ok (.iload 5, 2) := by decide +kernel
theorem dX5_isTouched_18 : decode cX5_isTouched 18 = .ok (.iload 4, 2) := by decide +kernel
theorem dX5_isTouched_20 : decode cX5_isTouched 20 = .ok (.if_icmp .ge 21, 3) := by decide +kernel
theorem dX5_isTouched_23 : decode cX5_isTouched 23 = .ok (.aload_n 2, 1) := by decide +kernel
theorem dX5_isTouched_24 : decode cX5_isTouched 24 = .ok (.aload_n 1, 1) := by decide +kernel
theorem dX5_isTouched_25 : decode cX5_isTouched 25 = .ok (.iload 5, 2) := by decide +kernel
theorem dX5_isTouched_27 : decode cX5_isTouched 27 = .ok (.invokevirtual 260, 3) := by decide +kernel
theorem dX5_isTouched_30 : decode cX5_isTouched 30 = .ok (.ifCond .eq 5, 3) := by decide +kernel
theorem dX5_isTouched_33 : decode cX5_isTouched 33 = .ok (.iconst 1, 1) := by decide +kernel
theorem dX5_isTouched_34 : decode cX5_isTouched 34 = .ok (.ireturn, 1) := by decide +kernel
theorem dX5_isTouched_35 : decode cX5_isTouched 35 = .ok (.iinc 5 1, 3) := by decide +kernel
theorem dX5_isTouched_38 : decode cX5_isTouched 38 = .ok (.goto (-22), 3) := by decide +kernel
theorem dX5_isTouched_41 : decode cX5_isTouched 41 = .ok (.iload 4, 2) := by decide +kernel
theorem dX5_isTouched_43 : decode cX5_isTouched 43 = .ok (.aload_n 0, 1) := by decide +kernel
theorem dX5_isTouched_44 : decode cX5_isTouched 44 = .ok (.aload_n 1, 1) := by decide +kernel
theorem dX5_isTouched_45 : decode cX5_isTouched 45 = .ok (.iload_n 3, 1) := by decide +kernel
theorem dX5_isTouched_46 : decode cX5_isTouched 46 = .ok (.invokevirtual 218, 3) := by decide +kernel
theorem dX5_isTouched_49 : decode cX5_isTouched 49 = .ok (.if_icmp .ge 7, 3) := by decide +kernel
theorem dX5_isTouched_52 : decode cX5_isTouched 52 = .ok (.iconst 1, 1) := by decide +kernel
theorem dX5_isTouched_53 : decode cX5_isTouched 53 = .ok (.goto 4, 3) := by decide +kernel
theorem dX5_isTouched_56 : decode cX5_isTouched 56 = .ok (.iconst 0, 1) := by decide +kernel
theorem dX5_isTouched_57 : decode cX5_isTouched 57 = .ok (.ireturn, 1) := by decide +kernel
theorem dX5_blocksOf_0 : decode cX5_blocksOf 0 = .ok (.aload_n 1, 1) := by decide +kernel
theorem dX5_blocksOf_1 : decode cX5_blocksOf 1 = .ok (.getfield 135, 3) := by decide +kernel
theorem dX5_blocksOf_4 : decode cX5_blocksOf 4 = .ok (.aload_n 0, 1) := by decide +kernel
theorem dX5_blocksOf_5 : decode cX5_blocksOf 5 = .ok (.getfield 54, 3) := by decide +kernel
theorem dX5_blocksOf_8 : decode cX5_blocksOf 8 = .ok (.iadd, 1) := by decide +kernel
theorem dX5_blocksOf_9 : decode cX5_blocksOf 9 = .ok (.iconst 1, 1) := by decide +kernel
theorem dX5_blocksOf_10 : decode cX5_blocksOf 10 = .ok (.isub, 1) := by decide +kernel
theorem dX5_blocksOf_11 : decode cX5_blocksOf 11 = .ok (.aload_n 0, 1) := by decide +kernel
theorem dX5_blocksOf_12 : decode cX5_blocksOf 12 = .ok (.getfield 54, 3) := by decide +kernel
theorem dX5_blocksOf_15 : decode cX5_blocksOf 15 = .ok (.idiv, 1) := by decide +kernel
theorem dX5_blocksOf_16 : decode cX5_blocksOf 16 = .ok (.ireturn, 1) := by decide +kernel
theorem dX5_blockEnd_0 : decode cX5_blockEnd 0 = .ok (.aload_n 1, 1) := by decide +kernel
theorem dX5_blockEnd_1 : decode cX5_blockEnd 1 = .ok (.getfield 135, 3) := by decide +kernel
theorem dX5_blockEnd_4 : decode cX5_blockEnd 4 = .ok (.iload_n 2, 1) := by decide +kernel
theorem dX5_blockEnd_5 : decode cX5_blockEnd 5 = .ok (.iconst 1, 1) := by decide +kernel
theorem dX5_blockEnd_6 : decode cX5_blockEnd 6 = .ok (.iadd, 1) := by decide +kernel
theorem dX5_blockEnd_7 : decode cX5_blockEnd 7 = .ok (.aload_n 0, 1) := by decide +kernel
theorem dX5_blockEnd_8 : decode cX5_blockEnd 8 = .ok (.getfield 54, 3) := by decide +kernel
theorem dX5_blockEnd_11 : decode cX5_blockEnd 11 = .ok (.imul, 1) := by decide +kernel
theorem dX5_blockEnd_12 : decode cX5_blockEnd 12 = .ok (.invokestatic 234, 3) := by decide +kernel
theorem dX5_blockEnd_15 : decode cX5_blockEnd 15 = .ok (.ireturn, 1) := by decide +kernel
set_option maxRecDepth 20000 in
theorem ggX5_tallySpan_X3_begin : GoodIn wsX5_tallySpan wsX3_begin := goodIn_r _ [9, 10, 11, 12, 13, 14, 15, 41, 42, 43, 44, 45, 46, 47, 48] rfl (by decide +kernel)
set_option maxRecDepth 20000 in
theorem gX5_tallySpan_X3_begin : GoodIn wsX5_tallySpan (wsV RX5 228 RX3 yX3_begin wsX3_begin) := goodIn_app (goodIn_r _ [5, 6, 7, 8] rfl (by decide +kernel)) ggX5_tallySpan_X3_begin
set_option maxRecDepth 20000 in
theorem ggX5_tallySpan_X3_push : GoodIn wsX5_tallySpan wsX3_push := goodIn_r _ [19, 11, 20, 13, 12, 10, 21, 14, 22, 23, 24, 8, 25, 15, 41, 42, 43, 44, 45, 46, 47, 48] rfl (by decide +kernel)
set_option maxRecDepth 20000 in
theorem gX5_tallySpan_X3_push : GoodIn wsX5_tallySpan (wsV RX5 231 RX3 yX3_push wsX3_push) := goodIn_app (goodIn_r _ [16, 17, 18, 8] rfl (by decide +kernel)) ggX5_tallySpan_X3_push
theorem dX5_tallySpan_0 : decode cX5_tallySpan 0 = .ok (.aload_n 0, 1) := by decide +kernel
theorem dX5_tallySpan_1 : decode cX5_tallySpan 1 = .ok (.getfield 43, 3) := by decide +kernel
theorem dX5_tallySpan_4 : decode cX5_tallySpan 4 = .ok (.aload_n 0, 1) := by decide +kernel
theorem dX5_tallySpan_5 : decode cX5_tallySpan 5 = .ok (.getfield 58, 3) := by decide +kernel
theorem dX5_tallySpan_8 : decode cX5_tallySpan 8 = .ok (.invokevirtual 228, 3) := by decide +kernel
theorem dX5_tallySpan_11 : decode cX5_tallySpan 11 = .ok (.iload_n 1, 1) := by decide +kernel
theorem dX5_tallySpan_12 : decode cX5_tallySpan 12 = .ok (.istore_n 3, 1) := by decide +kernel
theorem dX5_tallySpan_13 : decode cX5_tallySpan 13 = .ok (.iload_n 3, 1) := by decide +kernel
theorem dX5_tallySpan_14 : decode cX5_tallySpan 14 = .ok (.iload_n 2, 1) := by decide +kernel
theorem dX5_tallySpan_15 : decode cX5_tallySpan 15 = .ok (.if_icmp .gt 25, 3) := by decide +kernel
theorem dX5_tallySpan_18 : decode cX5_tallySpan 18 = .ok (.aload_n 0, 1) := by decide +kernel
theorem dX5_tallySpan_19 : decode cX5_tallySpan 19 = .ok (.getfield 43, 3) := by decide +kernel
theorem dX5_tallySpan_22 : decode cX5_tallySpan 22 = .ok (.aload_n 0, 1) := by decide +kernel
theorem dX5_tallySpan_23 : decode cX5_tallySpan 23 = .ok (.getfield 26, 3) := by decide +kernel
theorem dX5_tallySpan_26 : decode cX5_tallySpan 26 = .ok (.getfield 106, 3) := by decide +kernel
theorem dX5_tallySpan_29 : decode cX5_tallySpan 29 = .ok (.iload_n 3, 1) := by decide +kernel
theorem dX5_tallySpan_30 : decode cX5_tallySpan 30 = .ok (.iaload, 1) := by decide +kernel
theorem dX5_tallySpan_31 : decode cX5_tallySpan 31 = .ok (.invokevirtual 231, 3) := by decide +kernel
theorem dX5_tallySpan_34 : decode cX5_tallySpan 34 = .ok (.iinc 3 1, 3) := by decide +kernel
theorem dX5_tallySpan_37 : decode cX5_tallySpan 37 = .ok (.goto (-24), 3) := by decide +kernel
theorem dX5_tallySpan_40 : decode cX5_tallySpan 40 = .ok (.return_, 1) := by decide +kernel
set_option maxRecDepth 20000 in
theorem ggX5_modeOf_X5_tallySpan : GoodIn wsX5_modeOf wsX5_tallySpan := goodIn_r _ [7, 1, 8, 9, 10, 11, 12, 13, 14, 15, 16, 17, 18, 19, 20, 21, 22, 23, 24, 25, 26, 27, 28, 29, 30, 31, 32, 33, 34, 35, 36, 37, 38, 39, 40, 41, 42, 43, 52, 53, 54, 44, 45, 46, 47, 48, 49, 50, 51] rfl (by decide +kernel)
set_option maxRecDepth 20000 in
theorem gX5_modeOf_X5_tallySpan : GoodIn wsX5_modeOf (wsV RX5 173 RX5 yX5_tallySpan wsX5_tallySpan) := goodIn_app (goodIn_r _ [3, 4, 5, 6] rfl (by decide +kernel)) ggX5_modeOf_X5_tallySpan
theorem dX5_modeOf_0 : decode cX5_modeOf 0 = .ok (.aload_n 0, 1) := by decide +kernel
theorem dX5_modeOf_1 : decode cX5_modeOf 1 = .ok (.iload_n 1, 1) := by decide +kernel
theorem dX5_modeOf_2 : decode cX5_modeOf 2 = .ok (.iload_n 2, 1) := by decide +kernel
theorem dX5_modeOf_3 : decode cX5_modeOf 3 = .ok (.invokevirtual 173, 3) := by decide +kernel
theorem dX5_modeOf_6 : decode cX5_modeOf 6 = .ok (.aload_n 0, 1) := by decide +kernel
theorem dX5_modeOf_7 : decode cX5_modeOf 7 = .ok (.getfield 43, 3) := by decide +kernel
theorem dX5_modeOf_10 : decode cX5_modeOf 10 = .ok (.getfield 176, 3) := by decide +kernel
theorem dX5_modeOf_13 : decode cX5_modeOf 13 = .ok (.ireturn, 1) := by decide +kernel
set_option maxRecDepth 20000 in
theorem ggX5_markCandidates_X3_begin : GoodIn wsX5_markCandidates wsX3_begin := goodIn_r _ [11, 12, 13, 14, 15, 16, 17, 54, 55, 56, 57, 58, 59, 60, 61] rfl (by decide +kernel)
set_option maxRecDepth 20000 in
theorem gX5_markCandidates_X3_begin : GoodIn wsX5_markCandidates (wsV RX5 228 RX3 yX3_begin wsX3_begin) := goodIn_app (goodIn_r _ [7, 8, 9, 10] rfl (by decide +kernel)) ggX5_markCandidates_X3_begin
set_option maxRecDepth 20000 in
theorem ggX5_markCandidates_X5_modeOf : GoodIn wsX5_markCandidates wsX5_modeOf := goodIn_r _ [22, 23, 24, 25, 26, 27, 21, 28, 5, 2, 6, 7, 8, 9, 10, 11, 12, 13, 14, 15, 16, 17, 29, 30, 31, 32, 33, 34, 35, 36, 37, 38, 39, 40, 41, 42, 43, 44, 45, 46, 47, 48, 49, 50, 54, 55, 56, 57, 58, 59, 60, 61, 51, 52, 53] rfl (by decide +kernel)
set_option maxRecDepth 20000 in
theorem gX5_markCandidates_X5_modeOf : GoodIn wsX5_markCandidates (wsV RX5 237 RX5 yX5_modeOf wsX5_modeOf) := goodIn_app (goodIn_r _ [18, 19, 20, 21] rfl (by decide +kernel)) ggX5_markCandidates_X5_modeOf
set_option maxRecDepth 20000 in
theorem ggX5_markCandidates_X3_push : GoodIn wsX5_markCandidates wsX3_push := goodIn_r _ [32, 13, 33, 15, 14, 12, 34, 16, 35, 36, 37, 10, 38, 17, 54, 55, 56, 57, 58, 59, 60, 61] rfl (by decide +kernel)
set_option maxRecDepth 20000 in
theorem gX5_markCandidates_X3_push : GoodIn wsX5_markCandidates (wsV RX5 231 RX3 yX3_push wsX3_push) := goodIn_app (goodIn_r _ [29, 30, 31, 10] rfl (by decide +kernel)) ggX5_markCandidates_X3_push
theorem dX5_markCandidates_0 : decode cX5_markCandidates 0 = .ok (.iload_n 1, 1) := by decide +kernel
theorem dX5_markCandidates_1 : decode cX5_markCandidates 1 = .ok (.aload_n 0, 1) := by decide +kernel
theorem dX5_markCandidates_2 : decode cX5_markCandidates 2 = .ok (.getfield 54, 3) := by decide +kernel
theorem dX5_markCandidates_5 : decode cX5_markCandidates 5 = .ok (.iadd, 1) := by decide +kernel
theorem dX5_markCandidates_6 : decode cX5_markCandidates 6 = .ok (.iconst 1, 1) := by decide +kernel
theorem dX5_markCandidates_7 : decode cX5_markCandidates 7 = .ok (.isub, 1) := by decide +kernel
theorem dX5_markCandidates_8 : decode cX5_markCandidates 8 = .ok (.aload_n 0, 1) := by decide +kernel
theorem dX5_markCandidates_9 : decode cX5_markCandidates 9 = .ok (.getfield 54, 3) := by decide +kernel
theorem dX5_markCandidates_12 : decode cX5_markCandidates 12 = .ok (.idiv, 1) := by decide +kernel
theorem dX5_markCandidates_13 : decode cX5_markCandidates 13 = .ok (.aload_n 0, 1) := by decide +kernel
theorem dX5_markCandidates_14 : decode cX5_markCandidates 14 = .ok (.getfield 54, 3) := by decide +kernel
theorem dX5_markCandidates_17 : decode cX5_markCandidates 17 = .ok (.imul, 1) := by decide +kernel
theorem dX5_markCandidates_18 : decode cX5_markCandidates 18 = .ok (.istore_n 3, 1) := by decide +kernel
theorem dX5_markCandidates_19 : decode cX5_markCandidates 19 = .ok (.iload_n 2, 1) := by decide +kernel
theorem dX5_markCandidates_20 : decode cX5_markCandidates 20 = .ok (.aload_n 0, 1) := by decide +kernel
theorem dX5_markCandidates_21 : decode cX5_markCandidates 21 = .ok (.getfield 26, 3) := by decide +kernel
theorem dX5_markCandidates_24 : decode cX5_markCandidates 24 = .ok (.getfield 135, 3) := by decide +kernel
theorem dX5_markCandidates_27 : decode cX5_markCandidates 27 = .ok (.iconst 1, 1) := by decide +kernel
theorem dX5_markCandidates_28 : decode cX5_markCandidates 28 = .ok (.isub, 1) := by decide +kernel
theorem dX5_markCandidates_29 : decode cX5_markCandidates 29 = .ok (.if_icmp .ne 13, 3) := by decide +kernel
theorem dX5_markCandidates_32 : decode cX5_markCandidates 32 = .ok (.aload_n 0, 1) := by decide +kernel
theorem dX5_markCandidates_33 : decode cX5_markCandidates 33 = .ok (.getfield 26, 3) := by decide +kernel
theorem dX5_markCandidates_36 : decode cX5_markCandidates 36 = .ok (.getfield 135, 3) := by decide +kernel
theorem dX5_markCandidates_39 : decode cX5_markCandidates 39 = .ok (.goto 16, 3) := by decide +kernel
theorem dX5_markCandidates_42 : decode cX5_markCandidates 42 = .ok (.iload_n 2, 1) := by decide +kernel
theorem dX5_markCandidates_43 : decode cX5_markCandidates 43 = .ok (.iconst 1, 1) := by decide +kernel
theorem dX5_markCandidates_44 : decode cX5_markCandidates 44 = .ok (.iadd, 1) := by decide +kernel
theorem dX5_markCandidates_45 : decode cX5_markCandidates 45 = .ok (.aload_n 0, 1) := by decide +kernel
theorem dX5_markCandidates_46 : decode cX5_markCandidates 46 = .ok (.getfield 54, 3) := by decide +kernel
theorem dX5_markCandidates_49 : decode cX5_markCandidates 49 = .ok (.idiv, 1) := by decide +kernel
theorem dX5_markCandidates_50 : decode cX5_markCandidates 50 = .ok (.aload_n 0, 1) := by decide +kernel
theorem dX5_markCandidates_51 : decode cX5_markCandidates 51 = .ok (.getfield 54, 3) := by decide +kernel
theorem dX5_markCandidates_54 : decode cX5_markCandidates 54 = .ok (.imul, 1) := by decide +kernel
theorem dX5_markCandidates_55 : decode cX5_markCandidates 55 = .ok (.istore 4, 2) := by decide +kernel
theorem dX5_markCandidates_57 : decode cX5_markCandidates 57 = .ok (.aload_n 0, 1) := by decide +kernel
theorem dX5_markCandidates_58 : decode cX5_markCandidates 58 = .ok (.getfield 47, 3) := by decide +kernel
theorem dX5_markCandidates_61 : decode cX5_markCandidates 61 = .ok (.aload_n 0, 1) := by decide +kernel
theorem dX5_markCandidates_62 : decode cX5_markCandidates 62 = .ok (.getfield 58, 3) := by decide +kernel
theorem dX5_markCandidates_65 : decode cX5_markCandidates 65 = .ok (.invokevirtual 228, 3) := by decide +kernel
theorem dX5_markCandidates_68 : decode cX5_markCandidates 68 = .ok (.iload_n 3, 1) := by decide +kernel
theorem dX5_markCandidates_69 : decode cX5_markCandidates 69 = .ok (.iload 4, 2) := by decide +kernel
theorem dX5_markCandidates_71 : decode cX5_markCandidates 71 = .ok (.if_icmp .ge 19, 3) := by decide +kernel
theorem dX5_markCandidates_74 : decode cX5_markCandidates 74 = .ok (.aload_n 0, 1) := by decide +kernel
theorem dX5_markCandidates_75 : decode cX5_markCandidates 75 = .ok (.getfield 47, 3) := by decide +kernel
theorem dX5_markCandidates_78 : decode cX5_markCandidates 78 = .ok (.aload_n 0, 1) := by decide +kernel
theorem dX5_markCandidates_79 : decode cX5_markCandidates 79 = .ok (.iload_n 3, 1) := by decide +kernel
theorem dX5_markCandidates_80 : decode cX5_markCandidates 80 = .ok (.iload 4, 2) := by decide +kernel
theorem dX5_markCandidates_82 : decode cX5_markCandidates 82 = .ok (.iconst 1, 1) := by decide +kernel
theorem dX5_markCandidates_83 : decode cX5_markCandidates 83 = .ok (.isub, 1) := by decide +kernel
theorem dX5_markCandidates_84 : decode cX5_markCandidates 84 = .ok (.invokevirtual 237, 3) := by decide +kernel
theorem dX5_markCandidates_87 : decode cX5_markCandidates 87 = .ok (.invokevirtual 231, 3) := by decide +kernel
theorem dX5_markCandidates_90 : decode cX5_markCandidates 90 = .ok (.iload_n 1, 1) := by decide +kernel
theorem dX5_markCandidates_91 : decode cX5_markCandidates 91 = .ok (.istore 5, 2) := by decide +kernel
theorem dX5_markCandidates_93 : decode cX5_markCandidates 93 = .ok (.iload 5, 2) := by decide +kernel
theorem dX5_markCandidates_95 : decode cX5_markCandidates 95 = .ok (.iload_n 2, 1) := by decide +kernel
theorem dX5_markCandidates_96 : decode cX5_markCandidates 96 = .ok (.if_icmp .gt 39, 3) := by decide +kernel
theorem dX5_markCandidates_99 : decode cX5_markCandidates 99 = .ok (.iload 5, 2) := by decide +kernel
theorem dX5_markCandidates_101 : decode cX5_markCandidates 101 = .ok (.iload_n 3, 1) := by decide +kernel
theorem dX5_markCandidates_102 : decode cX5_markCandidates 102 = .ok (.if_icmp .lt 10, 3) := by decide +kernel
theorem dX5_markCandidates_105 : decode cX5_markCandidates 105 = .ok (.iload 5, 2) := by decide +kernel
theorem dX5_markCandidates_107 : decode cX5_markCandidates 107 = .ok (.iload 4, 2) := by decide +kernel
theorem dX5_markCandidates_109 : decode cX5_markCandidates 109 = .ok (.if_icmp .lt 20, 3) := by decide +kernel
theorem dX5_markCandidates_112 : decode cX5_markCandidates 112 = .ok (.aload_n 0, 1) := by decide +kernel
theorem dX5_markCandidates_113 : decode cX5_markCandidates 113 = .ok (.getfield 47, 3) := by decide +kernel
theorem dX5_markCandidates_116 : decode cX5_markCandidates 116 = .ok (.aload_n 0, 1) := by decide +kernel
theorem dX5_markCandidates_117 : decode cX5_markCandidates 117 = .ok (.getfield 26, 3) := by decide +kernel
theorem dX5_markCandidates_120 : decode cX5_markCandidates 120 = .ok (.getfield 106, 3) := by decide +kernel
theorem dX5_markCandidates_123 : decode cX5_markCandidates 123 = .ok (.iload 5, 2) := by decide +kernel
theorem dX5_markCandidates_125 : decode cX5_markCandidates 125 = .ok (.iaload, 1) := by decide +kernel
theorem dX5_markCandidates_126 : decode cX5_markCandidates 126 = .ok (.invokevirtual 231, 3) := by decide +kernel
theorem dX5_markCandidates_129 : decode cX5_markCandidates 129 = .ok (.iinc 5 1, 3) := by decide +kernel
theorem dX5_markCandidates_132 : decode cX5_markCandidates 132 = .ok (.goto (-39), 3) := by decide +kernel
theorem dX5_markCandidates_135 : decode cX5_markCandidates 135 = .ok (.return_, 1) := by decide +kernel
theorem dX5_spanTold_0 : decode cX5_spanTold 0 = .ok (.iload_n 2, 1) := by decide +kernel
theorem dX5_spanTold_1 : decode cX5_spanTold 1 = .ok (.ifCond .ne 6, 3) := by decide +kernel
theorem dX5_spanTold_4 : decode cX5_spanTold 4 = .ok (.bipush (-2), 2) := by decide +kernel
theorem dX5_spanTold_6 : decode cX5_spanTold 6 = .ok (.ireturn, 1) := by decide +kernel
theorem dX5_spanTold_7 : decode cX5_spanTold 7 = .ok (.iload_n 3, 1) := by decide +kernel
theorem dX5_spanTold_8 : decode cX5_spanTold 8 = .ok (.iconst 2, 1) := by decide +kernel
theorem dX5_spanTold_9 : decode cX5_spanTold 9 = .ok (.if_icmp .ne 13, 3) := by decide +kernel
theorem dX5_spanTold_12 : decode cX5_spanTold 12 = .ok (.aload_n 0, 1) := by decide +kernel
theorem dX5_spanTold_13 : decode cX5_spanTold 13 = .ok (.getfield 26, 3) := by decide +kernel
theorem dX5_spanTold_16 : decode cX5_spanTold 16 = .ok (.getfield 106, 3) := by decide +kernel
theorem dX5_spanTold_19 : decode cX5_spanTold 19 = .ok (.iload_n 1, 1) := by decide +kernel
theorem dX5_spanTold_20 : decode cX5_spanTold 20 = .ok (.iaload, 1) := by decide +kernel
theorem dX5_spanTold_21 : decode cX5_spanTold 21 = .ok (.ireturn, 1) := by decide +kernel
theorem dX5_spanTold_22 : decode cX5_spanTold 22 = .ok (.iload_n 3, 1) := by decide +kernel
theorem dX5_spanTold_23 : decode cX5_spanTold 23 = .ok (.ifCond .ne 7, 3) := by decide +kernel
theorem dX5_spanTold_26 : decode cX5_spanTold 26 = .ok (.iload_n 1, 1) := by decide +kernel
theorem dX5_spanTold_27 : decode cX5_spanTold 27 = .ok (.goto 8, 3) := by decide +kernel
theorem dX5_spanTold_30 : decode cX5_spanTold 30 = .ok (.iload_n 1, 1) := by decide +kernel
theorem dX5_spanTold_31 : decode cX5_spanTold 31 = .ok (.iload_n 2, 1) := by decide +kernel
theorem dX5_spanTold_32 : decode cX5_spanTold 32 = .ok (.iadd, 1) := by decide +kernel
theorem dX5_spanTold_33 : decode cX5_spanTold 33 = .ok (.iconst 1, 1) := by decide +kernel
theorem dX5_spanTold_34 : decode cX5_spanTold 34 = .ok (.isub, 1) := by decide +kernel
theorem dX5_spanTold_35 : decode cX5_spanTold 35 = .ok (.ireturn, 1) := by decide +kernel
set_option maxRecDepth 20000 in
theorem ggX5_widthWith_X3_begin : GoodIn wsX5_widthWith wsX3_begin := goodIn_r _ [10, 11, 12, 13, 14, 15, 16, 46, 47, 48, 49, 50, 51, 52, 53] rfl (by decide +kernel)
set_option maxRecDepth 20000 in
theorem gX5_widthWith_X3_begin : GoodIn wsX5_widthWith (wsV RX5 228 RX3 yX3_begin wsX3_begin) := goodIn_app (goodIn_r _ [6, 7, 8, 9] rfl (by decide +kernel)) ggX5_widthWith_X3_begin
set_option maxRecDepth 20000 in
theorem ggX5_widthWith_X3_push : GoodIn wsX5_widthWith wsX3_push := goodIn_r _ [20, 12, 21, 14, 13, 11, 22, 15, 23, 24, 25, 9, 26, 16, 46, 47, 48, 49, 50, 51, 52, 53] rfl (by decide +kernel)
set_option maxRecDepth 20000 in
theorem gX5_widthWith_X3_push : GoodIn wsX5_widthWith (wsV RX5 231 RX3 yX3_push wsX3_push) := goodIn_app (goodIn_r _ [17, 18, 19, 9] rfl (by decide +kernel)) ggX5_widthWith_X3_push
set_option maxRecDepth 20000 in
theorem ggX5_widthWith_X3_most : GoodIn wsX5_widthWith wsX3_most := goodIn_r _ [30, 15, 12, 46, 47, 48, 49, 50, 51, 52, 53] rfl (by decide +kernel)
set_option maxRecDepth 20000 in
theorem gX5_widthWith_X3_most : GoodIn wsX5_widthWith (wsV RX5 208 RX3 yX3_most wsX3_most) := goodIn_app (goodIn_r _ [27, 28, 29, 9] rfl (by decide +kernel)) ggX5_widthWith_X3_most
theorem dX5_widthWith_0 : decode cX5_widthWith 0 = .ok (.aload_n 0, 1) := by decide +kernel
theorem dX5_widthWith_1 : decode cX5_widthWith 1 = .ok (.getfield 43, 3) := by decide +kernel
theorem dX5_widthWith_4 : decode cX5_widthWith 4 = .ok (.aload_n 0, 1) := by decide +kernel
theorem dX5_widthWith_5 : decode cX5_widthWith 5 = .ok (.getfield 58, 3) := by decide +kernel
theorem dX5_widthWith_8 : decode cX5_widthWith 8 = .ok (.invokevirtual 228, 3) := by decide +kernel
theorem dX5_widthWith_11 : decode cX5_widthWith 11 = .ok (.iload_n 2, 1) := by decide +kernel
theorem dX5_widthWith_12 : decode cX5_widthWith 12 = .ok (.istore_n 3, 1) := by decide +kernel
theorem dX5_widthWith_13 : decode cX5_widthWith 13 = .ok (.iload_n 3, 1) := by decide +kernel
theorem dX5_widthWith_14 : decode cX5_widthWith 14 = .ok (.aload_n 0, 1) := by decide +kernel
theorem dX5_widthWith_15 : decode cX5_widthWith 15 = .ok (.getfield 26, 3) := by decide +kernel
theorem dX5_widthWith_18 : decode cX5_widthWith 18 = .ok (.getfield 135, 3) := by decide +kernel
theorem dX5_widthWith_21 : decode cX5_widthWith 21 = .ok (.if_icmp .ge 42, 3) := by decide +kernel
theorem dX5_widthWith_24 : decode cX5_widthWith 24 = .ok (.aload_n 0, 1) := by decide +kernel
theorem dX5_widthWith_25 : decode cX5_widthWith 25 = .ok (.getfield 43, 3) := by decide +kernel
theorem dX5_widthWith_28 : decode cX5_widthWith 28 = .ok (.aload_n 0, 1) := by decide +kernel
theorem dX5_widthWith_29 : decode cX5_widthWith 29 = .ok (.getfield 26, 3) := by decide +kernel
theorem dX5_widthWith_32 : decode cX5_widthWith 32 = .ok (.getfield 106, 3) := by decide +kernel
theorem dX5_widthWith_35 : decode cX5_widthWith 35 = .ok (.iload_n 3, 1) := by decide +kernel
theorem dX5_widthWith_36 : decode cX5_widthWith 36 = .ok (.iaload, 1) := by decide +kernel
theorem dX5_widthWith_37 : decode cX5_widthWith 37 = .ok (.invokevirtual 231, 3) := by decide +kernel
theorem dX5_widthWith_40 : decode cX5_widthWith 40 = .ok (.aload_n 0, 1) := by decide +kernel
theorem dX5_widthWith_41 : decode cX5_widthWith 41 = .ok (.getfield 43, 3) := by decide +kernel
theorem dX5_widthWith_44 : decode cX5_widthWith 44 = .ok (.invokevirtual 208, 3) := by decide +kernel
theorem dX5_widthWith_47 : decode cX5_widthWith 47 = .ok (.iload_n 1, 1) := by decide +kernel
theorem dX5_widthWith_48 : decode cX5_widthWith 48 = .ok (.if_icmp .lt 9, 3) := by decide +kernel
theorem dX5_widthWith_51 : decode cX5_widthWith 51 = .ok (.iload_n 3, 1) := by decide +kernel
theorem dX5_widthWith_52 : decode cX5_widthWith 52 = .ok (.iload_n 2, 1) := by decide +kernel
theorem dX5_widthWith_53 : decode cX5_widthWith 53 = .ok (.isub, 1) := by decide +kernel
theorem dX5_widthWith_54 : decode cX5_widthWith 54 = .ok (.iconst 1, 1) := by decide +kernel
theorem dX5_widthWith_55 : decode cX5_widthWith 55 = .ok (.iadd, 1) := by decide +kernel
theorem dX5_widthWith_56 : decode cX5_widthWith 56 = .ok (.ireturn, 1) := by decide +kernel
theorem dX5_widthWith_57 : decode cX5_widthWith 57 = .ok (.iinc 3 1, 3) := by decide +kernel
theorem dX5_widthWith_60 : decode cX5_widthWith 60 = .ok (.goto (-47), 3) := by decide +kernel
theorem dX5_widthWith_63 : decode cX5_widthWith 63 = .ok (.bipush 121, 2) := by decide +kernel
theorem dX5_widthWith_65 : decode cX5_widthWith 65 = .ok (.ireturn, 1) := by decide +kernel
set_option maxRecDepth 20000 in
theorem ggX5_fewestParts_X3_begin : GoodIn wsX5_fewestParts wsX3_begin := goodIn_r _ [15, 16, 17, 18, 19, 20, 21, 55, 56, 57, 58, 59, 60, 61, 62] rfl (by decide +kernel)
set_option maxRecDepth 20000 in
theorem gX5_fewestParts_X3_begin : GoodIn wsX5_fewestParts (wsV RX5 228 RX3 yX3_begin wsX3_begin) := goodIn_app (goodIn_r _ [11, 12, 13, 14] rfl (by decide +kernel)) ggX5_fewestParts_X3_begin
set_option maxRecDepth 20000 in
theorem ggX5_fewestParts_X3_push : GoodIn wsX5_fewestParts wsX3_push := goodIn_r _ [25, 17, 26, 19, 18, 16, 27, 20, 28, 29, 30, 14, 31, 21, 55, 56, 57, 58, 59, 60, 61, 62] rfl (by decide +kernel)
set_option maxRecDepth 20000 in
theorem gX5_fewestParts_X3_push : GoodIn wsX5_fewestParts (wsV RX5 231 RX3 yX3_push wsX3_push) := goodIn_app (goodIn_r _ [22, 23, 24, 14] rfl (by decide +kernel)) ggX5_fewestParts_X3_push
set_option maxRecDepth 20000 in
theorem ggX5_fewestParts_X3_hasMajority : GoodIn wsX5_fewestParts wsX3_hasMajority := goodIn_r _ [35, 19, 36, 37, 38, 14, 39, 20, 17, 55, 56, 57, 58, 59, 60, 61, 62] rfl (by decide +kernel)
set_option maxRecDepth 20000 in
theorem gX5_fewestParts_X3_hasMajority : GoodIn wsX5_fewestParts (wsV RX5 196 RX3 yX3_hasMajority wsX3_hasMajority) := goodIn_app (goodIn_r _ [32, 33, 34, 14] rfl (by decide +kernel)) ggX5_fewestParts_X3_hasMajority
theorem dX5_fewestParts_0 : decode cX5_fewestParts 0 = .ok (.aload_n 0, 1) := by decide +kernel
theorem dX5_fewestParts_1 : decode cX5_fewestParts 1 = .ok (.getfield 50, 3) := by decide +kernel
theorem dX5_fewestParts_4 : decode cX5_fewestParts 4 = .ok (.aload_n 0, 1) := by decide +kernel
theorem dX5_fewestParts_5 : decode cX5_fewestParts 5 = .ok (.getfield 26, 3) := by decide +kernel
theorem dX5_fewestParts_8 : decode cX5_fewestParts 8 = .ok (.getfield 135, 3) := by decide +kernel
theorem dX5_fewestParts_11 : decode cX5_fewestParts 11 = .ok (.iconst 0, 1) := by decide +kernel
theorem dX5_fewestParts_12 : decode cX5_fewestParts 12 = .ok (.iastore, 1) := by decide +kernel
theorem dX5_fewestParts_13 : decode cX5_fewestParts 13 = .ok (.aload_n 0, 1) := by decide +kernel
theorem dX5_fewestParts_14 : decode cX5_fewestParts 14 = .ok (.getfield 26, 3) := by decide +kernel
theorem dX5_fewestParts_17 : decode cX5_fewestParts 17 = .ok (.getfield 135, 3) := by decide +kernel
theorem dX5_fewestParts_20 : decode cX5_fewestParts 20 = .ok (.iconst 1, 1) := by decide +kernel
theorem dX5_fewestParts_21 : decode cX5_fewestParts 21 = .ok (.isub, 1) := by decide +kernel
theorem dX5_fewestParts_22 : decode cX5_fewestParts 22 = .ok (.istore_n 1, 1) := by decide +kernel
theorem dX5_fewestParts_23 : decode cX5_fewestParts 23 = .ok (.iload_n 1, 1) := by decide +kernel
theorem dX5_fewestParts_24 : decode cX5_fewestParts 24 = .ok (.ifCond .lt 98, 3) := by decide +kernel
theorem dX5_fewestParts_27 : decode cX5_fewestParts 27 = .ok (.aload_n 0, 1) := by decide +kernel
theorem dX5_fewestParts_28 : decode cX5_fewestParts 28 = .ok (.getfield 50, 3) := by decide +kernel
theorem dX5_fewestParts_31 : decode cX5_fewestParts 31 = .ok (.iload_n 1, 1) := by decide +kernel
theorem dX5_fewestParts_32 : decode cX5_fewestParts 32 = .ok (.bipush 120, 2) := by decide +kernel
theorem dX5_fewestParts_34 : decode cX5_fewestParts 34 = .ok (.iastore, 1) := by decide +kernel
theorem dX5_fewestParts_35 : decode cX5_fewestParts 35 = .ok (.aload_n 0, 1) := by decide +kernel
theorem dX5_fewestParts_36 : decode cX5_fewestParts 36 = .ok (.getfield 43, 3) := by decide +kernel
theorem dX5_fewestParts_39 : decode cX5_fewestParts 39 = .ok (.aload_n 0, 1) := by decide +kernel
theorem dX5_fewestParts_40 : decode cX5_fewestParts 40 = .ok (.getfield 58, 3) := by decide +kernel
theorem dX5_fewestParts_43 : decode cX5_fewestParts 43 = .ok (.invokevirtual 228, 3) := by decide +kernel
theorem dX5_fewestParts_46 : decode cX5_fewestParts 46 = .ok (.iload_n 1, 1) := by decide +kernel
theorem dX5_fewestParts_47 : decode cX5_fewestParts 47 = .ok (.istore_n 2, 1) := by decide +kernel
theorem dX5_fewestParts_48 : decode cX5_fewestParts 48 = .ok (.iload_n 2, 1) := by decide +kernel
theorem dX5_fewestParts_49 : decode cX5_fewestParts 49 = .ok (.aload_n 0, 1) := by decide +kernel
theorem dX5_fewestParts_50 : decode cX5_fewestParts 50 = .ok (.getfield 26, 3) := by decide +kernel
theorem dX5_fewestParts_53 : decode cX5_fewestParts 53 = .ok (.getfield 135, 3) := by decide +kernel
theorem dX5_fewestParts_56 : decode cX5_fewestParts 56 = .ok (.if_icmp .ge 60, 3) := by decide +kernel
theorem dX5_fewestParts_59 : decode cX5_fewestParts 59 = .ok (.aload_n 0, 1) := by decide +kernel
theorem dX5_fewestParts_60 : decode cX5_fewestParts 60 = .ok (.getfield 43, 3) := by decide +kernel
theorem dX5_fewestParts_63 : decode cX5_fewestParts 63 = .ok (.aload_n 0, 1) := by decide +kernel
theorem dX5_fewestParts_64 : decode cX5_fewestParts 64 = .ok (.getfield 26, 3) := by decide +kernel
theorem dX5_fewestParts_67 : decode cX5_fewestParts 67 = .ok (.getfield 106, 3) := by decide +kernel
theorem dX5_fewestParts_70 : decode cX5_fewestParts 70 = .ok (.iload_n 2, 1) := by decide +kernel
theorem dX5_fewestParts_71 : decode cX5_fewestParts 71 = .ok (.iaload, 1) := by decide +kernel
theorem dX5_fewestParts_72 : decode cX5_fewestParts 72 = .ok (.invokevirtual 231, 3) := by decide +kernel
theorem dX5_fewestParts_75 : decode cX5_fewestParts 75 = .ok (.aload_n 0, 1) := by decide +kernel
theorem dX5_fewestParts_76 : decode cX5_fewestParts 76 = .ok (.getfield 43, 3) := by decide +kernel
theorem dX5_fewestParts_79 : decode cX5_fewestParts 79 = .ok (.invokevirtual 196, 3) := by decide +kernel
theorem dX5_fewestParts_82 : decode cX5_fewestParts 82 = .ok (.ifCond .eq 28, 3) := by decide +kernel
theorem dX5_fewestParts_85 : decode cX5_fewestParts 85 = .ok (.aload_n 0, 1) := by decide +kernel
theorem dX5_fewestParts_86 : decode cX5_fewestParts 86 = .ok (.getfield 50, 3) := by decide +kernel
theorem dX5_fewestParts_89 : decode cX5_fewestParts 89 = .ok (.iload_n 1, 1) := by decide +kernel
theorem dX5_fewestParts_90 : decode cX5_fewestParts 90 = .ok (.aload_n 0, 1) := by decide +kernel
theorem dX5_fewestParts_91 : decode cX5_fewestParts 91 = .ok (.getfield 50, 3) := by decide +kernel
theorem dX5_fewestParts_94 : decode cX5_fewestParts 94 = .ok (.iload_n 1, 1) := by decide +kernel
theorem dX5_fewestParts_95 : decode cX5_fewestParts 95 = .ok (.iaload, 1) := by decide +kernel
theorem dX5_fewestParts_96 : decode cX5_fewestParts 96 = .ok (.aload_n 0, 1) := by decide +kernel
theorem dX5_fewestParts_97 : decode cX5_fewestParts 97 = .ok (.getfield 50, 3) := by decide +kernel
theorem dX5_fewestParts_100 : decode cX5_fewestParts 100 = .ok (.iload_n 2, 1) := by decide +kernel
theorem dX5_fewestParts_101 : decode cX5_fewestParts 101 = .ok (.iconst 1, 1) := by decide +kernel
theorem dX5_fewestParts_102 : decode cX5_fewestParts 102 = .ok (.iadd, 1) := by decide +kernel
theorem dX5_fewestParts_103 : decode cX5_fewestParts 103 = .ok (.iaload, 1) := by decide +kernel
theorem dX5_fewestParts_104 : decode cX5_fewestParts 104 = .ok (.iconst 1, 1) := by decide +kernel
theorem dX5_fewestParts_105 : decode cX5_fewestParts 105 = .ok (.iadd, 1) := by decide +kernel
theorem dX5_fewestParts_106 : decode cX5_fewestParts 106 = .ok (.invokestatic 234, 3) := by decide +kernel
theorem dX5_fewestParts_109 : decode cX5_fewestParts 109 = .ok (.iastore, 1) := by decide +kernel
theorem dX5_fewestParts_110 : decode cX5_fewestParts 110 = .ok (.iinc 2 1, 3) := by decide +kernel
theorem dX5_fewestParts_113 : decode cX5_fewestParts 113 = .ok (.goto (-65), 3) := by decide +kernel
theorem dX5_fewestParts_116 : decode cX5_fewestParts 116 = .ok (.iinc 1 (-1), 3) := by decide +kernel
theorem dX5_fewestParts_119 : decode cX5_fewestParts 119 = .ok (.goto (-96), 3) := by decide +kernel
theorem dX5_fewestParts_122 : decode cX5_fewestParts 122 = .ok (.return_, 1) := by decide +kernel
set_option maxRecDepth 20000 in
theorem ggX5_behindPart_X3_begin : GoodIn wsX5_behindPart wsX3_begin := goodIn_r _ [11, 12, 13, 14, 15, 16, 17, 51, 52, 53, 54, 55, 56, 57, 58] rfl (by decide +kernel)
set_option maxRecDepth 20000 in
theorem gX5_behindPart_X3_begin : GoodIn wsX5_behindPart (wsV RX5 228 RX3 yX3_begin wsX3_begin) := goodIn_app (goodIn_r _ [7, 8, 9, 10] rfl (by decide +kernel)) ggX5_behindPart_X3_begin
set_option maxRecDepth 20000 in
theorem ggX5_behindPart_X3_push : GoodIn wsX5_behindPart wsX3_push := goodIn_r _ [21, 13, 22, 15, 14, 12, 23, 16, 24, 25, 26, 10, 27, 17, 51, 52, 53, 54, 55, 56, 57, 58] rfl (by decide +kernel)
set_option maxRecDepth 20000 in
theorem gX5_behindPart_X3_push : GoodIn wsX5_behindPart (wsV RX5 231 RX3 yX3_push wsX3_push) := goodIn_app (goodIn_r _ [18, 19, 20, 10] rfl (by decide +kernel)) ggX5_behindPart_X3_push
set_option maxRecDepth 20000 in
theorem ggX5_behindPart_X3_hasMajority : GoodIn wsX5_behindPart wsX3_hasMajority := goodIn_r _ [31, 15, 32, 33, 34, 10, 35, 16, 13, 51, 52, 53, 54, 55, 56, 57, 58] rfl (by decide +kernel)
set_option maxRecDepth 20000 in
theorem gX5_behindPart_X3_hasMajority : GoodIn wsX5_behindPart (wsV RX5 196 RX3 yX3_hasMajority wsX3_hasMajority) := goodIn_app (goodIn_r _ [28, 29, 30, 10] rfl (by decide +kernel)) ggX5_behindPart_X3_hasMajority
theorem dX5_behindPart_0 : decode cX5_behindPart 0 = .ok (.aload_n 0, 1) := by decide +kernel
theorem dX5_behindPart_1 : decode cX5_behindPart 1 = .ok (.getfield 43, 3) := by decide +kernel
theorem dX5_behindPart_4 : decode cX5_behindPart 4 = .ok (.aload_n 0, 1) := by decide +kernel
theorem dX5_behindPart_5 : decode cX5_behindPart 5 = .ok (.getfield 58, 3) := by decide +kernel
theorem dX5_behindPart_8 : decode cX5_behindPart 8 = .ok (.invokevirtual 228, 3) := by decide +kernel
theorem dX5_behindPart_11 : decode cX5_behindPart 11 = .ok (.iload_n 1, 1) := by decide +kernel
theorem dX5_behindPart_12 : decode cX5_behindPart 12 = .ok (.istore_n 2, 1) := by decide +kernel
theorem dX5_behindPart_13 : decode cX5_behindPart 13 = .ok (.iload_n 2, 1) := by decide +kernel
theorem dX5_behindPart_14 : decode cX5_behindPart 14 = .ok (.aload_n 0, 1) := by decide +kernel
theorem dX5_behindPart_15 : decode cX5_behindPart 15 = .ok (.getfield 26, 3) := by decide +kernel
theorem dX5_behindPart_18 : decode cX5_behindPart 18 = .ok (.getfield 135, 3) := by decide +kernel
theorem dX5_behindPart_21 : decode cX5_behindPart 21 = .ok (.if_icmp .ge 58, 3) := by decide +kernel
theorem dX5_behindPart_24 : decode cX5_behindPart 24 = .ok (.aload_n 0, 1) := by decide +kernel
theorem dX5_behindPart_25 : decode cX5_behindPart 25 = .ok (.getfield 43, 3) := by decide +kernel
theorem dX5_behindPart_28 : decode cX5_behindPart 28 = .ok (.aload_n 0, 1) := by decide +kernel
theorem dX5_behindPart_29 : decode cX5_behindPart 29 = .ok (.getfield 26, 3) := by decide +kernel
theorem dX5_behindPart_32 : decode cX5_behindPart 32 = .ok (.getfield 106, 3) := by decide +kernel
theorem dX5_behindPart_35 : decode cX5_behindPart 35 = .ok (.iload_n 2, 1) := by decide +kernel
theorem dX5_behindPart_36 : decode cX5_behindPart 36 = .ok (.iaload, 1) := by decide +kernel
theorem dX5_behindPart_37 : decode cX5_behindPart 37 = .ok (.invokevirtual 231, 3) := by decide +kernel
theorem dX5_behindPart_40 : decode cX5_behindPart 40 = .ok (.aload_n 0, 1) := by decide +kernel
theorem dX5_behindPart_41 : decode cX5_behindPart 41 = .ok (.getfield 43, 3) := by decide +kernel
theorem dX5_behindPart_44 : decode cX5_behindPart 44 = .ok (.invokevirtual 196, 3) := by decide +kernel
theorem dX5_behindPart_47 : decode cX5_behindPart 47 = .ok (.ifCond .eq 26, 3) := by decide +kernel
theorem dX5_behindPart_50 : decode cX5_behindPart 50 = .ok (.aload_n 0, 1) := by decide +kernel
theorem dX5_behindPart_51 : decode cX5_behindPart 51 = .ok (.getfield 50, 3) := by decide +kernel
theorem dX5_behindPart_54 : decode cX5_behindPart 54 = .ok (.iload_n 2, 1) := by decide +kernel
theorem dX5_behindPart_55 : decode cX5_behindPart 55 = .ok (.iconst 1, 1) := by decide +kernel
theorem dX5_behindPart_56 : decode cX5_behindPart 56 = .ok (.iadd, 1) := by decide +kernel
theorem dX5_behindPart_57 : decode cX5_behindPart 57 = .ok (.iaload, 1) := by decide +kernel
theorem dX5_behindPart_58 : decode cX5_behindPart 58 = .ok (.iconst 1, 1) := by decide +kernel
theorem dX5_behindPart_59 : decode cX5_behindPart 59 = .ok (.iadd, 1) := by decide +kernel
theorem dX5_behindPart_60 : decode cX5_behindPart 60 = .ok (.aload_n 0, 1) := by decide +kernel
theorem dX5_behindPart_61 : decode cX5_behindPart 61 = .ok (.getfield 50, 3) := by decide +kernel
theorem dX5_behindPart_64 : decode cX5_behindPart 64 = .ok (.iload_n 1, 1) := by decide +kernel
theorem dX5_behindPart_65 : decode cX5_behindPart 65 = .ok (.iaload, 1) := by decide +kernel
theorem dX5_behindPart_66 : decode cX5_behindPart 66 = .ok (.if_icmp .ne 7, 3) := by decide +kernel
theorem dX5_behindPart_69 : decode cX5_behindPart 69 = .ok (.iload_n 2, 1) := by decide +kernel
theorem dX5_behindPart_70 : decode cX5_behindPart 70 = .ok (.iconst 1, 1) := by decide +kernel
theorem dX5_behindPart_71 : decode cX5_behindPart 71 = .ok (.iadd, 1) := by decide +kernel
theorem dX5_behindPart_72 : decode cX5_behindPart 72 = .ok (.ireturn, 1) := by decide +kernel
theorem dX5_behindPart_73 : decode cX5_behindPart 73 = .ok (.iinc 2 1, 3) := by decide +kernel
theorem dX5_behindPart_76 : decode cX5_behindPart 76 = .ok (.goto (-63), 3) := by decide +kernel
theorem dX5_behindPart_79 : decode cX5_behindPart 79 = .ok (.aload_n 0, 1) := by decide +kernel
theorem dX5_behindPart_80 : decode cX5_behindPart 80 = .ok (.getfield 26, 3) := by decide +kernel
theorem dX5_behindPart_83 : decode cX5_behindPart 83 = .ok (.getfield 135, 3) := by decide +kernel
theorem dX5_behindPart_86 : decode cX5_behindPart 86 = .ok (.ireturn, 1) := by decide +kernel
