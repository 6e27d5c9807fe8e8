theorem dX9_countWith_20 : decode cX9_countWith 20 = .ok (.iload_n 3, 1) := by decide +kernel
theorem dX9_countWith_21 : decode cX9_countWith 21 = .ok (.invokevirtual 75, 3) := by decide +kernel
theorem dX9_countWith_24 : decode cX9_countWith 24 = .ok (.iload_n 1, 1) := by decide +kernel
theorem dX9_countWith_25 : decode cX9_countWith 25 = .ok (.invokestatic 78, 3) := by decide +kernel
theorem dX9_countWith_28 : decode cX9_countWith 28 = .ok (.iadd, 1) := by decide +kernel
theorem dX9_countWith_29 : decode cX9_countWith 29 = .ok (.istore_n 2, 1) := by decide +kernel
theorem dX9_countWith_30 : decode cX9_countWith 30 = .ok (.iinc 3 1, 3) := by decide +kernel
theorem dX9_countWith_33 : decode cX9_countWith 33 = .ok (.goto (-29), 3) := by decide +kernel
theorem dX9_countWith_36 : decode cX9_countWith 36 = .ok (.iload_n 2, 1) := by decide +kernel
theorem dX9_countWith_37 : decode cX9_countWith 37 = .ok (.ireturn, 1) := by decide +kernel
set_option maxRecDepth 20000 in
theorem ggX9_explainsAll_X5_get : GoodIn wsX9_explainsAll wsX5_get := goodIn_r _ [9, 10, 11, 66, 67] (by decide +kernel) (by decide +kernel)
set_option maxRecDepth 20000 in
theorem gX9_explainsAll_X5_get : GoodIn wsX9_explainsAll (wsV RX9 75 RX5 yX5_get wsX5_get) := goodIn_app (goodIn_of _ (by decide +kernel)) ggX9_explainsAll_X5_get
set_option maxRecDepth 20000 in
theorem ggX9_explainsAll_X0_start : GoodIn wsX9_explainsAll wsX0_start := goodIn_r _ [16, 17, 18, 19, 20, 21, 22, 23, 68, 69, 70, 71, 72, 73, 74, 75, 76, 77, 78, 79, 80, 81, 82, 83] (by decide +kernel) (by decide +kernel)
set_option maxRecDepth 20000 in
theorem gX9_explainsAll_X0_start : GoodIn wsX9_explainsAll (wsV RX9 81 RX0 yX0_start wsX0_start) := goodIn_app (goodIn_of _ (by decide +kernel)) ggX9_explainsAll_X0_start
set_option maxRecDepth 20000 in
theorem ggX9_explainsAll_X0_readAt : GoodIn wsX9_explainsAll wsX0_readAt := goodIn_r _ [27, 19, 23, 17, 20, 18, 22, 21, 28, 29, 30, 31, 15, 32, 33, 34, 35, 36, 37, 38, 39, 40, 41, 42, 43, 44, 45, 46, 47, 48, 49, 50, 51, 52, 53, 54, 55, 56, 57, 58, 59, 68, 69, 70, 71, 72, 73, 74, 75, 76, 77, 78, 79, 80, 81, 82, 83, 84, 85, 86, 87, 88, 89, 90, 91] (by decide +kernel) (by decide +kernel)
set_option maxRecDepth 20000 in
theorem gX9_explainsAll_X0_readAt : GoodIn wsX9_explainsAll (wsV RX9 85 RX0 yX0_readAt wsX0_readAt) := goodIn_app (goodIn_of _ (by decide +kernel)) ggX9_explainsAll_X0_readAt
theorem dX9_explainsAll_0 : decode cX9_explainsAll 0 = .ok (.iconst 0, 1) := by decide +kernel
theorem dX9_explainsAll_1 : decode cX9_explainsAll 1 = .ok (.istore_n 2, 1) := by decide +kernel
theorem dX9_explainsAll_2 : decode cX9_explainsAll 2 = .ok (.iload_n 2, 1) := by decide +kernel
theorem dX9_explainsAll_3 : decode cX9_explainsAll 3 = .ok (.aload_n 0, 1) := by decide +kernel
theorem dX9_explainsAll_4 : decode cX9_explainsAll 4 = .ok (.getfield 14, 3) := by decide +kernel
theorem dX9_explainsAll_7 : decode cX9_explainsAll 7 = .ok (.getfield 57, 3) := by decide +kernel
theorem dX9_explainsAll_10 : decode cX9_explainsAll 10 = .ok (.if_icmp .ge 62, 3) := by decide +kernel
theorem dX9_explainsAll_13 : decode cX9_explainsAll 13 = .ok (.aload_n 0, 1) := by decide +kernel
theorem dX9_explainsAll_14 : decode cX9_explainsAll 14 = .ok (.getfield 37, 3) := by decide +kernel
theorem dX9_explainsAll_17 : decode cX9_explainsAll 17 = .ok (.aload_n 0, 1) := by decide +kernel
theorem dX9_explainsAll_18 : decode cX9_explainsAll 18 = .ok (.getfield 14, 3) := by decide +kernel
theorem dX9_explainsAll_21 : decode cX9_explainsAll 21 = .ok (.iload_n 2, 1) := by decide +kernel
theorem dX9_explainsAll_22 : decode cX9_explainsAll 22 = .ok (.invokevirtual 75, 3) := by decide +kernel
theorem dX9_explainsAll_25 : decode cX9_explainsAll 25 = .ok (.iload_n 1, 1) := by decide +kernel
theorem dX9_explainsAll_26 : decode cX9_explainsAll 26 = .ok (.iconst 0, 1) := by decide +kernel
theorem dX9_explainsAll_27 : decode cX9_explainsAll 27 = .ok (.invokevirtual 81, 3) := by decide +kernel
theorem dX9_explainsAll_30 : decode cX9_explainsAll 30 = .ok (.aload_n 0, 1) := by decide +kernel
theorem dX9_explainsAll_31 : decode cX9_explainsAll 31 = .ok (.getfield 37, 3) := by decide +kernel
theorem dX9_explainsAll_34 : decode cX9_explainsAll 34 = .ok (.aload_n 0, 1) := by decide +kernel
theorem dX9_explainsAll_35 : decode cX9_explainsAll 35 = .ok (.getfield 20, 3) := by decide +kernel
theorem dX9_explainsAll_38 : decode cX9_explainsAll 38 = .ok (.iload_n 2, 1) := by decide +kernel
theorem dX9_explainsAll_39 : decode cX9_explainsAll 39 = .ok (.invokevirtual 75, 3) := by decide +kernel
theorem dX9_explainsAll_42 : decode cX9_explainsAll 42 = .ok (.invokevirtual 85, 3) := by decide +kernel
theorem dX9_explainsAll_45 : decode cX9_explainsAll 45 = .ok (.pop, 1) := by decide +kernel
theorem dX9_explainsAll_46 : decode cX9_explainsAll 46 = .ok (.aload_n 0, 1) := by decide +kernel
theorem dX9_explainsAll_47 : decode cX9_explainsAll 47 = .ok (.getfield 37, 3) := by decide +kernel
theorem dX9_explainsAll_50 : decode cX9_explainsAll 50 = .ok (.getfield 88, 3) := by decide +kernel
theorem dX9_explainsAll_53 : decode cX9_explainsAll 53 = .ok (.aload_n 0, 1) := by decide +kernel
theorem dX9_explainsAll_54 : decode cX9_explainsAll 54 = .ok (.getfield 23, 3) := by decide +kernel
theorem dX9_explainsAll_57 : decode cX9_explainsAll 57 = .ok (.iload_n 2, 1) := by decide +kernel
theorem dX9_explainsAll_58 : decode cX9_explainsAll 58 = .ok (.invokevirtual 75, 3) := by decide +kernel
theorem dX9_explainsAll_61 : decode cX9_explainsAll 61 = .ok (.if_icmp .eq 5, 3) := by decide +kernel
theorem dX9_explainsAll_64 : decode cX9_explainsAll 64 = .ok (.iconst 0, 1) := by decide +kernel
theorem dX9_explainsAll_65 : decode cX9_explainsAll 65 = .ok (.ireturn, 1) := by decide +kernel
theorem dX9_explainsAll_66 : decode cX9_explainsAll 66 = .ok (.iinc 2 1, 3) := by decide +kernel
theorem dX9_explainsAll_69 : decode cX9_explainsAll 69 = .ok (.goto (-67), 3) := by decide +kernel
theorem dX9_explainsAll_72 : decode cX9_explainsAll 72 = .ok (.iconst 1, 1) := by decide +kernel
theorem dX9_explainsAll_73 : decode cX9_explainsAll 73 = .ok (.ireturn, 1) := by decide +kernel
set_option maxRecDepth 20000 in
theorem ggX10_init_X4_init : GoodIn wsX10_init wsX4_init := goodIn_r _ [47, 48, 2, 3, 49, 38, 39, 50, 51, 52, 53, 54, 55, 56, 57, 58, 59, 60, 61, 173, 174, 117, 118, 119, 120] (by decide +kernel) (by decide +kernel)
set_option maxRecDepth 20000 in
theorem gX10_init_X4_init_n9 : GoodIn wsX10_init (wsX4_init) := ggX10_init_X4_init
set_option maxRecDepth 20000 in
theorem ggX10_init_X7_init : GoodIn wsX10_init wsX7_init := goodIn_r _ [63, 64, 2, 3, 60, 65, 66, 67, 68, 133, 134, 135, 136, 137, 138, 139, 140] (by decide +kernel) (by decide +kernel)
set_option maxRecDepth 20000 in
theorem gX10_init_X7_init_n18 : GoodIn wsX10_init (wsX7_init) := ggX10_init_X7_init
set_option maxRecDepth 20000 in
theorem ggX10_init_X6_init : GoodIn wsX10_init wsX6_init := goodIn_r _ [70, 71, 2, 3, 72, 60, 73, 141, 142, 143, 144, 145, 146, 147, 148] (by decide +kernel) (by decide +kernel)
set_option maxRecDepth 20000 in
theorem gX10_init_X6_init_n28 : GoodIn wsX10_init (wsX6_init) := ggX10_init_X6_init
set_option maxRecDepth 20000 in
theorem ggX10_init_X3_init : GoodIn wsX10_init wsX3_init := goodIn_r _ [76, 77, 2, 3, 78, 79, 14, 15, 69, 70, 71, 72, 60, 73, 149, 150, 151, 141, 142, 143, 144, 145, 146, 147, 148] (by decide +kernel) (by decide +kernel)
set_option maxRecDepth 20000 in
theorem gX10_init_X3_init : GoodIn wsX10_init (wsX3_init) := ggX10_init_X3_init
set_option maxRecDepth 20000 in
theorem ggX10_init_X2_init : GoodIn wsX10_init wsX2_init := goodIn_r _ [81, 82, 2, 3, 83, 14, 15, 84, 69, 70, 71, 72, 60, 73, 141, 142, 143, 144, 145, 146, 147, 148, 152, 153, 154] (by decide +kernel) (by decide +kernel)
set_option maxRecDepth 20000 in
theorem gX10_init_X2_init_n42 : GoodIn wsX10_init (wsX2_init) := ggX10_init_X2_init
set_option maxRecDepth 20000 in
theorem ggX10_init_X0_init : GoodIn wsX10_init wsX0_init := goodIn_r _ [87, 88, 2, 3, 89, 90, 155, 156, 157, 158, 159, 160, 161, 162] (by decide +kernel) (by decide +kernel)
set_option maxRecDepth 20000 in
theorem gX10_init_X0_init : GoodIn wsX10_init (wsX0_init) := ggX10_init_X0_init
set_option maxRecDepth 20000 in
theorem ggX10_init_X8_init : GoodIn wsX10_init wsX8_init := goodIn_r _ [93, 94, 2, 3, 95, 38, 39, 96, 97, 98, 99, 100, 53, 54, 55, 56, 57, 58, 59, 60, 61, 173, 174, 163, 164, 165, 166] (by decide +kernel) (by decide +kernel)
set_option maxRecDepth 20000 in
theorem gX10_init_X8_init : GoodIn wsX10_init (wsX8_init) := ggX10_init_X8_init
set_option maxRecDepth 20000 in
theorem ggX10_init_X9_init : GoodIn wsX10_init wsX9_init := goodIn_r _ [103, 104, 2, 3, 105, 38, 39, 106, 107, 108, 109, 110, 111, 112, 53, 54, 55, 56, 57, 58, 59, 60, 61, 173, 174, 167, 168, 169, 170, 171, 172] (by decide +kernel) (by decide +kernel)
set_option maxRecDepth 20000 in
theorem gX10_init_X9_init : GoodIn wsX10_init (wsX9_init) := ggX10_init_X9_init
set_option maxRecDepth 20000 in
theorem ggX10_init_X5_init : GoodIn wsX10_init wsX5_init := goodIn_r _ [54, 55, 2, 3, 56, 57, 58, 59, 60, 61, 173, 174] (by decide +kernel) (by decide +kernel)
set_option maxRecDepth 20000 in
theorem gX10_init_X5_init : GoodIn wsX10_init (wsX5_init) := ggX10_init_X5_init
set_option maxRecDepth 20000 in
theorem ggX10_init_X1_init : GoodIn wsX10_init wsX1_init := goodIn_r _ [115, 116, 2, 3] (by decide +kernel) (by decide +kernel)
set_option maxRecDepth 20000 in
theorem gX10_init_X1_init_n85 : GoodIn wsX10_init (wsX1_init) := ggX10_init_X1_init
theorem dX10_init_0 : decode cX10_init 0 = .ok (.aload_n 0, 1) := by decide +kernel
theorem dX10_init_1 : decode cX10_init 1 = .ok (.invokespecial 1, 3) := by decide +kernel
theorem dX10_init_4 : decode cX10_init 4 = .ok (.aload_n 0, 1) := by decide +kernel
theorem dX10_init_5 : decode cX10_init 5 = .ok (.new 7, 3) := by decide +kernel
theorem dX10_init_8 : decode cX10_init 8 = .ok (.dup, 1) := by decide +kernel
theorem dX10_init_9 : decode cX10_init 9 = .ok (.invokespecial 9, 3) := by decide +kernel
theorem dX10_init_12 : decode cX10_init 12 = .ok (.putfield 10, 3) := by decide +kernel
theorem dX10_init_15 : decode cX10_init 15 = .ok (.aload_n 0, 1) := by decide +kernel
theorem dX10_init_16 : decode cX10_init 16 = .ok (.new 16, 3) := by decide +kernel
theorem dX10_init_19 : decode cX10_init 19 = .ok (.dup, 1) := by decide +kernel
theorem dX10_init_20 : decode cX10_init 20 = .ok (.invokespecial 18, 3) := by decide +kernel
theorem dX10_init_23 : decode cX10_init 23 = .ok (.putfield 19, 3) := by decide +kernel
theorem dX10_init_26 : decode cX10_init 26 = .ok (.aload_n 0, 1) := by decide +kernel
theorem dX10_init_27 : decode cX10_init 27 = .ok (.new 16, 3) := by decide +kernel
theorem dX10_init_30 : decode cX10_init 30 = .ok (.dup, 1) := by decide +kernel
theorem dX10_init_31 : decode cX10_init 31 = .ok (.invokespecial 18, 3) := by decide +kernel
theorem dX10_init_34 : decode cX10_init 34 = .ok (.putfield 23, 3) := by decide +kernel
theorem dX10_init_37 : decode cX10_init 37 = .ok (.aload_n 0, 1) := by decide +kernel
theorem dX10_init_38 : decode cX10_init 38 = .ok (.new 26, 3) := by decide +kernel
theorem dX10_init_41 : decode cX10_init 41 = .ok (.dup, 1) := by decide +kernel
theorem dX10_init_42 : decode cX10_init 42 = .ok (.invokespecial 28, 3) := by decide +kernel
theorem dX10_init_45 : decode cX10_init 45 = .ok (.putfield 29, 3) := by decide +kernel
theorem dX10_init_48 : decode cX10_init 48 = .ok (.aload_n 0, 1) := by decide +kernel
theorem dX10_init_49 : decode cX10_init 49 = .ok (.new 33, 3) := by decide +kernel
theorem dX10_init_52 : decode cX10_init 52 = .ok (.dup, 1) := by decide +kernel
theorem dX10_init_53 : decode cX10_init 53 = .ok (.invokespecial 35, 3) := by decide +kernel
theorem dX10_init_56 : decode cX10_init 56 = .ok (.putfield 36, 3) := by decide +kernel
theorem dX10_init_59 : decode cX10_init 59 = .ok (.aload_n 0, 1) := by decide +kernel
theorem dX10_init_60 : decode cX10_init 60 = .ok (.iconst 2, 1) := by decide +kernel
theorem dX10_init_61 : decode cX10_init 61 = .ok (.anewarray 40, 3) := by decide +kernel
theorem dX10_init_64 : decode cX10_init 64 = .ok (.dup, 1) := by decide +kernel
theorem dX10_init_65 : decode cX10_init 65 = .ok (.iconst 0, 1) := by decide +kernel
theorem dX10_init_66 : decode cX10_init 66 = .ok (.new 40, 3) := by decide +kernel
theorem dX10_init_69 : decode cX10_init 69 = .ok (.dup, 1) := by decide +kernel
theorem dX10_init_70 : decode cX10_init 70 = .ok (.invokespecial 42, 3) := by decide +kernel
theorem dX10_init_73 : decode cX10_init 73 = .ok (.aastore, 1) := by decide +kernel
theorem dX10_init_74 : decode cX10_init 74 = .ok (.dup, 1) := by decide +kernel
theorem dX10_init_75 : decode cX10_init 75 = .ok (.iconst 1, 1) := by decide +kernel
theorem dX10_init_76 : decode cX10_init 76 = .ok (.new 40, 3) := by decide +kernel
theorem dX10_init_79 : decode cX10_init 79 = .ok (.dup, 1) := by decide +kernel
theorem dX10_init_80 : decode cX10_init 80 = .ok (.invokespecial 42, 3) := by decide +kernel
theorem dX10_init_83 : decode cX10_init 83 = .ok (.aastore, 1) := by decide +kernel
theorem dX10_init_84 : decode cX10_init 84 = .ok (.putfield 43, 3) := by decide +kernel
theorem dX10_init_87 : decode cX10_init 87 = .ok (.aload_n 0, 1) := by decide +kernel
theorem dX10_init_88 : decode cX10_init 88 = .ok (.new 47, 3) := by decide +kernel
theorem dX10_init_91 : decode cX10_init 91 = .ok (.dup, 1) := by decide +kernel
theorem dX10_init_92 : decode cX10_init 92 = .ok (.aload_n 0, 1) := by decide +kernel
theorem dX10_init_93 : decode cX10_init 93 = .ok (.getfield 19, 3) := by decide +kernel
theorem dX10_init_96 : decode cX10_init 96 = .ok (.aload_n 0, 1) := by decide +kernel
theorem dX10_init_97 : decode cX10_init 97 = .ok (.getfield 29, 3) := by decide +kernel
theorem dX10_init_100 : decode cX10_init 100 = .ok (.invokespecial 49, 3) := by decide +kernel
theorem dX10_init_103 : decode cX10_init 103 = .ok (.putfield 52, 3) := by decide +kernel
theorem dX10_init_106 : decode cX10_init 106 = .ok (.aload_n 0, 1) := by decide +kernel
theorem dX10_init_107 : decode cX10_init 107 = .ok (.new 56, 3) := by decide +kernel
theorem dX10_init_110 : decode cX10_init 110 = .ok (.dup, 1) := by decide +kernel
theorem dX10_init_111 : decode cX10_init 111 = .ok (.aload_n 0, 1) := by decide +kernel
theorem dX10_init_112 : decode cX10_init 112 = .ok (.getfield 19, 3) := by decide +kernel
theorem dX10_init_115 : decode cX10_init 115 = .ok (.aload_n 0, 1) := by decide +kernel
theorem dX10_init_116 : decode cX10_init 116 = .ok (.getfield 29, 3) := by decide +kernel
theorem dX10_init_119 : decode cX10_init 119 = .ok (.aload_n 0, 1) := by decide +kernel
theorem dX10_init_120 : decode cX10_init 120 = .ok (.getfield 52, 3) := by decide +kernel
theorem dX10_init_123 : decode cX10_init 123 = .ok (.invokespecial 58, 3) := by decide +kernel
theorem dX10_init_126 : decode cX10_init 126 = .ok (.putfield 61, 3) := by decide +kernel
theorem dX10_init_129 : decode cX10_init 129 = .ok (.aload_n 0, 1) := by decide +kernel
theorem dX10_init_130 : decode cX10_init 130 = .ok (.new 65, 3) := by decide +kernel
theorem dX10_init_133 : decode cX10_init 133 = .ok (.dup, 1) := by decide +kernel
theorem dX10_init_134 : decode cX10_init 134 = .ok (.aload_n 0, 1) := by decide +kernel
theorem dX10_init_135 : decode cX10_init 135 = .ok (.getfield 19, 3) := by decide +kernel
theorem dX10_init_138 : decode cX10_init 138 = .ok (.aload_n 0, 1) := by decide +kernel
theorem dX10_init_139 : decode cX10_init 139 = .ok (.getfield 52, 3) := by decide +kernel
theorem dX10_init_142 : decode cX10_init 142 = .ok (.invokespecial 67, 3) := by decide +kernel
theorem dX10_init_145 : decode cX10_init 145 = .ok (.putfield 70, 3) := by decide +kernel
theorem dX10_init_148 : decode cX10_init 148 = .ok (.aload_n 0, 1) := by decide +kernel
theorem dX10_init_149 : decode cX10_init 149 = .ok (.new 74, 3) := by decide +kernel
theorem dX10_init_152 : decode cX10_init 152 = .ok (.dup, 1) := by decide +kernel
theorem dX10_init_153 : decode cX10_init 153 = .ok (.bipush 20, 2) := by decide +kernel
theorem dX10_init_155 : decode cX10_init 155 = .ok (.invokespecial 76, 3) := by decide +kernel
theorem dX10_init_158 : decode cX10_init 158 = .ok (.putfield 79, 3) := by decide +kernel
theorem dX10_init_161 : decode cX10_init 161 = .ok (.aload_n 0, 1) := by decide +kernel
theorem dX10_init_162 : decode cX10_init 162 = .ok (.new 83, 3) := by decide +kernel
theorem dX10_init_165 : decode cX10_init 165 = .ok (.dup, 1) := by decide +kernel
theorem dX10_init_166 : decode cX10_init 166 = .ok (.invokespecial 85, 3) := by decide +kernel
theorem dX10_init_169 : decode cX10_init 169 = .ok (.putfield 86, 3) := by decide +kernel
theorem dX10_init_172 : decode cX10_init 172 = .ok (.aload_n 0, 1) := by decide +kernel
theorem dX10_init_173 : decode cX10_init 173 = .ok (.iconst (-1), 1) := by decide +kernel
theorem dX10_init_174 : decode cX10_init 174 = .ok (.putfield 90, 3) := by decide +kernel
theorem dX10_init_177 : decode cX10_init 177 = .ok (.return_, 1) := by decide +kernel
set_option maxRecDepth 20000 in
theorem ggX10_feed_X5_add : GoodIn wsX10_feed wsX5_add := goodIn_r _ [7, 8, 9, 10, 27, 28] (by decide +kernel) (by decide +kernel)
set_option maxRecDepth 20000 in
theorem gX10_feed_X5_add : GoodIn wsX10_feed (wsV RX10 98 RX5 yX5_add wsX5_add) := goodIn_app (goodIn_of _ (by decide +kernel)) ggX10_feed_X5_add
theorem dX10_feed_0 : decode cX10_feed 0 = .ok (.iload_n 1, 1) := by decide +kernel
theorem dX10_feed_1 : decode cX10_feed 1 = .ok (.ifCond .lt 10, 3) := by decide +kernel
theorem dX10_feed_4 : decode cX10_feed 4 = .ok (.iload_n 1, 1) := by decide +kernel
theorem dX10_feed_5 : decode cX10_feed 5 = .ok (.sipush 255, 3) := by decide +kernel
theorem dX10_feed_8 : decode cX10_feed 8 = .ok (.if_icmp .le 6, 3) := by decide +kernel
theorem dX10_feed_11 : decode cX10_feed 11 = .ok (.ldc 94, 2) := by decide +kernel
theorem dX10_feed_13 : decode cX10_feed 13 = .ok (.ireturn, 1) := by decide +kernel
theorem dX10_feed_14 : decode cX10_feed 14 = .ok (.aload_n 0, 1) := by decide +kernel
theorem dX10_feed_15 : decode cX10_feed 15 = .ok (.getfield 10, 3) := by decide +kernel
theorem dX10_feed_18 : decode cX10_feed 18 = .ok (.getfield 95, 3) := by decide +kernel
theorem dX10_feed_21 : decode cX10_feed 21 = .ok (.iload_n 1, 1) := by decide +kernel
theorem dX10_feed_22 : decode cX10_feed 22 = .ok (.invokevirtual 98, 3) := by decide +kernel
theorem dX10_feed_25 : decode cX10_feed 25 = .ok (.ireturn, 1) := by decide +kernel
set_option maxRecDepth 20000 in
theorem ggX10_town_X4_readInto : GoodIn wsX10_town wsX4_readInto := goodIn_r _ [13, 14, 15, 16, 17, 18, 19, 20, 21, 22, 23, 24, 25, 26, 27, 28, 29, 12, 30, 31, 32, 33, 34, 35, 36, 37, 38, 39, 40, 41, 42, 43, 44, 45, 46, 47, 48, 49, 50, 51, 52, 53, 54, 55, 56, 57, 58, 59, 60, 61, 62, 63, 64, 65, 66, 67, 68, 69, 70, 71, 72, 73, 74, 75, 76, 77, 78, 79, 80, 81, 82, 83, 84, 85, 86, 87, 88, 89, 90, 91, 92, 93, 94, 95, 96, 152, 153, 154, 155, 164, 165, 156, 157, 158, 159, 160, 161, 162, 163] (by decide +kernel) (by decide +kernel)
set_option maxRecDepth 20000 in
theorem gX10_town_X4_readInto : GoodIn wsX10_town (wsV RX10 102 RX4 yX4_readInto wsX4_readInto) := goodIn_app (goodIn_of _ (by decide +kernel)) ggX10_town_X4_readInto
set_option maxRecDepth 20000 in
theorem ggX10_town_X5_clear : GoodIn wsX10_town wsX5_clear := goodIn_r _ [100, 40, 164, 165] (by decide +kernel) (by decide +kernel)
set_option maxRecDepth 20000 in
theorem gX10_town_X5_clear : GoodIn wsX10_town (wsV RX10 109 RX5 yX5_clear wsX5_clear) := goodIn_app (goodIn_of _ (by decide +kernel)) ggX10_town_X5_clear
set_option maxRecDepth 20000 in
theorem ggX10_town_X7_become : GoodIn wsX10_town wsX7_become := goodIn_r _ [104, 23, 24, 25, 26, 80, 94, 95, 96, 105, 82, 106, 156, 157, 158, 159, 160, 161, 162, 163] (by decide +kernel) (by decide +kernel)
set_option maxRecDepth 20000 in
theorem gX10_town_X7_become : GoodIn wsX10_town (wsV RX10 112 RX7 yX7_become wsX7_become) := goodIn_app (goodIn_of _ (by decide +kernel)) ggX10_town_X7_become
set_option maxRecDepth 20000 in
theorem ggX10_town_X6_begin : GoodIn wsX10_town wsX6_begin := goodIn_r _ [111, 112, 113, 114, 115, 116, 117, 118, 119, 105, 82, 106, 166, 167, 168, 169, 170, 171, 172, 173, 156, 157, 158, 159, 160, 161, 162, 163] (by decide +kernel) (by decide +kernel)
set_option maxRecDepth 20000 in
theorem gX10_town_X6_begin : GoodIn wsX10_town (wsV RX10 116 RX6 yX6_begin wsX6_begin) := goodIn_app (goodIn_of _ (by decide +kernel)) ggX10_town_X6_begin
set_option maxRecDepth 20000 in
theorem ggX10_town_X3_forget : GoodIn wsX10_town wsX3_forget := goodIn_r _ [124, 125, 174, 175, 176] (by decide +kernel) (by decide +kernel)
set_option maxRecDepth 20000 in
theorem gX10_town_X3_forget : GoodIn wsX10_town (wsV RX10 119 RX3 yX3_forget wsX3_forget) := goodIn_app (goodIn_of _ (by decide +kernel)) ggX10_town_X3_forget
set_option maxRecDepth 20000 in
theorem ggX10_town_X10_forgetImages : GoodIn wsX10_town wsX10_forgetImages := goodIn_r _ [129, 130, 140, 141, 142, 143, 144, 145, 146, 147, 148, 149, 150, 151, 177, 178, 179] (by decide +kernel) (by decide +kernel)
set_option maxRecDepth 20000 in
theorem gX10_town_X10_forgetImages : GoodIn wsX10_town (wsV RX10 122 RX10 yX10_forgetImages wsX10_forgetImages) := goodIn_app (goodIn_of _ (by decide +kernel)) ggX10_town_X10_forgetImages
set_option maxRecDepth 20000 in
theorem ggX10_town_X9_forget : GoodIn wsX10_town wsX9_forget := goodIn_r _ [135, 136, 137, 138, 139, 98, 99, 38, 100, 40, 180, 181, 182, 183, 184, 185, 164, 165] (by decide +kernel) (by decide +kernel)
set_option maxRecDepth 20000 in
theorem gX10_town_X9_forget : GoodIn wsX10_town (wsV RX10 125 RX9 yX9_forget wsX9_forget) := goodIn_app (goodIn_of _ (by decide +kernel)) ggX10_town_X9_forget
theorem dX10_town_0 : decode cX10_town 0 = .ok (.aload_n 0, 1) := by decide +kernel
theorem dX10_town_1 : decode cX10_town 1 = .ok (.getfield 10, 3) := by decide +kernel
theorem dX10_town_4 : decode cX10_town 4 = .ok (.aload_n 0, 1) := by decide +kernel
theorem dX10_town_5 : decode cX10_town 5 = .ok (.getfield 23, 3) := by decide +kernel
theorem dX10_town_8 : decode cX10_town 8 = .ok (.invokevirtual 102, 3) := by decide +kernel
theorem dX10_town_11 : decode cX10_town 11 = .ok (.istore_n 1, 1) := by decide +kernel
theorem dX10_town_12 : decode cX10_town 12 = .ok (.aload_n 0, 1) := by decide +kernel
theorem dX10_town_13 : decode cX10_town 13 = .ok (.aload_n 0, 1) := by decide +kernel
theorem dX10_town_14 : decode cX10_town 14 = .ok (.getfield 10, 3) := by decide +kernel
theorem dX10_town_17 : decode cX10_town 17 = .ok (.getfield 106, 3) := by decide +kernel
theorem dX10_town_20 : decode cX10_town 20 = .ok (.putfield 90, 3) := by decide +kernel
theorem dX10_town_23 : decode cX10_town 23 = .ok (.aload_n 0, 1) := by decide +kernel
theorem dX10_town_24 : decode cX10_town 24 = .ok (.getfield 10, 3) := by decide +kernel
theorem dX10_town_27 : decode cX10_town 27 = .ok (.getfield 95, 3) := by decide +kernel
theorem dX10_town_30 : decode cX10_town 30 = .ok (.invokevirtual 109, 3) := by decide +kernel
theorem dX10_town_33 : decode cX10_town 33 = .ok (.iload_n 1, 1) := by decide +kernel
theorem dX10_town_34 : decode cX10_town 34 = .ok (.ifCond .eq 8, 3) := by decide +kernel
theorem dX10_town_37 : decode cX10_town 37 = .ok (.bipush (-10), 2) := by decide +kernel
theorem dX10_town_39 : decode cX10_town 39 = .ok (.iload_n 1, 1) := by decide +kernel
theorem dX10_town_40 : decode cX10_town 40 = .ok (.isub, 1) := by decide +kernel
theorem dX10_town_41 : decode cX10_town 41 = .ok (.ireturn, 1) := by decide +kernel
theorem dX10_town_42 : decode cX10_town 42 = .ok (.aload_n 0, 1) := by decide +kernel
theorem dX10_town_43 : decode cX10_town 43 = .ok (.getfield 19, 3) := by decide +kernel
theorem dX10_town_46 : decode cX10_town 46 = .ok (.aload_n 0, 1) := by decide +kernel
theorem dX10_town_47 : decode cX10_town 47 = .ok (.getfield 23, 3) := by decide +kernel
theorem dX10_town_50 : decode cX10_town 50 = .ok (.invokevirtual 112, 3) := by decide +kernel
theorem dX10_town_53 : decode cX10_town 53 = .ok (.aload_n 0, 1) := by decide +kernel
theorem dX10_town_54 : decode cX10_town 54 = .ok (.getfield 29, 3) := by decide +kernel
theorem dX10_town_57 : decode cX10_town 57 = .ok (.aload_n 0, 1) := by decide +kernel
theorem dX10_town_58 : decode cX10_town 58 = .ok (.getfield 19, 3) := by decide +kernel
theorem dX10_town_61 : decode cX10_town 61 = .ok (.invokevirtual 116, 3) := by decide +kernel
theorem dX10_town_64 : decode cX10_town 64 = .ok (.aload_n 0, 1) := by decide +kernel
theorem dX10_town_65 : decode cX10_town 65 = .ok (.getfield 36, 3) := by decide +kernel
theorem dX10_town_68 : decode cX10_town 68 = .ok (.invokevirtual 119, 3) := by decide +kernel
theorem dX10_town_71 : decode cX10_town 71 = .ok (.aload_n 0, 1) := by decide +kernel
theorem dX10_town_72 : decode cX10_town 72 = .ok (.invokevirtual 122, 3) := by decide +kernel
theorem dX10_town_75 : decode cX10_town 75 = .ok (.aload_n 0, 1) := by decide +kernel
theorem dX10_town_76 : decode cX10_town 76 = .ok (.getfield 70, 3) := by decide +kernel
theorem dX10_town_79 : decode cX10_town 79 = .ok (.invokevirtual 125, 3) := by decide +kernel
theorem dX10_town_82 : decode cX10_town 82 = .ok (.aload_n 0, 1) := by decide +kernel
theorem dX10_town_83 : decode cX10_town 83 = .ok (.getfield 79, 3) := by decide +kernel
theorem dX10_town_86 : decode cX10_town 86 = .ok (.invokevirtual 109, 3) := by decide +kernel
theorem dX10_town_89 : decode cX10_town 89 = .ok (.aload_n 0, 1) := by decide +kernel
theorem dX10_town_90 : decode cX10_town 90 = .ok (.getfield 19, 3) := by decide +kernel
theorem dX10_town_93 : decode cX10_town 93 = .ok (.getfield 126, 3) := by decide +kernel
theorem dX10_town_96 : decode cX10_town 96 = .ok (.ireturn, 1) := by decide +kernel
theorem dX10_fault_0 : decode cX10_fault 0 = .ok (.aload_n 0, 1) := by decide +kernel
theorem dX10_fault_1 : decode cX10_fault 1 = .ok (.getfield 90, 3) := by decide +kernel
theorem dX10_fault_4 : decode cX10_fault 4 = .ok (.ireturn, 1) := by decide +kernel
theorem dX10_told_0 : decode cX10_told 0 = .ok (.iload_n 1, 1) := by decide +kernel
theorem dX10_told_1 : decode cX10_told 1 = .ok (.tableswitch 189 0 13 #[71, 79, 87, 95, 106, 114, 122, 130, 138, 146, 154, 162, 173, 181], 71) := by decide +kernel
theorem dX10_told_72 : decode cX10_told 72 = .ok (.aload_n 0, 1) := by decide +kernel
theorem dX10_told_73 : decode cX10_told 73 = .ok (.getfield 19, 3) := by decide +kernel
theorem dX10_told_76 : decode cX10_told 76 = .ok (.getfield 129, 3) := by decide +kernel
theorem dX10_told_79 : decode cX10_told 79 = .ok (.ireturn, 1) := by decide +kernel
theorem dX10_told_80 : decode cX10_told 80 = .ok (.aload_n 0, 1) := by decide +kernel
theorem dX10_told_81 : decode cX10_told 81 = .ok (.getfield 19, 3) := by decide +kernel
theorem dX10_told_84 : decode cX10_told 84 = .ok (.getfield 126, 3) := by decide +kernel
theorem dX10_told_87 : decode cX10_told 87 = .ok (.ireturn, 1) := by decide +kernel
theorem dX10_told_88 : decode cX10_told 88 = .ok (.aload_n 0, 1) := by decide +kernel
theorem dX10_told_89 : decode cX10_told 89 = .ok (.getfield 19, 3) := by decide +kernel
theorem dX10_told_92 : decode cX10_told 92 = .ok (.getfield 132, 3) := by decide +kernel
theorem dX10_told_95 : decode cX10_told 95 = .ok (.ireturn, 1) := by decide +kernel
theorem dX10_told_96 : decode cX10_told 96 = .ok (.aload_n 0, 1) := by decide +kernel
theorem dX10_told_97 : decode cX10_told 97 = .ok (.getfield 10, 3) := by decide +kernel
theorem dX10_told_100 : decode cX10_told 100 = .ok (.getfield 95, 3) := by decide +kernel
theorem dX10_told_103 : decode cX10_told 103 = .ok (.getfield 135, 3) := by decide +kernel
theorem dX10_told_106 : decode cX10_told 106 = .ok (.ireturn, 1) := by decide +kernel
theorem dX10_told_107 : decode cX10_told 107 = .ok (.aload_n 0, 1) := by decide +kernel
theorem dX10_told_108 : decode cX10_told 108 = .ok (.getfield 29, 3) := by decide +kernel
theorem dX10_told_111 : decode cX10_told 111 = .ok (.getfield 138, 3) := by decide +kernel
theorem dX10_told_114 : decode cX10_told 114 = .ok (.ireturn, 1) := by decide +kernel
theorem dX10_told_115 : decode cX10_told 115 = .ok (.aload_n 0, 1) := by decide +kernel
theorem dX10_told_116 : decode cX10_told 116 = .ok (.getfield 29, 3) := by decide +kernel
theorem dX10_told_119 : decode cX10_told 119 = .ok (.getfield 141, 3) := by decide +kernel
theorem dX10_told_122 : decode cX10_told 122 = .ok (.ireturn, 1) := by decide +kernel
theorem dX10_told_123 : decode cX10_told 123 = .ok (.aload_n 0, 1) := by decide +kernel
theorem dX10_told_124 : decode cX10_told 124 = .ok (.getfield 29, 3) := by decide +kernel
theorem dX10_told_127 : decode cX10_told 127 = .ok (.getfield 144, 3) := by decide +kernel
theorem dX10_told_130 : decode cX10_told 130 = .ok (.ireturn, 1) := by decide +kernel
theorem dX10_told_131 : decode cX10_told 131 = .ok (.aload_n 0, 1) := by decide +kernel
theorem dX10_told_132 : decode cX10_told 132 = .ok (.getfield 29, 3) := by decide +kernel
theorem dX10_told_135 : decode cX10_told 135 = .ok (.getfield 147, 3) := by decide +kernel
theorem dX10_told_138 : decode cX10_told 138 = .ok (.ireturn, 1) := by decide +kernel
theorem dX10_told_139 : decode cX10_told 139 = .ok (.aload_n 0, 1) := by decide +kernel
theorem dX10_told_140 : decode cX10_told 140 = .ok (.getfield 29, 3) := by decide +kernel
theorem dX10_told_143 : decode cX10_told 143 = .ok (.getfield 150, 3) := by decide +kernel
theorem dX10_told_146 : decode cX10_told 146 = .ok (.ireturn, 1) := by decide +kernel
theorem dX10_told_147 : decode cX10_told 147 = .ok (.aload_n 0, 1) := by decide +kernel
theorem dX10_told_148 : decode cX10_told 148 = .ok (.getfield 29, 3) := by decide +kernel
theorem dX10_told_151 : decode cX10_told 151 = .ok (.getfield 153, 3) := by decide +kernel
theorem dX10_told_154 : decode cX10_told 154 = .ok (.ireturn, 1) := by decide +kernel
theorem dX10_told_155 : decode cX10_told 155 = .ok (.aload_n 0, 1) := by decide +kernel
theorem dX10_told_156 : decode cX10_told 156 = .ok (.getfield 29, 3) := by decide +kernel
theorem dX10_told_159 : decode cX10_told 159 = .ok (.getfield 156, 3) := by decide +kernel
theorem dX10_told_162 : decode cX10_told 162 = .ok (.ireturn, 1) := by decide +kernel
theorem dX10_told_163 : decode cX10_told 163 = .ok (.aload_n 0, 1) := by decide +kernel
theorem dX10_told_164 : decode cX10_told 164 = .ok (.getfield 70, 3) := by decide +kernel
theorem dX10_told_167 : decode cX10_told 167 = .ok (.getfield 159, 3) := by decide +kernel
theorem dX10_told_170 : decode cX10_told 170 = .ok (.getfield 135, 3) := by decide +kernel
theorem dX10_told_173 : decode cX10_told 173 = .ok (.ireturn, 1) := by decide +kernel
theorem dX10_told_174 : decode cX10_told 174 = .ok (.aload_n 0, 1) := by decide +kernel
theorem dX10_told_175 : decode cX10_told 175 = .ok (.getfield 79, 3) := by decide +kernel
theorem dX10_told_178 : decode cX10_told 178 = .ok (.getfield 135, 3) := by decide +kernel
theorem dX10_told_181 : decode cX10_told 181 = .ok (.ireturn, 1) := by decide +kernel
theorem dX10_told_182 : decode cX10_told 182 = .ok (.aload_n 0, 1) := by decide +kernel
theorem dX10_told_183 : decode cX10_told 183 = .ok (.getfield 36, 3) := by decide +kernel
theorem dX10_told_186 : decode cX10_told 186 = .ok (.getfield 162, 3) := by decide +kernel
theorem dX10_told_189 : decode cX10_told 189 = .ok (.ireturn, 1) := by decide +kernel
theorem dX10_told_190 : decode cX10_told 190 = .ok (.ldc 94, 2) := by decide +kernel
theorem dX10_told_192 : decode cX10_told 192 = .ok (.ireturn, 1) := by decide +kernel
set_option maxRecDepth 20000 in
theorem ggX10_hearer_X7_hasHearer : GoodIn wsX10_hearer wsX7_hasHearer := goodIn_r _ [9, 10, 38, 39, 40, 41, 42, 43, 44, 45] (by decide +kernel) (by decide +kernel)
set_option maxRecDepth 20000 in
theorem gX10_hearer_X7_hasHearer : GoodIn wsX10_hearer (wsV RX10 163 RX7 yX7_hasHearer wsX7_hasHearer) := goodIn_app (goodIn_of _ (by decide +kernel)) ggX10_hearer_X7_hasHearer
set_option maxRecDepth 20000 in
theorem ggX10_hearer_X10_at : GoodIn wsX10_hearer wsX10_at := goodIn_r _ [14] (by decide +kernel) (by decide +kernel)
set_option maxRecDepth 20000 in
theorem gX10_hearer_X10_at : GoodIn wsX10_hearer (va_wsS RX10 172 yX10_at wsX10_at) := goodIn_app (goodIn_of _ (by decide +kernel)) ggX10_hearer_X10_at
set_option maxRecDepth 20000 in
theorem ggX10_hearer_X10_bit : GoodIn wsX10_hearer wsX10_bit := goodIn_r _ [17] (by decide +kernel) (by decide +kernel)
set_option maxRecDepth 20000 in
theorem gX10_hearer_X10_bit : GoodIn wsX10_hearer (va_wsS RX10 182 yX10_bit wsX10_bit) := goodIn_app (goodIn_of _ (by decide +kernel)) ggX10_hearer_X10_bit
theorem dX10_hearer_0 : decode cX10_hearer 0 = .ok (.aload_n 0, 1) := by decide +kernel
theorem dX10_hearer_1 : decode cX10_hearer 1 = .ok (.getfield 19, 3) := by decide +kernel
theorem dX10_hearer_4 : decode cX10_hearer 4 = .ok (.iload_n 1, 1) := by decide +kernel
theorem dX10_hearer_5 : decode cX10_hearer 5 = .ok (.invokevirtual 163, 3) := by decide +kernel
theorem dX10_hearer_8 : decode cX10_hearer 8 = .ok (.ifCond .ne 6, 3) := by decide +kernel
theorem dX10_hearer_11 : decode cX10_hearer 11 = .ok (.ldc 167, 2) := by decide +kernel
theorem dX10_hearer_13 : decode cX10_hearer 13 = .ok (.ireturn, 1) := by decide +kernel
theorem dX10_hearer_14 : decode cX10_hearer 14 = .ok (.iload_n 2, 1) := by decide +kernel
theorem dX10_hearer_15 : decode cX10_hearer 15 = .ok (.tableswitch 93 0 4 #[33, 45, 57, 69, 81], 33) := by decide +kernel
theorem dX10_hearer_48 : decode cX10_hearer 48 = .ok (.aload_n 0, 1) := by decide +kernel
theorem dX10_hearer_49 : decode cX10_hearer 49 = .ok (.getfield 29, 3) := by decide +kernel
theorem dX10_hearer_52 : decode cX10_hearer 52 = .ok (.getfield 168, 3) := by decide +kernel
theorem dX10_hearer_55 : decode cX10_hearer 55 = .ok (.iload_n 1, 1) := by decide +kernel
theorem dX10_hearer_56 : decode cX10_hearer 56 = .ok (.invokestatic 172, 3) := by decide +kernel
theorem dX10_hearer_59 : decode cX10_hearer 59 = .ok (.ireturn, 1) := by decide +kernel
theorem dX10_hearer_60 : decode cX10_hearer 60 = .ok (.aload_n 0, 1) := by decide +kernel
theorem dX10_hearer_61 : decode cX10_hearer 61 = .ok (.getfield 19, 3) := by decide +kernel
theorem dX10_hearer_64 : decode cX10_hearer 64 = .ok (.getfield 176, 3) := by decide +kernel
theorem dX10_hearer_67 : decode cX10_hearer 67 = .ok (.iload_n 1, 1) := by decide +kernel
theorem dX10_hearer_68 : decode cX10_hearer 68 = .ok (.invokestatic 172, 3) := by decide +kernel
theorem dX10_hearer_71 : decode cX10_hearer 71 = .ok (.ireturn, 1) := by decide +kernel
theorem dX10_hearer_72 : decode cX10_hearer 72 = .ok (.aload_n 0, 1) := by decide +kernel
theorem dX10_hearer_73 : decode cX10_hearer 73 = .ok (.getfield 19, 3) := by decide +kernel
theorem dX10_hearer_76 : decode cX10_hearer 76 = .ok (.getfield 179, 3) := by decide +kernel
theorem dX10_hearer_79 : decode cX10_hearer 79 = .ok (.iload_n 1, 1) := by decide +kernel
theorem dX10_hearer_80 : decode cX10_hearer 80 = .ok (.invokestatic 172, 3) := by decide +kernel
theorem dX10_hearer_83 : decode cX10_hearer 83 = .ok (.ireturn, 1) := by decide +kernel
theorem dX10_hearer_84 : decode cX10_hearer 84 = .ok (.aload_n 0, 1) := by decide +kernel
theorem dX10_hearer_85 : decode cX10_hearer 85 = .ok (.getfield 29, 3) := by decide +kernel
theorem dX10_hearer_88 : decode cX10_hearer 88 = .ok (.getfield 150, 3) := by decide +kernel
theorem dX10_hearer_91 : decode cX10_hearer 91 = .ok (.iload_n 1, 1) := by decide +kernel
theorem dX10_hearer_92 : decode cX10_hearer 92 = .ok (.invokestatic 182, 3) := by decide +kernel
theorem dX10_hearer_95 : decode cX10_hearer 95 = .ok (.ireturn, 1) := by decide +kernel
theorem dX10_hearer_96 : decode cX10_hearer 96 = .ok (.aload_n 0, 1) := by decide +kernel
theorem dX10_hearer_97 : decode cX10_hearer 97 = .ok (.getfield 29, 3) := by decide +kernel
theorem dX10_hearer_100 : decode cX10_hearer 100 = .ok (.getfield 153, 3) := by decide +kernel
theorem dX10_hearer_103 : decode cX10_hearer 103 = .ok (.iload_n 1, 1) := by decide +kernel
theorem dX10_hearer_104 : decode cX10_hearer 104 = .ok (.invokestatic 182, 3) := by decide +kernel
theorem dX10_hearer_107 : decode cX10_hearer 107 = .ok (.ireturn, 1) := by decide +kernel
theorem dX10_hearer_108 : decode cX10_hearer 108 = .ok (.ldc 94, 2) := by decide +kernel
theorem dX10_hearer_110 : decode cX10_hearer 110 = .ok (.ireturn, 1) := by decide +kernel
set_option maxRecDepth 20000 in
theorem ggX10_corner_X7_hasCorner : GoodIn wsX10_corner wsX7_hasCorner := goodIn_r _ [9, 10, 36, 37, 38, 39, 40, 41, 42, 43] (by decide +kernel) (by decide +kernel)
set_option maxRecDepth 20000 in
theorem gX10_corner_X7_hasCorner : GoodIn wsX10_corner (wsV RX10 186 RX7 yX7_hasCorner wsX7_hasCorner) := goodIn_app (goodIn_of _ (by decide +kernel)) ggX10_corner_X7_hasCorner
set_option maxRecDepth 20000 in
theorem ggX10_corner_X10_at : GoodIn wsX10_corner wsX10_at := goodIn_r _ [14] (by decide +kernel) (by decide +kernel)
set_option maxRecDepth 20000 in
theorem gX10_corner_X10_at : GoodIn wsX10_corner (va_wsS RX10 172 yX10_at wsX10_at) := goodIn_app (goodIn_of _ (by decide +kernel)) ggX10_corner_X10_at
set_option maxRecDepth 20000 in
theorem ggX10_corner_X10_bit : GoodIn wsX10_corner wsX10_bit := goodIn_r _ [17] (by decide +kernel) (by decide +kernel)
set_option maxRecDepth 20000 in
theorem gX10_corner_X10_bit : GoodIn wsX10_corner (va_wsS RX10 182 yX10_bit wsX10_bit) := goodIn_app (goodIn_of _ (by decide +kernel)) ggX10_corner_X10_bit
set_option maxRecDepth 20000 in
theorem ggX10_corner_X6_standingAt : GoodIn wsX10_corner wsX6_standingAt := goodIn_r _ [22, 23, 12, 13, 14, 44, 45, 46, 47, 48, 49, 50, 51] (by decide +kernel) (by decide +kernel)
set_option maxRecDepth 20000 in
theorem gX10_corner_X6_standingAt : GoodIn wsX10_corner (wsV RX10 192 RX6 yX6_standingAt wsX6_standingAt) := goodIn_app (goodIn_of _ (by decide +kernel)) ggX10_corner_X6_standingAt
theorem dX10_corner_0 : decode cX10_corner 0 = .ok (.aload_n 0, 1) := by decide +kernel
theorem dX10_corner_1 : decode cX10_corner 1 = .ok (.getfield 19, 3) := by decide +kernel
theorem dX10_corner_4 : decode cX10_corner 4 = .ok (.iload_n 1, 1) := by decide +kernel
theorem dX10_corner_5 : decode cX10_corner 5 = .ok (.invokevirtual 186, 3) := by decide +kernel
theorem dX10_corner_8 : decode cX10_corner 8 = .ok (.ifCond .ne 6, 3) := by decide +kernel
theorem dX10_corner_11 : decode cX10_corner 11 = .ok (.ldc 167, 2) := by decide +kernel
theorem dX10_corner_13 : decode cX10_corner 13 = .ok (.ireturn, 1) := by decide +kernel
theorem dX10_corner_14 : decode cX10_corner 14 = .ok (.iload_n 2, 1) := by decide +kernel
theorem dX10_corner_15 : decode cX10_corner 15 = .ok (.tableswitch 65 0 2 #[25, 37, 49], 25) := by decide +kernel
theorem dX10_corner_40 : decode cX10_corner 40 = .ok (.aload_n 0, 1) := by decide +kernel
theorem dX10_corner_41 : decode cX10_corner 41 = .ok (.getfield 19, 3) := by decide +kernel
theorem dX10_corner_44 : decode cX10_corner 44 = .ok (.getfield 189, 3) := by decide +kernel
theorem dX10_corner_47 : decode cX10_corner 47 = .ok (.iload_n 1, 1) := by decide +kernel
theorem dX10_corner_48 : decode cX10_corner 48 = .ok (.invokestatic 172, 3) := by decide +kernel
theorem dX10_corner_51 : decode cX10_corner 51 = .ok (.ireturn, 1) := by decide +kernel
theorem dX10_corner_52 : decode cX10_corner 52 = .ok (.aload_n 0, 1) := by decide +kernel
theorem dX10_corner_53 : decode cX10_corner 53 = .ok (.getfield 29, 3) := by decide +kernel
theorem dX10_corner_56 : decode cX10_corner 56 = .ok (.getfield 156, 3) := by decide +kernel
theorem dX10_corner_59 : decode cX10_corner 59 = .ok (.iload_n 1, 1) := by decide +kernel
theorem dX10_corner_60 : decode cX10_corner 60 = .ok (.invokestatic 182, 3) := by decide +kernel
theorem dX10_corner_63 : decode cX10_corner 63 = .ok (.ireturn, 1) := by decide +kernel
theorem dX10_corner_64 : decode cX10_corner 64 = .ok (.aload_n 0, 1) := by decide +kernel
theorem dX10_corner_65 : decode cX10_corner 65 = .ok (.getfield 29, 3) := by decide +kernel
theorem dX10_corner_68 : decode cX10_corner 68 = .ok (.iload_n 1, 1) := by decide +kernel
theorem dX10_corner_69 : decode cX10_corner 69 = .ok (.aload_n 0, 1) := by decide +kernel
theorem dX10_corner_70 : decode cX10_corner 70 = .ok (.getfield 19, 3) := by decide +kernel
theorem dX10_corner_73 : decode cX10_corner 73 = .ok (.getfield 132, 3) := by decide +kernel
theorem dX10_corner_76 : decode cX10_corner 76 = .ok (.invokevirtual 192, 3) := by decide +kernel
theorem dX10_corner_79 : decode cX10_corner 79 = .ok (.ireturn, 1) := by decide +kernel
theorem dX10_corner_80 : decode cX10_corner 80 = .ok (.ldc 94, 2) := by decide +kernel
theorem dX10_corner_82 : decode cX10_corner 82 = .ok (.ireturn, 1) := by decide +kernel
set_option maxRecDepth 20000 in
theorem ggX10_cry_X10_roundRefusal : GoodIn wsX10_cry wsX10_roundRefusal := goodIn_r _ [8, 9, 10, 11, 12, 13, 14, 15, 16, 17, 18, 19, 20, 21, 22, 110, 111, 112, 113, 114, 115, 116, 117, 118, 119, 120, 121, 130, 131, 132, 133, 134, 135, 136, 137] (by decide +kernel) (by decide +kernel)
set_option maxRecDepth 20000 in
theorem gX10_cry_X10_roundRefusal : GoodIn wsX10_cry (wsV RX10 195 RX10 yX10_roundRefusal wsX10_roundRefusal) := goodIn_app (goodIn_of _ (by decide +kernel)) ggX10_cry_X10_roundRefusal
set_option maxRecDepth 20000 in
theorem ggX10_cry_X3_remember : GoodIn wsX10_cry wsX3_remember := goodIn_r _ [27, 28, 29, 30, 31, 32, 33, 34, 35, 36, 37, 38, 39, 40, 41, 42, 43, 44, 45, 46, 47, 48, 7, 49, 138, 139, 140, 122, 123, 124, 125, 126, 127, 128, 129] (by decide +kernel) (by decide +kernel)
set_option maxRecDepth 20000 in
theorem gX10_cry_X3_remember : GoodIn wsX10_cry (wsV RX10 200 RX3 yX3_remember wsX3_remember) := goodIn_app (goodIn_of _ (by decide +kernel)) ggX10_cry_X3_remember
set_option maxRecDepth 20000 in
theorem ggX10_cry_X10_sendCrier : GoodIn wsX10_cry wsX10_sendCrier := goodIn_r _ [53, 54, 1, 55, 56, 57, 58, 59, 60, 61, 62, 63, 64, 65, 66, 67, 68, 69, 70, 71, 72, 73, 74, 75, 76, 77, 78, 79, 80, 81, 82, 83, 84, 7, 85, 86, 87, 88, 89, 90, 91, 92, 93, 94, 95, 96, 97, 98, 99, 100, 101, 102, 103, 104, 105, 106, 107, 108, 109, 110, 111, 112, 113, 114, 115, 116, 117, 118, 119, 120, 121, 122, 123, 124, 125, 126, 127, 128, 129, 141, 142, 143, 144, 145, 146, 147, 148, 130, 131, 132, 133, 134, 135, 136, 137] (by decide +kernel) (by decide +kernel)
set_option maxRecDepth 20000 in
theorem gX10_cry_X10_sendCrier : GoodIn wsX10_cry (wsV RX10 204 RX10 yX10_sendCrier wsX10_sendCrier) := goodIn_app (goodIn_of _ (by decide +kernel)) ggX10_cry_X10_sendCrier
theorem dX10_cry_0 : decode cX10_cry 0 = .ok (.aload_n 0, 1) := by decide +kernel
theorem dX10_cry_1 : decode cX10_cry 1 = .ok (.iload_n 1, 1) := by decide +kernel
theorem dX10_cry_2 : decode cX10_cry 2 = .ok (.iload_n 2, 1) := by decide +kernel
theorem dX10_cry_3 : decode cX10_cry 3 = .ok (.iload_n 3, 1) := by decide +kernel
theorem dX10_cry_4 : decode cX10_cry 4 = .ok (.invokevirtual 195, 3) := by decide +kernel
theorem dX10_cry_7 : decode cX10_cry 7 = .ok (.istore 4, 2) := by decide +kernel
theorem dX10_cry_9 : decode cX10_cry 9 = .ok (.iload 4, 2) := by decide +kernel
theorem dX10_cry_11 : decode cX10_cry 11 = .ok (.ifCond .eq 6, 3) := by decide +kernel
theorem dX10_cry_14 : decode cX10_cry 14 = .ok (.iload 4, 2) := by decide +kernel
theorem dX10_cry_16 : decode cX10_cry 16 = .ok (.ireturn, 1) := by decide +kernel
theorem dX10_cry_17 : decode cX10_cry 17 = .ok (.aload_n 0, 1) := by decide +kernel
theorem dX10_cry_18 : decode cX10_cry 18 = .ok (.getfield 29, 3) := by decide +kernel
theorem dX10_cry_21 : decode cX10_cry 21 = .ok (.getfield 138, 3) := by decide +kernel
theorem dX10_cry_24 : decode cX10_cry 24 = .ok (.sipush 9000, 3) := by decide +kernel
theorem dX10_cry_27 : decode cX10_cry 27 = .ok (.if_icmp .le 6, 3) := by decide +kernel
theorem dX10_cry_30 : decode cX10_cry 30 = .ok (.ldc 199, 2) := by decide +kernel
theorem dX10_cry_32 : decode cX10_cry 32 = .ok (.ireturn, 1) := by decide +kernel
theorem dX10_cry_33 : decode cX10_cry 33 = .ok (.aload_n 0, 1) := by decide +kernel
theorem dX10_cry_34 : decode cX10_cry 34 = .ok (.getfield 36, 3) := by decide +kernel
theorem dX10_cry_37 : decode cX10_cry 37 = .ok (.aload_n 0, 1) := by decide +kernel
theorem dX10_cry_38 : decode cX10_cry 38 = .ok (.getfield 29, 3) := by decide +kernel
theorem dX10_cry_41 : decode cX10_cry 41 = .ok (.invokevirtual 200, 3) := by decide +kernel
theorem dX10_cry_44 : decode cX10_cry 44 = .ok (.aload_n 0, 1) := by decide +kernel
theorem dX10_cry_45 : decode cX10_cry 45 = .ok (.iload_n 1, 1) := by decide +kernel
theorem dX10_cry_46 : decode cX10_cry 46 = .ok (.iload_n 2, 1) := by decide +kernel
theorem dX10_cry_47 : decode cX10_cry 47 = .ok (.iload_n 3, 1) := by decide +kernel
theorem dX10_cry_48 : decode cX10_cry 48 = .ok (.invokevirtual 204, 3) := by decide +kernel
theorem dX10_cry_51 : decode cX10_cry 51 = .ok (.aload_n 0, 1) := by decide +kernel
theorem dX10_cry_52 : decode cX10_cry 52 = .ok (.getfield 29, 3) := by decide +kernel
theorem dX10_cry_55 : decode cX10_cry 55 = .ok (.getfield 144, 3) := by decide +kernel
theorem dX10_cry_58 : decode cX10_cry 58 = .ok (.ireturn, 1) := by decide +kernel
set_option maxRecDepth 20000 in
theorem ggX10_month_X7_stands : GoodIn wsX10_month wsX7_stands := goodIn_r _ [10, 11, 71, 72, 73, 74, 75, 76, 77, 78] (by decide +kernel) (by decide +kernel)
set_option maxRecDepth 20000 in
theorem gX10_month_X7_stands : GoodIn wsX10_month (wsV RX10 208 RX7 yX7_stands wsX7_stands) := goodIn_app (goodIn_of _ (by decide +kernel)) ggX10_month_X7_stands
set_option maxRecDepth 20000 in
theorem ggX10_month_J6_bitCount_0f7a4 : GoodIn wsX10_month wsJ6_bitCount_0f7a4 := goodIn_r _ [15, 16, 17, 18] (by decide +kernel) (by decide +kernel)
set_option maxRecDepth 20000 in
theorem gX10_month_J6_bitCount_0f7a4 : GoodIn wsX10_month (va_wsS RX10 213 yJ6_bitCount_0f7a4 wsJ6_bitCount_0f7a4) := goodIn_app (goodIn_of _ (by decide +kernel)) ggX10_month_J6_bitCount_0f7a4
set_option maxRecDepth 20000 in
theorem ggX10_month_X3_remember : GoodIn wsX10_month wsX3_remember := goodIn_r _ [23, 24, 25, 26, 27, 28, 29, 30, 31, 32, 33, 34, 35, 36, 37, 38, 39, 40, 41, 42, 43, 44, 45, 46, 79, 80, 81, 63, 64, 65, 66, 67, 68, 69, 70] (by decide +kernel) (by decide +kernel)
set_option maxRecDepth 20000 in
theorem gX10_month_X3_remember : GoodIn wsX10_month (wsV RX10 200 RX3 yX3_remember wsX3_remember) := goodIn_app (goodIn_of _ (by decide +kernel)) ggX10_month_X3_remember
set_option maxRecDepth 20000 in
theorem ggX10_month_X6_passMonth : GoodIn wsX10_month wsX6_passMonth := goodIn_r _ [50, 40, 37, 63, 64, 65, 66, 67, 68, 69, 70] (by decide +kernel) (by decide +kernel)
set_option maxRecDepth 20000 in
theorem gX10_month_X6_passMonth : GoodIn wsX10_month (wsV RX10 218 RX6 yX6_passMonth wsX6_passMonth) := goodIn_app (goodIn_of _ (by decide +kernel)) ggX10_month_X6_passMonth
theorem dX10_month_0 : decode cX10_month 0 = .ok (.aload_n 0, 1) := by decide +kernel
theorem dX10_month_1 : decode cX10_month 1 = .ok (.getfield 19, 3) := by decide +kernel
theorem dX10_month_4 : decode cX10_month 4 = .ok (.invokevirtual 208, 3) := by decide +kernel
theorem dX10_month_7 : decode cX10_month 7 = .ok (.ifCond .ne 6, 3) := by decide +kernel
theorem dX10_month_10 : decode cX10_month 10 = .ok (.ldc 212, 2) := by decide +kernel
theorem dX10_month_12 : decode cX10_month 12 = .ok (.ireturn, 1) := by decide +kernel
theorem dX10_month_13 : decode cX10_month 13 = .ok (.aload_n 0, 1) := by decide +kernel
theorem dX10_month_14 : decode cX10_month 14 = .ok (.getfield 29, 3) := by decide +kernel
theorem dX10_month_17 : decode cX10_month 17 = .ok (.getfield 141, 3) := by decide +kernel
theorem dX10_month_20 : decode cX10_month 20 = .ok (.sipush 9000, 3) := by decide +kernel
theorem dX10_month_23 : decode cX10_month 23 = .ok (.if_icmp .le 6, 3) := by decide +kernel
theorem dX10_month_26 : decode cX10_month 26 = .ok (.ldc 199, 2) := by decide +kernel
theorem dX10_month_28 : decode cX10_month 28 = .ok (.ireturn, 1) := by decide +kernel
theorem dX10_month_29 : decode cX10_month 29 = .ok (.aload_n 0, 1) := by decide +kernel
theorem dX10_month_30 : decode cX10_month 30 = .ok (.getfield 29, 3) := by decide +kernel
theorem dX10_month_33 : decode cX10_month 33 = .ok (.getfield 150, 3) := by decide +kernel
theorem dX10_month_36 : decode cX10_month 36 = .ok (.invokestatic 213, 3) := by decide +kernel
theorem dX10_month_39 : decode cX10_month 39 = .ok (.istore_n 1, 1) := by decide +kernel
theorem dX10_month_40 : decode cX10_month 40 = .ok (.aload_n 0, 1) := by decide +kernel
theorem dX10_month_41 : decode cX10_month 41 = .ok (.getfield 36, 3) := by decide +kernel
theorem dX10_month_44 : decode cX10_month 44 = .ok (.aload_n 0, 1) := by decide +kernel
theorem dX10_month_45 : decode cX10_month 45 = .ok (.getfield 29, 3) := by decide +kernel
theorem dX10_month_48 : decode cX10_month 48 = .ok (.invokevirtual 200, 3) := by decide +kernel
theorem dX10_month_51 : decode cX10_month 51 = .ok (.aload_n 0, 1) := by decide +kernel
theorem dX10_month_52 : decode cX10_month 52 = .ok (.getfield 29, 3) := by decide +kernel
theorem dX10_month_55 : decode cX10_month 55 = .ok (.invokevirtual 218, 3) := by decide +kernel
theorem dX10_month_58 : decode cX10_month 58 = .ok (.iload_n 1, 1) := by decide +kernel
theorem dX10_month_59 : decode cX10_month 59 = .ok (.ireturn, 1) := by decide +kernel
set_option maxRecDepth 20000 in
theorem ggX10_keepIn_X7_hasHearer : GoodIn wsX10_keepIn wsX7_hasHearer := goodIn_r _ [9, 10, 65, 66, 67, 68, 69, 70, 71, 72] (by decide +kernel) (by decide +kernel)
set_option maxRecDepth 20000 in
theorem gX10_keepIn_X7_hasHearer : GoodIn wsX10_keepIn (wsV RX10 163 RX7 yX7_hasHearer wsX7_hasHearer) := goodIn_app (goodIn_of _ (by decide +kernel)) ggX10_keepIn_X7_hasHearer
set_option maxRecDepth 20000 in
theorem ggX10_keepIn_X10_bit : GoodIn wsX10_keepIn wsX10_bit := goodIn_r _ [14] (by decide +kernel) (by decide +kernel)
set_option maxRecDepth 20000 in
theorem gX10_keepIn_X10_bit : GoodIn wsX10_keepIn (va_wsS RX10 182 yX10_bit wsX10_bit) := goodIn_app (goodIn_of _ (by decide +kernel)) ggX10_keepIn_X10_bit
set_option maxRecDepth 20000 in
theorem ggX10_keepIn_X3_remember : GoodIn wsX10_keepIn wsX3_remember := goodIn_r _ [19, 20, 21, 22, 23, 24, 25, 26, 27, 28, 29, 30, 31, 32, 33, 34, 35, 36, 37, 38, 39, 40, 13, 41, 73, 74, 75, 57, 58, 59, 60, 61, 62, 63, 64] (by decide +kernel) (by decide +kernel)
set_option maxRecDepth 20000 in
theorem gX10_keepIn_X3_remember : GoodIn wsX10_keepIn (wsV RX10 200 RX3 yX3_remember wsX3_remember) := goodIn_app (goodIn_of _ (by decide +kernel)) ggX10_keepIn_X3_remember
set_option maxRecDepth 20000 in
theorem ggX10_keepIn_X10_withBit : GoodIn wsX10_keepIn wsX10_withBit := goodIn_r _ [44] (by decide +kernel) (by decide +kernel)
set_option maxRecDepth 20000 in
theorem gX10_keepIn_X10_withBit : GoodIn wsX10_keepIn (va_wsS RX10 221 yX10_withBit wsX10_withBit) := goodIn_app (goodIn_of _ (by decide +kernel)) ggX10_keepIn_X10_withBit
theorem dX10_keepIn_0 : decode cX10_keepIn 0 = .ok (.aload_n 0, 1) := by decide +kernel
theorem dX10_keepIn_1 : decode cX10_keepIn 1 = .ok (.getfield 19, 3) := by decide +kernel
theorem dX10_keepIn_4 : decode cX10_keepIn 4 = .ok (.iload_n 1, 1) := by decide +kernel
theorem dX10_keepIn_5 : decode cX10_keepIn 5 = .ok (.invokevirtual 163, 3) := by decide +kernel
theorem dX10_keepIn_8 : decode cX10_keepIn 8 = .ok (.ifCond .ne 6, 3) := by decide +kernel
theorem dX10_keepIn_11 : decode cX10_keepIn 11 = .ok (.ldc 167, 2) := by decide +kernel
theorem dX10_keepIn_13 : decode cX10_keepIn 13 = .ok (.ireturn, 1) := by decide +kernel
theorem dX10_keepIn_14 : decode cX10_keepIn 14 = .ok (.aload_n 0, 1) := by decide +kernel
theorem dX10_keepIn_15 : decode cX10_keepIn 15 = .ok (.getfield 29, 3) := by decide +kernel
theorem dX10_keepIn_18 : decode cX10_keepIn 18 = .ok (.getfield 153, 3) := by decide +kernel
theorem dX10_keepIn_21 : decode cX10_keepIn 21 = .ok (.iload_n 1, 1) := by decide +kernel
theorem dX10_keepIn_22 : decode cX10_keepIn 22 = .ok (.invokestatic 182, 3) := by decide +kernel
theorem dX10_keepIn_25 : decode cX10_keepIn 25 = .ok (.istore_n 3, 1) := by decide +kernel
theorem dX10_keepIn_26 : decode cX10_keepIn 26 = .ok (.aload_n 0, 1) := by decide +kernel
theorem dX10_keepIn_27 : decode cX10_keepIn 27 = .ok (.getfield 36, 3) := by decide +kernel
theorem dX10_keepIn_30 : decode cX10_keepIn 30 = .ok (.aload_n 0, 1) := by decide +kernel
theorem dX10_keepIn_31 : decode cX10_keepIn 31 = .ok (.getfield 29, 3) := by decide +kernel
theorem dX10_keepIn_34 : decode cX10_keepIn 34 = .ok (.invokevirtual 200, 3) := by decide +kernel
theorem dX10_keepIn_37 : decode cX10_keepIn 37 = .ok (.aload_n 0, 1) := by decide +kernel
theorem dX10_keepIn_38 : decode cX10_keepIn 38 = .ok (.getfield 29, 3) := by decide +kernel
theorem dX10_keepIn_41 : decode cX10_keepIn 41 = .ok (.aload_n 0, 1) := by decide +kernel
theorem dX10_keepIn_42 : decode cX10_keepIn 42 = .ok (.getfield 29, 3) := by decide +kernel
theorem dX10_keepIn_45 : decode cX10_keepIn 45 = .ok (.getfield 153, 3) := by decide +kernel
theorem dX10_keepIn_48 : decode cX10_keepIn 48 = .ok (.iload_n 1, 1) := by decide +kernel
theorem dX10_keepIn_49 : decode cX10_keepIn 49 = .ok (.iload_n 2, 1) := by decide +kernel
theorem dX10_keepIn_50 : decode cX10_keepIn 50 = .ok (.invokestatic 221, 3) := by decide +kernel
theorem dX10_keepIn_53 : decode cX10_keepIn 53 = .ok (.putfield 153, 3) := by decide +kernel
theorem dX10_keepIn_56 : decode cX10_keepIn 56 = .ok (.iload_n 3, 1) := by decide +kernel
theorem dX10_keepIn_57 : decode cX10_keepIn 57 = .ok (.ireturn, 1) := by decide +kernel
set_option maxRecDepth 20000 in
theorem ggX10_move_X7_hasHearer : GoodIn wsX10_move wsX7_hasHearer := goodIn_r _ [9, 10, 70, 71, 72, 73, 74, 75, 76, 77] (by decide +kernel) (by decide +kernel)
set_option maxRecDepth 20000 in
theorem gX10_move_X7_hasHearer : GoodIn wsX10_move (wsV RX10 163 RX7 yX7_hasHearer wsX7_hasHearer) := goodIn_app (goodIn_of _ (by decide +kernel)) ggX10_move_X7_hasHearer
set_option maxRecDepth 20000 in
theorem ggX10_move_X7_hasCorner : GoodIn wsX10_move wsX7_hasCorner := goodIn_r _ [14, 15, 70, 71, 72, 73, 74, 75, 76, 77] (by decide +kernel) (by decide +kernel)
set_option maxRecDepth 20000 in
theorem gX10_move_X7_hasCorner : GoodIn wsX10_move (wsV RX10 186 RX7 yX7_hasCorner wsX7_hasCorner) := goodIn_app (goodIn_of _ (by decide +kernel)) ggX10_move_X7_hasCorner
set_option maxRecDepth 20000 in
theorem ggX10_move_X10_at : GoodIn wsX10_move wsX10_at := goodIn_r _ [19] (by decide +kernel) (by decide +kernel)
set_option maxRecDepth 20000 in
theorem gX10_move_X10_at : GoodIn wsX10_move (va_wsS RX10 172 yX10_at wsX10_at) := goodIn_app (goodIn_of _ (by decide +kernel)) ggX10_move_X10_at
set_option maxRecDepth 20000 in
theorem ggX10_move_X3_remember : GoodIn wsX10_move wsX3_remember := goodIn_r _ [24, 25, 26, 27, 28, 29, 30, 31, 32, 33, 34, 35, 36, 37, 38, 39, 40, 41, 42, 43, 44, 45, 18, 46, 78, 79, 80, 62, 63, 64, 65, 66, 67, 68, 69] (by decide +kernel) (by decide +kernel)
set_option maxRecDepth 20000 in
theorem gX10_move_X3_remember : GoodIn wsX10_move (wsV RX10 200 RX3 yX3_remember wsX3_remember) := goodIn_app (goodIn_of _ (by decide +kernel)) ggX10_move_X3_remember
set_option maxRecDepth 20000 in
theorem ggX10_move_X10_put : GoodIn wsX10_move wsX10_put := goodIn_r _ [49] (by decide +kernel) (by decide +kernel)
set_option maxRecDepth 20000 in
theorem gX10_move_X10_put : GoodIn wsX10_move (va_wsS RX10 225 yX10_put wsX10_put) := goodIn_app (goodIn_of _ (by decide +kernel)) ggX10_move_X10_put
theorem dX10_move_0 : decode cX10_move 0 = .ok (.aload_n 0, 1) := by decide +kernel
theorem dX10_move_1 : decode cX10_move 1 = .ok (.getfield 19, 3) := by decide +kernel
theorem dX10_move_4 : decode cX10_move 4 = .ok (.iload_n 1, 1) := by decide +kernel
theorem dX10_move_5 : decode cX10_move 5 = .ok (.invokevirtual 163, 3) := by decide +kernel
theorem dX10_move_8 : decode cX10_move 8 = .ok (.ifCond .eq 14, 3) := by decide +kernel
theorem dX10_move_11 : decode cX10_move 11 = .ok (.aload_n 0, 1) := by decide +kernel
theorem dX10_move_12 : decode cX10_move 12 = .ok (.getfield 19, 3) := by decide +kernel
theorem dX10_move_15 : decode cX10_move 15 = .ok (.iload_n 2, 1) := by decide +kernel
theorem dX10_move_16 : decode cX10_move 16 = .ok (.invokevirtual 186, 3) := by decide +kernel
theorem dX10_move_19 : decode cX10_move 19 = .ok (.ifCond .ne 6, 3) := by decide +kernel
theorem dX10_move_22 : decode cX10_move 22 = .ok (.ldc 167, 2) := by decide +kernel
theorem dX10_move_24 : decode cX10_move 24 = .ok (.ireturn, 1) := by decide +kernel
theorem dX10_move_25 : decode cX10_move 25 = .ok (.aload_n 0, 1) := by decide +kernel
theorem dX10_move_26 : decode cX10_move 26 = .ok (.getfield 29, 3) := by decide +kernel
theorem dX10_move_29 : decode cX10_move 29 = .ok (.getfield 168, 3) := by decide +kernel
theorem dX10_move_32 : decode cX10_move 32 = .ok (.iload_n 1, 1) := by decide +kernel
theorem dX10_move_33 : decode cX10_move 33 = .ok (.invokestatic 172, 3) := by decide +kernel
theorem dX10_move_36 : decode cX10_move 36 = .ok (.istore_n 3, 1) := by decide +kernel
theorem dX10_move_37 : decode cX10_move 37 = .ok (.aload_n 0, 1) := by decide +kernel
theorem dX10_move_38 : decode cX10_move 38 = .ok (.getfield 36, 3) := by decide +kernel
theorem dX10_move_41 : decode cX10_move 41 = .ok (.aload_n 0, 1) := by decide +kernel
theorem dX10_move_42 : decode cX10_move 42 = .ok (.getfield 29, 3) := by decide +kernel
theorem dX10_move_45 : decode cX10_move 45 = .ok (.invokevirtual 200, 3) := by decide +kernel
theorem dX10_move_48 : decode cX10_move 48 = .ok (.aload_n 0, 1) := by decide +kernel
theorem dX10_move_49 : decode cX10_move 49 = .ok (.getfield 29, 3) := by decide +kernel
theorem dX10_move_52 : decode cX10_move 52 = .ok (.getfield 168, 3) := by decide +kernel
theorem dX10_move_55 : decode cX10_move 55 = .ok (.iload_n 1, 1) := by decide +kernel
theorem dX10_move_56 : decode cX10_move 56 = .ok (.iload_n 2, 1) := by decide +kernel
theorem dX10_move_57 : decode cX10_move 57 = .ok (.invokestatic 225, 3) := by decide +kernel
theorem dX10_move_60 : decode cX10_move 60 = .ok (.iload_n 3, 1) := by decide +kernel
theorem dX10_move_61 : decode cX10_move 61 = .ok (.ireturn, 1) := by decide +kernel
set_option maxRecDepth 20000 in
theorem ggX10_cold_X7_hasCorner : GoodIn wsX10_cold wsX7_hasCorner := goodIn_r _ [9, 10, 65, 66, 67, 68, 69, 70, 71, 72] (by decide +kernel) (by decide +kernel)
set_option maxRecDepth 20000 in
theorem gX10_cold_X7_hasCorner : GoodIn wsX10_cold (wsV RX10 186 RX7 yX7_hasCorner wsX7_hasCorner) := goodIn_app (goodIn_of _ (by decide +kernel)) ggX10_cold_X7_hasCorner
set_option maxRecDepth 20000 in
theorem ggX10_cold_X10_bit : GoodIn wsX10_cold wsX10_bit := goodIn_r _ [14] (by decide +kernel) (by decide +kernel)
set_option maxRecDepth 20000 in
theorem gX10_cold_X10_bit : GoodIn wsX10_cold (va_wsS RX10 182 yX10_bit wsX10_bit) := goodIn_app (goodIn_of _ (by decide +kernel)) ggX10_cold_X10_bit
set_option maxRecDepth 20000 in
theorem ggX10_cold_X3_remember : GoodIn wsX10_cold wsX3_remember := goodIn_r _ [19, 20, 21, 22, 23, 24, 25, 26, 27, 28, 29, 30, 31, 32, 33, 34, 35, 36, 37, 38, 39, 40, 13, 41, 73, 74, 75, 57, 58, 59, 60, 61, 62, 63, 64] (by decide +kernel) (by decide +kernel)
set_option maxRecDepth 20000 in
theorem gX10_cold_X3_remember : GoodIn wsX10_cold (wsV RX10 200 RX3 yX3_remember wsX3_remember) := goodIn_app (goodIn_of _ (by decide +kernel)) ggX10_cold_X3_remember
set_option maxRecDepth 20000 in
theorem ggX10_cold_X10_withBit : GoodIn wsX10_cold wsX10_withBit := goodIn_r _ [44] (by decide +kernel) (by decide +kernel)
set_option maxRecDepth 20000 in
theorem gX10_cold_X10_withBit : GoodIn wsX10_cold (va_wsS RX10 221 yX10_withBit wsX10_withBit) := goodIn_app (goodIn_of _ (by decide +kernel)) ggX10_cold_X10_withBit
theorem dX10_cold_0 : decode cX10_cold 0 = .ok (.aload_n 0, 1) := by decide +kernel
theorem dX10_cold_1 : decode cX10_cold 1 = .ok (.getfield 19, 3) := by decide +kernel
theorem dX10_cold_4 : decode cX10_cold 4 = .ok (.iload_n 1, 1) := by decide +kernel
theorem dX10_cold_5 : decode cX10_cold 5 = .ok (.invokevirtual 186, 3) := by decide +kernel
theorem dX10_cold_8 : decode cX10_cold 8 = .ok (.ifCond .ne 6, 3) := by decide +kernel
theorem dX10_cold_11 : decode cX10_cold 11 = .ok (.ldc 167, 2) := by decide +kernel
theorem dX10_cold_13 : decode cX10_cold 13 = .ok (.ireturn, 1) := by decide +kernel
theorem dX10_cold_14 : decode cX10_cold 14 = .ok (.aload_n 0, 1) := by decide +kernel
theorem dX10_cold_15 : decode cX10_cold 15 = .ok (.getfield 29, 3) := by decide +kernel
theorem dX10_cold_18 : decode cX10_cold 18 = .ok (.getfield 156, 3) := by decide +kernel
theorem dX10_cold_21 : decode cX10_cold 21 = .ok (.iload_n 1, 1) := by decide +kernel
theorem dX10_cold_22 : decode cX10_cold 22 = .ok (.invokestatic 182, 3) := by decide +kernel
theorem dX10_cold_25 : decode cX10_cold 25 = .ok (.istore_n 3, 1) := by decide +kernel
theorem dX10_cold_26 : decode cX10_cold 26 = .ok (.aload_n 0, 1) := by decide +kernel
theorem dX10_cold_27 : decode cX10_cold 27 = .ok (.getfield 36, 3) := by decide +kernel
theorem dX10_cold_30 : decode cX10_cold 30 = .ok (.aload_n 0, 1) := by decide +kernel
theorem dX10_cold_31 : decode cX10_cold 31 = .ok (.getfield 29, 3) := by decide +kernel
theorem dX10_cold_34 : decode cX10_cold 34 = .ok (.invokevirtual 200, 3) := by decide +kernel
theorem dX10_cold_37 : decode cX10_cold 37 = .ok (.aload_n 0, 1) := by decide +kernel
theorem dX10_cold_38 : decode cX10_cold 38 = .ok (.getfield 29, 3) := by decide +kernel
theorem dX10_cold_41 : decode cX10_cold 41 = .ok (.aload_n 0, 1) := by decide +kernel
theorem dX10_cold_42 : decode cX10_cold 42 = .ok (.getfield 29, 3) := by decide +kernel
theorem dX10_cold_45 : decode cX10_cold 45 = .ok (.getfield 156, 3) := by decide +kernel
theorem dX10_cold_48 : decode cX10_cold 48 = .ok (.iload_n 1, 1) := by decide +kernel
theorem dX10_cold_49 : decode cX10_cold 49 = .ok (.iload_n 2, 1) := by decide +kernel
theorem dX10_cold_50 : decode cX10_cold 50 = .ok (.invokestatic 221, 3) := by decide +kernel
theorem dX10_cold_53 : decode cX10_cold 53 = .ok (.putfield 156, 3) := by decide +kernel
theorem dX10_cold_56 : decode cX10_cold 56 = .ok (.iload_n 3, 1) := by decide +kernel
theorem dX10_cold_57 : decode cX10_cold 57 = .ok (.ireturn, 1) := by decide +kernel
set_option maxRecDepth 20000 in
theorem ggX10_drift_X7_stands : GoodIn wsX10_drift wsX7_stands := goodIn_r _ [10, 11, 140, 141, 142, 143, 144, 145, 146, 147] (by decide +kernel) (by decide +kernel)
set_option maxRecDepth 20000 in
theorem gX10_drift_X7_stands : GoodIn wsX10_drift (wsV RX10 208 RX7 yX7_stands wsX7_stands) := goodIn_app (goodIn_of _ (by decide +kernel)) ggX10_drift_X7_stands
set_option maxRecDepth 20000 in
theorem ggX10_drift_X10_driftOneMonth : GoodIn wsX10_drift wsX10_driftOneMonth := goodIn_r _ [16, 17, 4, 2, 18, 19, 20, 21, 22, 23, 24, 25, 26, 27, 28, 29, 30, 31, 32, 33, 34, 35, 36, 37, 38, 39, 40, 41, 42, 43, 44, 15, 45, 46, 47, 48, 49, 50, 51, 52, 53, 54, 55, 56, 57, 58, 59, 60, 61, 62, 63, 64, 65, 66, 67, 68, 69, 70, 71, 72, 73, 74, 75, 76, 77, 78, 79, 80, 81, 82, 83, 84, 85, 86, 87, 88, 89, 90, 91, 92, 93, 94, 95, 96, 97, 98, 99, 100, 101, 102, 103, 104, 105, 106, 107, 108, 109, 110, 111, 112, 113, 114, 115, 116, 117, 118, 119, 120, 121, 122, 123, 124, 125, 126, 127, 128, 129, 130, 131, 140, 141, 142, 143, 144, 145, 146, 147, 148, 149, 150, 132, 133, 134, 135, 136, 137, 138, 139, 151, 152, 153, 154, 155, 156, 157, 158, 159] (by decide +kernel) (by decide +kernel)
set_option maxRecDepth 20000 in
theorem gX10_drift_X10_driftOneMonth : GoodIn wsX10_drift (wsV RX10 229 RX10 yX10_driftOneMonth wsX10_driftOneMonth) := goodIn_app (goodIn_of _ (by decide +kernel)) ggX10_drift_X10_driftOneMonth
theorem dX10_drift_0 : decode cX10_drift 0 = .ok (.iload_n 1, 1) := by decide +kernel
theorem dX10_drift_1 : decode cX10_drift 1 = .ok (.iconst 1, 1) := by decide +kernel
theorem dX10_drift_2 : decode cX10_drift 2 = .ok (.if_icmp .lt 9, 3) := by decide +kernel
theorem dX10_drift_5 : decode cX10_drift 5 = .ok (.iload_n 1, 1) := by decide +kernel
theorem dX10_drift_6 : decode cX10_drift 6 = .ok (.bipush 20, 2) := by decide +kernel
theorem dX10_drift_8 : decode cX10_drift 8 = .ok (.if_icmp .le 6, 3) := by decide +kernel
theorem dX10_drift_11 : decode cX10_drift 11 = .ok (.ldc 94, 2) := by decide +kernel
theorem dX10_drift_13 : decode cX10_drift 13 = .ok (.ireturn, 1) := by decide +kernel
theorem dX10_drift_14 : decode cX10_drift 14 = .ok (.aload_n 0, 1) := by decide +kernel
theorem dX10_drift_15 : decode cX10_drift 15 = .ok (.getfield 19, 3) := by decide +kernel
theorem dX10_drift_18 : decode cX10_drift 18 = .ok (.invokevirtual 208, 3) := by decide +kernel
theorem dX10_drift_21 : decode cX10_drift 21 = .ok (.ifCond .ne 6, 3) := by decide +kernel
theorem dX10_drift_24 : decode cX10_drift 24 = .ok (.ldc 212, 2) := by decide +kernel
theorem dX10_drift_26 : decode cX10_drift 26 = .ok (.ireturn, 1) := by decide +kernel
theorem dX10_drift_27 : decode cX10_drift 27 = .ok (.aload_n 0, 1) := by decide +kernel
theorem dX10_drift_28 : decode cX10_drift 28 = .ok (.getfield 29, 3) := by decide +kernel
theorem dX10_drift_31 : decode cX10_drift 31 = .ok (.getfield 138, 3) := by decide +kernel
theorem dX10_drift_34 : decode cX10_drift 34 = .ok (.sipush 9000, 3) := by decide +kernel
theorem dX10_drift_37 : decode cX10_drift 37 = .ok (.if_icmp .gt 16, 3) := by decide +kernel
theorem dX10_drift_40 : decode cX10_drift 40 = .ok (.aload_n 0, 1) := by decide +kernel
theorem dX10_drift_41 : decode cX10_drift 41 = .ok (.getfield 29, 3) := by decide +kernel
theorem dX10_drift_44 : decode cX10_drift 44 = .ok (.getfield 141, 3) := by decide +kernel
theorem dX10_drift_47 : decode cX10_drift 47 = .ok (.sipush 9000, 3) := by decide +kernel
theorem dX10_drift_50 : decode cX10_drift 50 = .ok (.if_icmp .le 6, 3) := by decide +kernel
theorem dX10_drift_53 : decode cX10_drift 53 = .ok (.ldc 199, 2) := by decide +kernel
theorem dX10_drift_55 : decode cX10_drift 55 = .ok (.ireturn, 1) := by decide +kernel
theorem dX10_drift_56 : decode cX10_drift 56 = .ok (.iconst 0, 1) := by decide +kernel
theorem dX10_drift_57 : decode cX10_drift 57 = .ok (.istore_n 2, 1) := by decide +kernel
theorem dX10_drift_58 : decode cX10_drift 58 = .ok (.iload_n 2, 1) := by decide +kernel
theorem dX10_drift_59 : decode cX10_drift 59 = .ok (.iload_n 1, 1) := by decide +kernel
theorem dX10_drift_60 : decode cX10_drift 60 = .ok (.if_icmp .ge 13, 3) := by decide +kernel
theorem dX10_drift_63 : decode cX10_drift 63 = .ok (.aload_n 0, 1) := by decide +kernel
theorem dX10_drift_64 : decode cX10_drift 64 = .ok (.invokevirtual 229, 3) := by decide +kernel
theorem dX10_drift_67 : decode cX10_drift 67 = .ok (.iinc 2 1, 3) := by decide +kernel
theorem dX10_drift_70 : decode cX10_drift 70 = .ok (.goto (-12), 3) := by decide +kernel
theorem dX10_drift_73 : decode cX10_drift 73 = .ok (.aload_n 0, 1) := by decide +kernel
theorem dX10_drift_74 : decode cX10_drift 74 = .ok (.getfield 29, 3) := by decide +kernel
theorem dX10_drift_77 : decode cX10_drift 77 = .ok (.getfield 144, 3) := by decide +kernel
theorem dX10_drift_80 : decode cX10_drift 80 = .ok (.ireturn, 1) := by decide +kernel
set_option maxRecDepth 20000 in
theorem ggX10_undo_X3_takeBack : GoodIn wsX10_undo wsX3_takeBack := goodIn_r _ [9, 10, 11, 12, 13, 14, 15, 16, 17, 18, 19, 20, 21, 22, 23, 24, 25, 26, 27, 28, 41, 42, 43, 44, 45, 46, 47, 48, 49, 50, 51] (by decide +kernel) (by decide +kernel)
set_option maxRecDepth 20000 in
theorem gX10_undo_X3_takeBack : GoodIn wsX10_undo (wsV RX10 232 RX3 yX3_takeBack wsX3_takeBack) := goodIn_app (goodIn_of _ (by decide +kernel)) ggX10_undo_X3_takeBack
theorem dX10_undo_0 : decode cX10_undo 0 = .ok (.iload_n 1, 1) := by decide +kernel
theorem dX10_undo_1 : decode cX10_undo 1 = .ok (.iconst 1, 1) := by decide +kernel
theorem dX10_undo_2 : decode cX10_undo 2 = .ok (.if_icmp .lt 9, 3) := by decide +kernel
theorem dX10_undo_5 : decode cX10_undo 5 = .ok (.iload_n 1, 1) := by decide +kernel
theorem dX10_undo_6 : decode cX10_undo 6 = .ok (.bipush 30, 2) := by decide +kernel
theorem dX10_undo_8 : decode cX10_undo 8 = .ok (.if_icmp .le 6, 3) := by decide +kernel
theorem dX10_undo_11 : decode cX10_undo 11 = .ok (.ldc 94, 2) := by decide +kernel
theorem dX10_undo_13 : decode cX10_undo 13 = .ok (.ireturn, 1) := by decide +kernel
theorem dX10_undo_14 : decode cX10_undo 14 = .ok (.iload_n 1, 1) := by decide +kernel
theorem dX10_undo_15 : decode cX10_undo 15 = .ok (.aload_n 0, 1) := by decide +kernel
theorem dX10_undo_16 : decode cX10_undo 16 = .ok (.getfield 36, 3) := by decide +kernel
theorem dX10_undo_19 : decode cX10_undo 19 = .ok (.getfield 162, 3) := by decide +kernel
theorem dX10_undo_22 : decode cX10_undo 22 = .ok (.if_icmp .le 6, 3) := by decide +kernel
theorem dX10_undo_25 : decode cX10_undo 25 = .ok (.ldc 212, 2) := by decide +kernel
theorem dX10_undo_27 : decode cX10_undo 27 = .ok (.ireturn, 1) := by decide +kernel
theorem dX10_undo_28 : decode cX10_undo 28 = .ok (.aload_n 0, 1) := by decide +kernel
theorem dX10_undo_29 : decode cX10_undo 29 = .ok (.getfield 36, 3) := by decide +kernel
theorem dX10_undo_32 : decode cX10_undo 32 = .ok (.iload_n 1, 1) := by decide +kernel
theorem dX10_undo_33 : decode cX10_undo 33 = .ok (.aload_n 0, 1) := by decide +kernel
theorem dX10_undo_34 : decode cX10_undo 34 = .ok (.getfield 29, 3) := by decide +kernel
theorem dX10_undo_37 : decode cX10_undo 37 = .ok (.invokevirtual 232, 3) := by decide +kernel
theorem dX10_undo_40 : decode cX10_undo 40 = .ok (.aload_n 0, 1) := by decide +kernel
theorem dX10_undo_41 : decode cX10_undo 41 = .ok (.getfield 29, 3) := by decide +kernel
theorem dX10_undo_44 : decode cX10_undo 44 = .ok (.getfield 138, 3) := by decide +kernel
theorem dX10_undo_47 : decode cX10_undo 47 = .ok (.ireturn, 1) := by decide +kernel
set_option maxRecDepth 20000 in
theorem ggX10_would_X10_triedRefusal : GoodIn wsX10_would wsX10_triedRefusal := goodIn_r _ [6, 7, 8, 9, 10, 5, 11, 12, 13, 14, 15, 16, 17, 18, 19, 20, 21, 22, 23, 24, 80, 81, 82, 83, 84, 85, 86, 87, 88, 89, 90, 91, 100, 101, 102, 103, 104, 105, 106, 107] (by decide +kernel) (by decide +kernel)
set_option maxRecDepth 20000 in
theorem gX10_would_X10_triedRefusal : GoodIn wsX10_would (wsV RX10 236 RX10 yX10_triedRefusal wsX10_triedRefusal) := goodIn_app (goodIn_of _ (by decide +kernel)) ggX10_would_X10_triedRefusal
set_option maxRecDepth 20000 in
theorem ggX10_would_X0_start : GoodIn wsX10_would wsX0_start := goodIn_r _ [29, 30, 31, 32, 33, 34, 35, 36, 92, 93, 94, 95, 96, 97, 98, 99, 108, 109, 110, 111, 112, 113, 114, 115] (by decide +kernel) (by decide +kernel)
set_option maxRecDepth 20000 in
theorem gX10_would_X0_start : GoodIn wsX10_would (wsV RX10 240 RX0 yX0_start wsX0_start) := goodIn_app (goodIn_of _ (by decide +kernel)) ggX10_would_X0_start
set_option maxRecDepth 20000 in
theorem ggX10_would_X0_goRound : GoodIn wsX10_would wsX0_goRound := goodIn_r _ [40, 41, 42, 43, 44, 28, 45, 46, 47, 48, 49, 32, 36, 30, 33, 31, 35, 34, 50, 51, 52, 53, 54, 5, 55, 56, 57, 58, 59, 60, 61, 62, 63, 64, 65, 66, 67, 68, 69, 70, 71, 72, 73, 74, 75, 76, 77, 78, 79, 92, 93, 94, 95, 96, 97, 98, 99, 100, 101, 102, 103, 104, 105, 106, 107, 108, 109, 110, 111, 112, 113, 114, 115] (by decide +kernel) (by decide +kernel)
set_option maxRecDepth 20000 in
theorem gX10_would_X0_goRound : GoodIn wsX10_would (wsV RX10 243 RX0 yX0_goRound wsX0_goRound) := goodIn_app (goodIn_of _ (by decide +kernel)) ggX10_would_X0_goRound
theorem dX10_would_0 : decode cX10_would 0 = .ok (.aload_n 0, 1) := by decide +kernel
theorem dX10_would_1 : decode cX10_would 1 = .ok (.iload_n 1, 1) := by decide +kernel
theorem dX10_would_2 : decode cX10_would 2 = .ok (.iload_n 2, 1) := by decide +kernel
theorem dX10_would_3 : decode cX10_would 3 = .ok (.iload_n 3, 1) := by decide +kernel
theorem dX10_would_4 : decode cX10_would 4 = .ok (.iload 4, 2) := by decide +kernel
theorem dX10_would_6 : decode cX10_would 6 = .ok (.iconst 2, 1) := by decide +kernel
theorem dX10_would_7 : decode cX10_would 7 = .ok (.invokevirtual 236, 3) := by decide +kernel
theorem dX10_would_10 : decode cX10_would 10 = .ok (.istore 5, 2) := by decide +kernel
theorem dX10_would_12 : decode cX10_would 12 = .ok (.iload 5, 2) := by decide +kernel
theorem dX10_would_14 : decode cX10_would 14 = .ok (.ifCond .eq 6, 3) := by decide +kernel
theorem dX10_would_17 : decode cX10_would 17 = .ok (.iload 5, 2) := by decide +kernel
theorem dX10_would_19 : decode cX10_would 19 = .ok (.ireturn, 1) := by decide +kernel
theorem dX10_would_20 : decode cX10_would 20 = .ok (.aload_n 0, 1) := by decide +kernel
theorem dX10_would_21 : decode cX10_would 21 = .ok (.getfield 52, 3) := by decide +kernel
theorem dX10_would_24 : decode cX10_would 24 = .ok (.iload_n 1, 1) := by decide +kernel
theorem dX10_would_25 : decode cX10_would 25 = .ok (.iconst 0, 1) := by decide +kernel
theorem dX10_would_26 : decode cX10_would 26 = .ok (.iconst 0, 1) := by decide +kernel
theorem dX10_would_27 : decode cX10_would 27 = .ok (.invokevirtual 240, 3) := by decide +kernel
theorem dX10_would_30 : decode cX10_would 30 = .ok (.aload_n 0, 1) := by decide +kernel
theorem dX10_would_31 : decode cX10_would 31 = .ok (.getfield 52, 3) := by decide +kernel
theorem dX10_would_34 : decode cX10_would 34 = .ok (.iload_n 2, 1) := by decide +kernel
theorem dX10_would_35 : decode cX10_would 35 = .ok (.iload_n 3, 1) := by decide +kernel
theorem dX10_would_36 : decode cX10_would 36 = .ok (.invokevirtual 243, 3) := by decide +kernel
theorem dX10_would_39 : decode cX10_would 39 = .ok (.iload 4, 2) := by decide +kernel
theorem dX10_would_41 : decode cX10_would 41 = .ok (.ifCond .ne 11, 3) := by decide +kernel
theorem dX10_would_44 : decode cX10_would 44 = .ok (.aload_n 0, 1) := by decide +kernel
theorem dX10_would_45 : decode cX10_would 45 = .ok (.getfield 52, 3) := by decide +kernel
theorem dX10_would_48 : decode cX10_would 48 = .ok (.getfield 247, 3) := by decide +kernel
theorem dX10_would_51 : decode cX10_would 51 = .ok (.ireturn, 1) := by decide +kernel
theorem dX10_would_52 : decode cX10_would 52 = .ok (.iload 4, 2) := by decide +kernel
theorem dX10_would_54 : decode cX10_would 54 = .ok (.iconst 1, 1) := by decide +kernel
theorem dX10_would_55 : decode cX10_would 55 = .ok (.if_icmp .ne 13, 3) := by decide +kernel
theorem dX10_would_58 : decode cX10_would 58 = .ok (.aload_n 0, 1) := by decide +kernel
theorem dX10_would_59 : decode cX10_would 59 = .ok (.getfield 52, 3) := by decide +kernel
theorem dX10_would_62 : decode cX10_would 62 = .ok (.getfield 250, 3) := by decide +kernel
theorem dX10_would_65 : decode cX10_would 65 = .ok (.goto 10, 3) := by decide +kernel
theorem dX10_would_68 : decode cX10_would 68 = .ok (.aload_n 0, 1) := by decide +kernel
theorem dX10_would_69 : decode cX10_would 69 = .ok (.getfield 52, 3) := by decide +kernel
theorem dX10_would_72 : decode cX10_would 72 = .ok (.getfield 251, 3) := by decide +kernel
theorem dX10_would_75 : decode cX10_would 75 = .ok (.ireturn, 1) := by decide +kernel
set_option maxRecDepth 20000 in
theorem ggX10_bestRound_X7_allows : GoodIn wsX10_bestRound wsX7_allows := goodIn_r _ [9, 10, 102, 103, 104, 105, 106, 107, 108, 109] (by decide +kernel) (by decide +kernel)
set_option maxRecDepth 20000 in
theorem gX10_bestRound_X7_allows : GoodIn wsX10_bestRound (wsV RX10 254 RX7 yX7_allows wsX7_allows) := goodIn_app (goodIn_of _ (by decide +kernel)) ggX10_bestRound_X7_allows
set_option maxRecDepth 20000 in
theorem ggX10_bestRound_X8_findBestRound : GoodIn wsX10_bestRound wsX8_findBestRound := goodIn_r _ [15, 16, 17, 18, 19, 20, 21, 22, 23, 24, 25, 26, 27, 28, 29, 14, 30, 31, 32, 33, 34, 35, 36, 37, 38, 39, 40, 41, 42, 43, 44, 45, 46, 47, 48, 49, 50, 51, 52, 53, 54, 55, 56, 57, 58, 59, 60, 61, 62, 63, 64, 65, 66, 67, 68, 69, 70, 71, 72, 73, 74, 75, 76, 77, 78, 79, 80, 81, 82, 83, 110, 111, 112, 113, 114, 115, 116, 117, 118, 119, 120, 121, 102, 103, 104, 105, 106, 107, 108, 109, 122, 123, 124, 125, 126, 127, 128, 129] (by decide +kernel) (by decide +kernel)
set_option maxRecDepth 20000 in
theorem gX10_bestRound_X8_findBestRound : GoodIn wsX10_bestRound (wsV RX10 257 RX8 yX8_findBestRound wsX8_findBestRound) := goodIn_app (goodIn_of _ (by decide +kernel)) ggX10_bestRound_X8_findBestRound
set_option maxRecDepth 20000 in
theorem ggX10_bestRound_X8_startOf : GoodIn wsX10_bestRound wsX8_startOf := goodIn_r _ [86] (by decide +kernel) (by decide +kernel)
set_option maxRecDepth 20000 in
theorem gX10_bestRound_X8_startOf : GoodIn wsX10_bestRound (va_wsS RX10 260 yX8_startOf wsX8_startOf) := goodIn_app (goodIn_of _ (by decide +kernel)) ggX10_bestRound_X8_startOf
set_option maxRecDepth 20000 in
theorem ggX10_bestRound_X8_setOf : GoodIn wsX10_bestRound wsX8_setOf := goodIn_r _ [89] (by decide +kernel) (by decide +kernel)
set_option maxRecDepth 20000 in
theorem gX10_bestRound_X8_setOf : GoodIn wsX10_bestRound (va_wsS RX10 263 yX8_setOf wsX8_setOf) := goodIn_app (goodIn_of _ (by decide +kernel)) ggX10_bestRound_X8_setOf
theorem dX10_bestRound_0 : decode cX10_bestRound 0 = .ok (.aload_n 0, 1) := by decide +kernel
theorem dX10_bestRound_1 : decode cX10_bestRound 1 = .ok (.getfield 19, 3) := by decide +kernel
theorem dX10_bestRound_4 : decode cX10_bestRound 4 = .ok (.iload_n 1, 1) := by decide +kernel
theorem dX10_bestRound_5 : decode cX10_bestRound 5 = .ok (.invokevirtual 254, 3) := by decide +kernel
theorem dX10_bestRound_8 : decode cX10_bestRound 8 = .ok (.ifCond .eq 14, 3) := by decide +kernel
theorem dX10_bestRound_11 : decode cX10_bestRound 11 = .ok (.aload_n 0, 1) := by decide +kernel
theorem dX10_bestRound_12 : decode cX10_bestRound 12 = .ok (.getfield 19, 3) := by decide +kernel
theorem dX10_bestRound_15 : decode cX10_bestRound 15 = .ok (.iload_n 2, 1) := by decide +kernel
theorem dX10_bestRound_16 : decode cX10_bestRound 16 = .ok (.invokevirtual 254, 3) := by decide +kernel
theorem dX10_bestRound_19 : decode cX10_bestRound 19 = .ok (.ifCond .ne 6, 3) := by decide +kernel
theorem dX10_bestRound_22 : decode cX10_bestRound 22 = .ok (.ldc 167, 2) := by decide +kernel
theorem dX10_bestRound_24 : decode cX10_bestRound 24 = .ok (.ireturn, 1) := by decide +kernel
theorem dX10_bestRound_25 : decode cX10_bestRound 25 = .ok (.iload_n 3, 1) := by decide +kernel
theorem dX10_bestRound_26 : decode cX10_bestRound 26 = .ok (.ifCond .lt 8, 3) := by decide +kernel
theorem dX10_bestRound_29 : decode cX10_bestRound 29 = .ok (.iload_n 3, 1) := by decide +kernel
theorem dX10_bestRound_30 : decode cX10_bestRound 30 = .ok (.iconst 1, 1) := by decide +kernel
theorem dX10_bestRound_31 : decode cX10_bestRound 31 = .ok (.if_icmp .le 6, 3) := by decide +kernel
theorem dX10_bestRound_34 : decode cX10_bestRound 34 = .ok (.ldc 94, 2) := by decide +kernel
theorem dX10_bestRound_36 : decode cX10_bestRound 36 = .ok (.ireturn, 1) := by decide +kernel
theorem dX10_bestRound_37 : decode cX10_bestRound 37 = .ok (.aload_n 0, 1) := by decide +kernel
theorem dX10_bestRound_38 : decode cX10_bestRound 38 = .ok (.getfield 61, 3) := by decide +kernel
theorem dX10_bestRound_41 : decode cX10_bestRound 41 = .ok (.iload_n 1, 1) := by decide +kernel
theorem dX10_bestRound_42 : decode cX10_bestRound 42 = .ok (.iload_n 2, 1) := by decide +kernel
theorem dX10_bestRound_43 : decode cX10_bestRound 43 = .ok (.invokevirtual 257, 3) := by decide +kernel
theorem dX10_bestRound_46 : decode cX10_bestRound 46 = .ok (.istore 4, 2) := by decide +kernel
theorem dX10_bestRound_48 : decode cX10_bestRound 48 = .ok (.iload 4, 2) := by decide +kernel
theorem dX10_bestRound_50 : decode cX10_bestRound 50 = .ok (.iconst (-1), 1) := by decide +kernel
theorem dX10_bestRound_51 : decode cX10_bestRound 51 = .ok (.if_icmp .ne 5, 3) := by decide +kernel
theorem dX10_bestRound_54 : decode cX10_bestRound 54 = .ok (.iconst (-1), 1) := by decide +kernel
theorem dX10_bestRound_55 : decode cX10_bestRound 55 = .ok (.ireturn, 1) := by decide +kernel
theorem dX10_bestRound_56 : decode cX10_bestRound 56 = .ok (.iload_n 3, 1) := by decide +kernel
theorem dX10_bestRound_57 : decode cX10_bestRound 57 = .ok (.ifCond .ne 11, 3) := by decide +kernel
theorem dX10_bestRound_60 : decode cX10_bestRound 60 = .ok (.iload 4, 2) := by decide +kernel
theorem dX10_bestRound_62 : decode cX10_bestRound 62 = .ok (.invokestatic 260, 3) := by decide +kernel
theorem dX10_bestRound_65 : decode cX10_bestRound 65 = .ok (.goto 8, 3) := by decide +kernel
theorem dX10_bestRound_68 : decode cX10_bestRound 68 = .ok (.iload 4, 2) := by decide +kernel
theorem dX10_bestRound_70 : decode cX10_bestRound 70 = .ok (.invokestatic 263, 3) := by decide +kernel
theorem dX10_bestRound_73 : decode cX10_bestRound 73 = .ok (.ireturn, 1) := by decide +kernel
set_option maxRecDepth 20000 in
theorem ggX10_began_X10_roundRefusal : GoodIn wsX10_began wsX10_roundRefusal := goodIn_r _ [6, 7, 8, 9, 10, 11, 12, 13, 14, 15, 16, 17, 18, 19, 20, 110, 111, 112, 113, 114, 115, 116, 117, 118, 119, 120, 121, 128, 129, 130, 131, 132, 133, 134, 135] (by decide +kernel) (by decide +kernel)
set_option maxRecDepth 20000 in
theorem gX10_began_X10_roundRefusal : GoodIn wsX10_began (wsV RX10 195 RX10 yX10_roundRefusal wsX10_roundRefusal) := goodIn_app (goodIn_of _ (by decide +kernel)) ggX10_began_X10_roundRefusal
set_option maxRecDepth 20000 in
theorem ggX10_began_X8_gatherBeginnings : GoodIn wsX10_began wsX8_gatherBeginnings := goodIn_r _ [25, 26, 27, 28, 29, 30, 31, 32, 33, 34, 35, 24, 36, 37, 38, 39, 11, 12, 13, 14, 15, 40, 41, 42, 43, 44, 45, 46, 47, 48, 49, 50, 51, 52, 53, 54, 55, 56, 57, 58, 59, 60, 61, 62, 63, 64, 65, 66, 67, 68, 69, 5, 70, 71, 72, 73, 74, 75, 76, 77, 78, 79, 80, 81, 82, 83, 84, 85, 86, 87, 88, 89, 90, 91, 92, 93, 94, 95, 96, 97, 98, 99, 100, 122, 123, 124, 125, 126, 127, 136, 137, 138, 139, 140, 141, 142, 143, 128, 129, 130, 131, 132, 133, 134, 135, 144, 145, 146, 147, 148, 149, 150, 151] (by decide +kernel) (by decide +kernel)
set_option maxRecDepth 20000 in
theorem gX10_began_X8_gatherBeginnings : GoodIn wsX10_began (wsV RX10 266 RX8 yX8_gatherBeginnings wsX8_gatherBeginnings) := goodIn_app (goodIn_of _ (by decide +kernel)) ggX10_began_X8_gatherBeginnings
set_option maxRecDepth 20000 in
theorem ggX10_began_X8_sureClauses : GoodIn wsX10_began wsX8_sureClauses := goodIn_r _ [104, 26, 37, 105, 106, 107, 30, 108, 32, 99, 122, 123, 124, 125, 126, 127, 128, 129, 130, 131, 132, 133, 134, 135] (by decide +kernel) (by decide +kernel)
set_option maxRecDepth 20000 in
theorem gX10_began_X8_sureClauses : GoodIn wsX10_began (wsV RX10 272 RX8 yX8_sureClauses wsX8_sureClauses) := goodIn_app (goodIn_of _ (by decide +kernel)) ggX10_began_X8_sureClauses
set_option maxRecDepth 20000 in
theorem ggX10_began_X5_get : GoodIn wsX10_began wsX5_get := goodIn_r _ [108, 32, 99, 126, 127] (by decide +kernel) (by decide +kernel)
set_option maxRecDepth 20000 in
theorem gX10_began_X5_get : GoodIn wsX10_began (wsV RX10 276 RX5 yX5_get wsX5_get) := goodIn_app (goodIn_of _ (by decide +kernel)) ggX10_began_X5_get
theorem dX10_began_0 : decode cX10_began 0 = .ok (.aload_n 0, 1) := by decide +kernel
theorem dX10_began_1 : decode cX10_began 1 = .ok (.iload_n 1, 1) := by decide +kernel
theorem dX10_began_2 : decode cX10_began 2 = .ok (.iload_n 2, 1) := by decide +kernel
theorem dX10_began_3 : decode cX10_began 3 = .ok (.iload_n 3, 1) := by decide +kernel
theorem dX10_began_4 : decode cX10_began 4 = .ok (.invokevirtual 195, 3) := by decide +kernel
theorem dX10_began_7 : decode cX10_began 7 = .ok (.istore 5, 2) := by decide +kernel
theorem dX10_began_9 : decode cX10_began 9 = .ok (.iload 5, 2) := by decide +kernel
theorem dX10_began_11 : decode cX10_began 11 = .ok (.ifCond .eq 6, 3) := by decide +kernel
theorem dX10_began_14 : decode cX10_began 14 = .ok (.iload 5, 2) := by decide +kernel
theorem dX10_began_16 : decode cX10_began 16 = .ok (.ireturn, 1) := by decide +kernel
theorem dX10_began_17 : decode cX10_began 17 = .ok (.aload_n 0, 1) := by decide +kernel
theorem dX10_began_18 : decode cX10_began 18 = .ok (.getfield 61, 3) := by decide +kernel
theorem dX10_began_21 : decode cX10_began 21 = .ok (.iload_n 1, 1) := by decide +kernel
theorem dX10_began_22 : decode cX10_began 22 = .ok (.iload_n 2, 1) := by decide +kernel
theorem dX10_began_23 : decode cX10_began 23 = .ok (.iload_n 3, 1) := by decide +kernel
theorem dX10_began_24 : decode cX10_began 24 = .ok (.invokevirtual 266, 3) := by decide +kernel
theorem dX10_began_27 : decode cX10_began 27 = .ok (.iload 4, 2) := by decide +kernel
theorem dX10_began_29 : decode cX10_began 29 = .ok (.iconst (-1), 1) := by decide +kernel
theorem dX10_began_30 : decode cX10_began 30 = .ok (.if_icmp .ne 14, 3) := by decide +kernel
theorem dX10_began_33 : decode cX10_began 33 = .ok (.aload_n 0, 1) := by decide +kernel
theorem dX10_began_34 : decode cX10_began 34 = .ok (.getfield 61, 3) := by decide +kernel
theorem dX10_began_37 : decode cX10_began 37 = .ok (.getfield 269, 3) := by decide +kernel
theorem dX10_began_40 : decode cX10_began 40 = .ok (.getfield 135, 3) := by decide +kernel
theorem dX10_began_43 : decode cX10_began 43 = .ok (.ireturn, 1) := by decide +kernel
theorem dX10_began_44 : decode cX10_began 44 = .ok (.iload 4, 2) := by decide +kernel
theorem dX10_began_46 : decode cX10_began 46 = .ok (.bipush (-2), 2) := by decide +kernel
theorem dX10_began_48 : decode cX10_began 48 = .ok (.if_icmp .ne 11, 3) := by decide +kernel
theorem dX10_began_51 : decode cX10_began 51 = .ok (.aload_n 0, 1) := by decide +kernel
theorem dX10_began_52 : decode cX10_began 52 = .ok (.getfield 61, 3) := by decide +kernel
theorem dX10_began_55 : decode cX10_began 55 = .ok (.invokevirtual 272, 3) := by decide +kernel
theorem dX10_began_58 : decode cX10_began 58 = .ok (.ireturn, 1) := by decide +kernel
theorem dX10_began_59 : decode cX10_began 59 = .ok (.aload_n 0, 1) := by decide +kernel
theorem dX10_began_60 : decode cX10_began 60 = .ok (.getfield 61, 3) := by decide +kernel
theorem dX10_began_63 : decode cX10_began 63 = .ok (.getfield 269, 3) := by decide +kernel
theorem dX10_began_66 : decode cX10_began 66 = .ok (.iload 4, 2) := by decide +kernel
theorem dX10_began_68 : decode cX10_began 68 = .ok (.invokevirtual 276, 3) := by decide +kernel
theorem dX10_began_71 : decode cX10_began 71 = .ok (.ireturn, 1) := by decide +kernel
set_option maxRecDepth 20000 in
theorem ggX10_passed_X8_passableCorners : GoodIn wsX10_passed wsX8_passableCorners := goodIn_r _ [6, 7, 8, 9, 10, 5, 11, 12, 13, 14, 15, 16, 17, 18, 19, 20, 21, 22, 23, 24, 25, 26, 27, 28, 29, 30, 31, 32, 33, 34, 35, 36, 37, 38, 39, 40, 41, 42, 43, 44, 45, 46, 47, 48, 49, 50, 51, 52, 53, 54, 55, 56, 57, 58, 59, 60, 61, 62, 63, 64, 65, 66, 79, 80, 81, 82, 83, 84, 85, 86, 87, 88, 89, 90, 91, 92, 93, 94, 95, 96, 97, 98, 99, 100, 101, 102, 103, 104, 105, 106] (by decide +kernel) (by decide +kernel)
set_option maxRecDepth 20000 in
theorem gX10_passed_X8_passableCorners : GoodIn wsX10_passed (wsV RX10 279 RX8 yX8_passableCorners wsX8_passableCorners) := goodIn_app (goodIn_of _ (by decide +kernel)) ggX10_passed_X8_passableCorners
theorem dX10_passed_0 : decode cX10_passed 0 = .ok (.aload_n 0, 1) := by decide +kernel
theorem dX10_passed_1 : decode cX10_passed 1 = .ok (.getfield 61, 3) := by decide +kernel
theorem dX10_passed_4 : decode cX10_passed 4 = .ok (.invokevirtual 279, 3) := by decide +kernel
theorem dX10_passed_7 : decode cX10_passed 7 = .ok (.ireturn, 1) := by decide +kernel
set_option maxRecDepth 20000 in
theorem ggX10_hired_X10_triedRefusal : GoodIn wsX10_hired wsX10_triedRefusal := goodIn_r _ [7, 8, 9, 10, 11, 6, 12, 2, 13, 14, 15, 16, 17, 18, 19, 20, 21, 22, 23, 24, 99, 100, 101, 102, 103, 104, 105, 106, 107, 108, 109, 110, 111, 112, 113, 114, 115, 116, 117, 118] (by decide +kernel) (by decide +kernel)
set_option maxRecDepth 20000 in
theorem gX10_hired_X10_triedRefusal : GoodIn wsX10_hired (wsV RX10 236 RX10 yX10_triedRefusal wsX10_triedRefusal) := goodIn_app (goodIn_of _ (by decide +kernel)) ggX10_hired_X10_triedRefusal
set_option maxRecDepth 20000 in
theorem ggX10_hired_X8_findLiars : GoodIn wsX10_hired wsX8_findLiars := goodIn_r _ [29, 30, 31, 6, 32, 33, 34, 35, 17, 36, 24, 37, 38, 39, 40, 41, 42, 43, 44, 28, 45, 46, 47, 48, 49, 50, 51, 52, 53, 54, 55, 56, 57, 58, 59, 60, 61, 62, 63, 64, 65, 66, 67, 68, 69, 70, 71, 72, 73, 74, 75, 76, 77, 78, 79, 80, 81, 82, 83, 84, 85, 86, 87, 88, 89, 90, 91, 92, 93, 94, 95, 96, 97, 119, 120, 121, 122, 111, 112, 113, 114, 115, 116, 117, 118, 123, 124, 125, 126, 127, 128, 129, 130, 131, 132, 133, 134, 135, 136, 137, 138] (by decide +kernel) (by decide +kernel)
set_option maxRecDepth 20000 in
theorem gX10_hired_X8_findLiars : GoodIn wsX10_hired (wsV RX10 282 RX8 yX8_findLiars wsX8_findLiars) := goodIn_app (goodIn_of _ (by decide +kernel)) ggX10_hired_X8_findLiars
set_option maxRecDepth 20000 in
theorem ggX10_hired_X7_beerOf : GoodIn wsX10_hired wsX7_beerOf := goodIn_r _ [36, 24, 37, 38, 6, 39, 40, 41, 111, 112, 113, 114, 115, 116, 117, 118] (by decide +kernel) (by decide +kernel)
set_option maxRecDepth 20000 in
theorem gX10_hired_X7_beerOf : GoodIn wsX10_hired (wsV RX10 285 RX7 yX7_beerOf wsX7_beerOf) := goodIn_app (goodIn_of _ (by decide +kernel)) ggX10_hired_X7_beerOf
theorem dX10_hired_0 : decode cX10_hired 0 = .ok (.aload_n 0, 1) := by decide +kernel
theorem dX10_hired_1 : decode cX10_hired 1 = .ok (.iload_n 1, 1) := by decide +kernel
theorem dX10_hired_2 : decode cX10_hired 2 = .ok (.iload_n 2, 1) := by decide +kernel
theorem dX10_hired_3 : decode cX10_hired 3 = .ok (.iload_n 3, 1) := by decide +kernel
theorem dX10_hired_4 : decode cX10_hired 4 = .ok (.iload 4, 2) := by decide +kernel
theorem dX10_hired_6 : decode cX10_hired 6 = .ok (.iconst 1, 1) := by decide +kernel
theorem dX10_hired_7 : decode cX10_hired 7 = .ok (.invokevirtual 236, 3) := by decide +kernel
theorem dX10_hired_10 : decode cX10_hired 10 = .ok (.istore 5, 2) := by decide +kernel
theorem dX10_hired_12 : decode cX10_hired 12 = .ok (.iload 5, 2) := by decide +kernel
theorem dX10_hired_14 : decode cX10_hired 14 = .ok (.ifCond .eq 6, 3) := by decide +kernel
theorem dX10_hired_17 : decode cX10_hired 17 = .ok (.iload 5, 2) := by decide +kernel
theorem dX10_hired_19 : decode cX10_hired 19 = .ok (.ireturn, 1) := by decide +kernel
theorem dX10_hired_20 : decode cX10_hired 20 = .ok (.aload_n 0, 1) := by decide +kernel
theorem dX10_hired_21 : decode cX10_hired 21 = .ok (.getfield 61, 3) := by decide +kernel
theorem dX10_hired_24 : decode cX10_hired 24 = .ok (.iload_n 1, 1) := by decide +kernel
theorem dX10_hired_25 : decode cX10_hired 25 = .ok (.iload_n 2, 1) := by decide +kernel
theorem dX10_hired_26 : decode cX10_hired 26 = .ok (.iload_n 3, 1) := by decide +kernel
theorem dX10_hired_27 : decode cX10_hired 27 = .ok (.invokevirtual 282, 3) := by decide +kernel
theorem dX10_hired_30 : decode cX10_hired 30 = .ok (.istore 6, 2) := by decide +kernel
theorem dX10_hired_32 : decode cX10_hired 32 = .ok (.iload 6, 2) := by decide +kernel
theorem dX10_hired_34 : decode cX10_hired 34 = .ok (.iconst (-1), 1) := by decide +kernel
theorem dX10_hired_35 : decode cX10_hired 35 = .ok (.if_icmp .eq 9, 3) := by decide +kernel
theorem dX10_hired_38 : decode cX10_hired 38 = .ok (.iload 4, 2) := by decide +kernel
theorem dX10_hired_40 : decode cX10_hired 40 = .ok (.iconst 1, 1) := by decide +kernel
theorem dX10_hired_41 : decode cX10_hired 41 = .ok (.if_icmp .ne 6, 3) := by decide +kernel
theorem dX10_hired_44 : decode cX10_hired 44 = .ok (.iload 6, 2) := by decide +kernel
theorem dX10_hired_46 : decode cX10_hired 46 = .ok (.ireturn, 1) := by decide +kernel
theorem dX10_hired_47 : decode cX10_hired 47 = .ok (.aload_n 0, 1) := by decide +kernel
theorem dX10_hired_48 : decode cX10_hired 48 = .ok (.getfield 19, 3) := by decide +kernel
theorem dX10_hired_51 : decode cX10_hired 51 = .ok (.iload 6, 2) := by decide +kernel
theorem dX10_hired_53 : decode cX10_hired 53 = .ok (.invokevirtual 285, 3) := by decide +kernel
theorem dX10_hired_56 : decode cX10_hired 56 = .ok (.ireturn, 1) := by decide +kernel
set_option maxRecDepth 20000 in
theorem ggX10_spoilt_X10_triedRefusal : GoodIn wsX10_spoilt wsX10_triedRefusal := goodIn_r _ [6, 7, 8, 9, 10, 5, 11, 12, 13, 14, 15, 16, 17, 18, 19, 20, 21, 22, 23, 24, 95, 96, 97, 98, 99, 100, 101, 102, 103, 104, 105, 106, 107, 108, 109, 110, 111, 112, 113, 114] (by decide +kernel) (by decide +kernel)
set_option maxRecDepth 20000 in
theorem gX10_spoilt_X10_triedRefusal : GoodIn wsX10_spoilt (wsV RX10 236 RX10 yX10_triedRefusal wsX10_triedRefusal) := goodIn_app (goodIn_of _ (by decide +kernel)) ggX10_spoilt_X10_triedRefusal
set_option maxRecDepth 20000 in
theorem ggX10_spoilt_X8_findVictim : GoodIn wsX10_spoilt wsX8_findVictim := goodIn_r _ [29, 30, 31, 32, 33, 34, 28, 35, 36, 37, 38, 39, 40, 41, 42, 43, 44, 45, 46, 47, 48, 49, 50, 51, 52, 53, 54, 55, 56, 57, 58, 59, 60, 61, 62, 63, 64, 65, 66, 5, 67, 68, 69, 70, 71, 72, 73, 74, 75, 76, 77, 78, 79, 80, 81, 82, 83, 84, 85, 86, 87, 88, 89, 90, 91, 92, 115, 116, 117, 118, 107, 108, 109, 110, 111, 112, 113, 114, 119, 120, 121, 122, 123, 124, 125, 126, 127, 128, 129, 130, 131, 132, 133, 134] (by decide +kernel) (by decide +kernel)
set_option maxRecDepth 20000 in
theorem gX10_spoilt_X8_findVictim : GoodIn wsX10_spoilt (wsV RX10 288 RX8 yX8_findVictim wsX8_findVictim) := goodIn_app (goodIn_of _ (by decide +kernel)) ggX10_spoilt_X8_findVictim
set_option maxRecDepth 20000 in
theorem ggX10_spoilt_X10_setOfOne : GoodIn wsX10_spoilt wsX10_setOfOne := goodIn_r _ [91] (by decide +kernel) (by decide +kernel)
set_option maxRecDepth 20000 in
theorem gX10_spoilt_X10_setOfOne : GoodIn wsX10_spoilt (va_wsS RX10 291 yX10_setOfOne wsX10_setOfOne) := goodIn_app (goodIn_of _ (by decide +kernel)) ggX10_spoilt_X10_setOfOne
set_option maxRecDepth 20000 in
theorem ggX10_spoilt_X8_countHolding : GoodIn wsX10_spoilt wsX8_countHolding := goodIn_r _ [35, 36, 37, 38, 39, 40, 41, 42, 43, 44, 45, 46, 47, 48, 49, 50, 51, 52, 53, 54, 55, 56, 57, 58, 59, 60, 61, 62, 63, 64, 65, 66, 5, 67, 68, 69, 70, 71, 72, 73, 74, 75, 76, 77, 78, 79, 80, 81, 82, 83, 84, 85, 86, 87, 88, 89, 90, 91, 92, 115, 116, 117, 118, 127, 128, 129, 130, 131, 132, 133, 134, 119, 120, 121, 122, 123, 124, 125, 126, 107, 108, 109, 110, 111, 112, 113, 114] (by decide +kernel) (by decide +kernel)
set_option maxRecDepth 20000 in
theorem gX10_spoilt_X8_countHolding : GoodIn wsX10_spoilt (wsV RX10 294 RX8 yX8_countHolding wsX8_countHolding) := goodIn_app (goodIn_of _ (by decide +kernel)) ggX10_spoilt_X8_countHolding
theorem dX10_spoilt_0 : decode cX10_spoilt 0 = .ok (.aload_n 0, 1) := by decide +kernel
theorem dX10_spoilt_1 : decode cX10_spoilt 1 = .ok (.iload_n 1, 1) := by decide +kernel
theorem dX10_spoilt_2 : decode cX10_spoilt 2 = .ok (.iload_n 2, 1) := by decide +kernel
theorem dX10_spoilt_3 : decode cX10_spoilt 3 = .ok (.iload_n 3, 1) := by decide +kernel
theorem dX10_spoilt_4 : decode cX10_spoilt 4 = .ok (.iload 4, 2) := by decide +kernel
theorem dX10_spoilt_6 : decode cX10_spoilt 6 = .ok (.iconst 1, 1) := by decide +kernel
theorem dX10_spoilt_7 : decode cX10_spoilt 7 = .ok (.invokevirtual 236, 3) := by decide +kernel
theorem dX10_spoilt_10 : decode cX10_spoilt 10 = .ok (.istore 5, 2) := by decide +kernel
theorem dX10_spoilt_12 : decode cX10_spoilt 12 = .ok (.iload 5, 2) := by decide +kernel
theorem dX10_spoilt_14 : decode cX10_spoilt 14 = .ok (.ifCond .eq 6, 3) := by decide +kernel
theorem dX10_spoilt_17 : decode cX10_spoilt 17 = .ok (.iload 5, 2) := by decide +kernel
theorem dX10_spoilt_19 : decode cX10_spoilt 19 = .ok (.ireturn, 1) := by decide +kernel
theorem dX10_spoilt_20 : decode cX10_spoilt 20 = .ok (.aload_n 0, 1) := by decide +kernel
theorem dX10_spoilt_21 : decode cX10_spoilt 21 = .ok (.getfield 61, 3) := by decide +kernel
theorem dX10_spoilt_24 : decode cX10_spoilt 24 = .ok (.iload_n 1, 1) := by decide +kernel
theorem dX10_spoilt_25 : decode cX10_spoilt 25 = .ok (.iload_n 2, 1) := by decide +kernel
theorem dX10_spoilt_26 : decode cX10_spoilt 26 = .ok (.iload_n 3, 1) := by decide +kernel
theorem dX10_spoilt_27 : decode cX10_spoilt 27 = .ok (.invokevirtual 288, 3) := by decide +kernel
theorem dX10_spoilt_30 : decode cX10_spoilt 30 = .ok (.istore 6, 2) := by decide +kernel
theorem dX10_spoilt_32 : decode cX10_spoilt 32 = .ok (.iload 4, 2) := by decide +kernel
theorem dX10_spoilt_34 : decode cX10_spoilt 34 = .ok (.iconst 1, 1) := by decide +kernel
theorem dX10_spoilt_35 : decode cX10_spoilt 35 = .ok (.if_icmp .ne 6, 3) := by decide +kernel
theorem dX10_spoilt_38 : decode cX10_spoilt 38 = .ok (.iload 6, 2) := by decide +kernel
theorem dX10_spoilt_40 : decode cX10_spoilt 40 = .ok (.ireturn, 1) := by decide +kernel
theorem dX10_spoilt_41 : decode cX10_spoilt 41 = .ok (.aload_n 0, 1) := by decide +kernel
theorem dX10_spoilt_42 : decode cX10_spoilt 42 = .ok (.getfield 61, 3) := by decide +kernel
theorem dX10_spoilt_45 : decode cX10_spoilt 45 = .ok (.iload_n 1, 1) := by decide +kernel
theorem dX10_spoilt_46 : decode cX10_spoilt 46 = .ok (.iload_n 2, 1) := by decide +kernel
theorem dX10_spoilt_47 : decode cX10_spoilt 47 = .ok (.iload_n 3, 1) := by decide +kernel
theorem dX10_spoilt_48 : decode cX10_spoilt 48 = .ok (.iload 6, 2) := by decide +kernel
theorem dX10_spoilt_50 : decode cX10_spoilt 50 = .ok (.invokestatic 291, 3) := by decide +kernel
theorem dX10_spoilt_53 : decode cX10_spoilt 53 = .ok (.invokevirtual 294, 3) := by decide +kernel
theorem dX10_spoilt_56 : decode cX10_spoilt 56 = .ok (.ireturn, 1) := by decide +kernel
theorem dX10_odds_0 : decode cX10_odds 0 = .ok (.iload_n 1, 1) := by decide +kernel
theorem dX10_odds_1 : decode cX10_odds 1 = .ok (.ifCond .lt 19, 3) := by decide +kernel
theorem dX10_odds_4 : decode cX10_odds 4 = .ok (.iload_n 1, 1) := by decide +kernel
theorem dX10_odds_5 : decode cX10_odds 5 = .ok (.bipush 60, 2) := by decide +kernel
theorem dX10_odds_7 : decode cX10_odds 7 = .ok (.if_icmp .gt 13, 3) := by decide +kernel
theorem dX10_odds_10 : decode cX10_odds 10 = .ok (.iload_n 2, 1) := by decide +kernel
theorem dX10_odds_11 : decode cX10_odds 11 = .ok (.ifCond .lt 9, 3) := by decide +kernel
theorem dX10_odds_14 : decode cX10_odds 14 = .ok (.iload_n 2, 1) := by decide +kernel
theorem dX10_odds_15 : decode cX10_odds 15 = .ok (.bipush 100, 2) := by decide +kernel
theorem dX10_odds_17 : decode cX10_odds 17 = .ok (.if_icmp .le 6, 3) := by decide +kernel
theorem dX10_odds_20 : decode cX10_odds 20 = .ok (.ldc 94, 2) := by decide +kernel
theorem dX10_odds_22 : decode cX10_odds 22 = .ok (.ireturn, 1) := by decide +kernel
theorem dX10_odds_23 : decode cX10_odds 23 = .ok (.ldc2_w 298, 3) := by decide +kernel
theorem dX10_odds_26 : decode cX10_odds 26 = .ok (.lstore_n 3, 1) := by decide +kernel
theorem dX10_odds_27 : decode cX10_odds 27 = .ok (.aload_n 0, 1) := by decide +kernel
theorem dX10_odds_28 : decode cX10_odds 28 = .ok (.getfield 19, 3) := by decide +kernel
theorem dX10_odds_31 : decode cX10_odds 31 = .ok (.getfield 126, 3) := by decide +kernel
theorem dX10_odds_34 : decode cX10_odds 34 = .ok (.iload_n 1, 1) := by decide +kernel
theorem dX10_odds_35 : decode cX10_odds 35 = .ok (.imul, 1) := by decide +kernel
theorem dX10_odds_36 : decode cX10_odds 36 = .ok (.istore 5, 2) := by decide +kernel
theorem dX10_odds_38 : decode cX10_odds 38 = .ok (.iconst 0, 1) := by decide +kernel
theorem dX10_odds_39 : decode cX10_odds 39 = .ok (.istore 6, 2) := by decide +kernel
theorem dX10_odds_41 : decode cX10_odds 41 = .ok (.iload 6, 2) := by decide +kernel
theorem dX10_odds_43 : decode cX10_odds 43 = .ok (.iload 5, 2) := by decide +kernel
theorem dX10_odds_45 : decode cX10_odds 45 = .ok (.if_icmp .ge 21, 3) := by decide +kernel
theorem dX10_odds_48 : decode cX10_odds 48 = .ok (.lload_n 3, 1) := by decide +kernel
theorem dX10_odds_49 : decode cX10_odds 49 = .ok (.bipush 100, 2) := by decide +kernel
theorem dX10_odds_51 : decode cX10_odds 51 = .ok (.iload_n 2, 1) := by decide +kernel
theorem dX10_odds_52 : decode cX10_odds 52 = .ok (.isub, 1) := by decide +kernel
theorem dX10_odds_53 : decode cX10_odds 53 = .ok (.i2l, 1) := by decide +kernel
theorem dX10_odds_54 : decode cX10_odds 54 = .ok (.lmul, 1) := by decide +kernel
theorem dX10_odds_55 : decode cX10_odds 55 = .ok (.ldc2_w 300, 3) := by decide +kernel
theorem dX10_odds_58 : decode cX10_odds 58 = .ok (.ldiv, 1) := by decide +kernel
theorem dX10_odds_59 : decode cX10_odds 59 = .ok (.lstore_n 3, 1) := by decide +kernel
theorem dX10_odds_60 : decode cX10_odds 60 = .ok (.iinc 6 1, 3) := by decide +kernel
theorem dX10_odds_63 : decode cX10_odds 63 = .ok (.goto (-22), 3) := by decide +kernel
theorem dX10_odds_66 : decode cX10_odds 66 = .ok (.lload_n 3, 1) := by decide +kernel
theorem dX10_odds_67 : decode cX10_odds 67 = .ok (.l2i, 1) := by decide +kernel
theorem dX10_odds_68 : decode cX10_odds 68 = .ok (.ireturn, 1) := by decide +kernel
set_option maxRecDepth 20000 in
theorem ggX10_see_X7_allows : GoodIn wsX10_see wsX7_allows := goodIn_r _ [9, 10, 44, 45, 46, 47, 48, 49, 50, 51] (by decide +kernel) (by decide +kernel)
set_option maxRecDepth 20000 in
theorem gX10_see_X7_allows : GoodIn wsX10_see (wsV RX10 254 RX7 yX7_allows wsX7_allows) := goodIn_app (goodIn_of _ (by decide +kernel)) ggX10_see_X7_allows
set_option maxRecDepth 20000 in
theorem ggX10_see_X7_hasCorner : GoodIn wsX10_see wsX7_hasCorner := goodIn_r _ [14, 15, 44, 45, 46, 47, 48, 49, 50, 51] (by decide +kernel) (by decide +kernel)
set_option maxRecDepth 20000 in
theorem gX10_see_X7_hasCorner : GoodIn wsX10_see (wsV RX10 186 RX7 yX7_hasCorner wsX7_hasCorner) := goodIn_app (goodIn_of _ (by decide +kernel)) ggX10_see_X7_hasCorner
set_option maxRecDepth 20000 in
theorem ggX10_see_X9_add : GoodIn wsX10_see wsX9_add := goodIn_r _ [20, 21, 22, 23, 24, 25, 26, 27, 28, 29, 30, 31, 52, 53, 54, 55, 56, 57, 58, 59] (by decide +kernel) (by decide +kernel)
set_option maxRecDepth 20000 in
theorem gX10_see_X9_add : GoodIn wsX10_see (wsV RX10 302 RX9 yX9_add wsX9_add) := goodIn_app (goodIn_of _ (by decide +kernel)) ggX10_see_X9_add
theorem dX10_see_0 : decode cX10_see 0 = .ok (.aload_n 0, 1) := by decide +kernel
theorem dX10_see_1 : decode cX10_see 1 = .ok (.getfield 19, 3) := by decide +kernel
theorem dX10_see_4 : decode cX10_see 4 = .ok (.iload_n 1, 1) := by decide +kernel
theorem dX10_see_5 : decode cX10_see 5 = .ok (.invokevirtual 254, 3) := by decide +kernel
theorem dX10_see_8 : decode cX10_see 8 = .ok (.ifCond .eq 14, 3) := by decide +kernel
theorem dX10_see_11 : decode cX10_see 11 = .ok (.aload_n 0, 1) := by decide +kernel
theorem dX10_see_12 : decode cX10_see 12 = .ok (.getfield 19, 3) := by decide +kernel
theorem dX10_see_15 : decode cX10_see 15 = .ok (.iload_n 2, 1) := by decide +kernel
theorem dX10_see_16 : decode cX10_see 16 = .ok (.invokevirtual 186, 3) := by decide +kernel
theorem dX10_see_19 : decode cX10_see 19 = .ok (.ifCond .ne 6, 3) := by decide +kernel
theorem dX10_see_22 : decode cX10_see 22 = .ok (.ldc 167, 2) := by decide +kernel
theorem dX10_see_24 : decode cX10_see 24 = .ok (.ireturn, 1) := by decide +kernel
theorem dX10_see_25 : decode cX10_see 25 = .ok (.iload_n 3, 1) := by decide +kernel
theorem dX10_see_26 : decode cX10_see 26 = .ok (.ifCond .lt 9, 3) := by decide +kernel
theorem dX10_see_29 : decode cX10_see 29 = .ok (.iload_n 3, 1) := by decide +kernel
theorem dX10_see_30 : decode cX10_see 30 = .ok (.bipush 9, 2) := by decide +kernel
theorem dX10_see_32 : decode cX10_see 32 = .ok (.if_icmp .le 6, 3) := by decide +kernel
theorem dX10_see_35 : decode cX10_see 35 = .ok (.ldc 94, 2) := by decide +kernel
theorem dX10_see_37 : decode cX10_see 37 = .ok (.ireturn, 1) := by decide +kernel
theorem dX10_see_38 : decode cX10_see 38 = .ok (.aload_n 0, 1) := by decide +kernel
theorem dX10_see_39 : decode cX10_see 39 = .ok (.getfield 70, 3) := by decide +kernel
theorem dX10_see_42 : decode cX10_see 42 = .ok (.iload_n 1, 1) := by decide +kernel
theorem dX10_see_43 : decode cX10_see 43 = .ok (.iload_n 2, 1) := by decide +kernel
theorem dX10_see_44 : decode cX10_see 44 = .ok (.iload_n 3, 1) := by decide +kernel
theorem dX10_see_45 : decode cX10_see 45 = .ok (.invokevirtual 302, 3) := by decide +kernel
theorem dX10_see_48 : decode cX10_see 48 = .ok (.ireturn, 1) := by decide +kernel
set_option maxRecDepth 20000 in
theorem ggX10_behind_X9_gatherSuspects : GoodIn wsX10_behind wsX9_gatherSuspects := goodIn_r _ [6, 7, 8, 9, 10, 11, 12, 13, 14, 15, 16, 17, 18, 19, 20, 21, 22, 23, 24, 25, 26, 27, 5, 28, 29, 30, 31, 32, 33, 34, 35, 36, 37, 38, 39, 40, 41, 42, 43, 44, 45, 46, 47, 48, 49, 50, 51, 52, 53, 54, 55, 56, 57, 58, 59, 60, 61, 62, 63, 64, 65, 66, 67, 68, 69, 70, 71, 72, 73, 74, 75, 76, 77, 78, 79, 80, 81, 82, 83, 84, 85, 112, 113, 114, 115, 116, 117, 118, 119, 120, 121, 122, 123, 124, 125, 126, 127, 128, 129, 130, 131, 132, 133, 134, 135, 136, 137, 138, 139, 140, 141, 142, 143] (by decide +kernel) (by decide +kernel)
set_option maxRecDepth 20000 in
theorem gX10_behind_X9_gatherSuspects : GoodIn wsX10_behind (wsV RX10 304 RX9 yX9_gatherSuspects wsX9_gatherSuspects) := goodIn_app (goodIn_of _ (by decide +kernel)) ggX10_behind_X9_gatherSuspects
set_option maxRecDepth 20000 in
theorem ggX10_behind_X9_bestParting : GoodIn wsX10_behind wsX9_bestParting := goodIn_r _ [89, 7, 90, 91, 92, 93, 94, 95, 96, 97, 5, 98, 32, 33, 34, 12, 35, 14, 36, 59, 23, 60, 112, 113, 114, 115, 116, 117, 118, 119, 128, 129, 130, 131, 132, 133, 134, 135] (by decide +kernel) (by decide +kernel)
set_option maxRecDepth 20000 in
theorem gX10_behind_X9_bestParting : GoodIn wsX10_behind (wsV RX10 310 RX9 yX9_bestParting wsX9_bestParting) := goodIn_app (goodIn_of _ (by decide +kernel)) ggX10_behind_X9_bestParting
set_option maxRecDepth 20000 in
theorem ggX10_behind_X5_get : GoodIn wsX10_behind wsX5_get := goodIn_r _ [35, 14, 36, 118, 119] (by decide +kernel) (by decide +kernel)
set_option maxRecDepth 20000 in
theorem gX10_behind_X5_get : GoodIn wsX10_behind (wsV RX10 276 RX5 yX5_get wsX5_get) := goodIn_app (goodIn_of _ (by decide +kernel)) ggX10_behind_X5_get
theorem dX10_behind_0 : decode cX10_behind 0 = .ok (.aload_n 0, 1) := by decide +kernel
theorem dX10_behind_1 : decode cX10_behind 1 = .ok (.getfield 70, 3) := by decide +kernel
theorem dX10_behind_4 : decode cX10_behind 4 = .ok (.invokevirtual 304, 3) := by decide +kernel
theorem dX10_behind_7 : decode cX10_behind 7 = .ok (.iload_n 1, 1) := by decide +kernel
theorem dX10_behind_8 : decode cX10_behind 8 = .ok (.iconst (-1), 1) := by decide +kernel
theorem dX10_behind_9 : decode cX10_behind 9 = .ok (.if_icmp .ne 14, 3) := by decide +kernel
theorem dX10_behind_12 : decode cX10_behind 12 = .ok (.aload_n 0, 1) := by decide +kernel
theorem dX10_behind_13 : decode cX10_behind 13 = .ok (.getfield 70, 3) := by decide +kernel
theorem dX10_behind_16 : decode cX10_behind 16 = .ok (.getfield 307, 3) := by decide +kernel
theorem dX10_behind_19 : decode cX10_behind 19 = .ok (.getfield 135, 3) := by decide +kernel
theorem dX10_behind_22 : decode cX10_behind 22 = .ok (.ireturn, 1) := by decide +kernel
theorem dX10_behind_23 : decode cX10_behind 23 = .ok (.iload_n 1, 1) := by decide +kernel
theorem dX10_behind_24 : decode cX10_behind 24 = .ok (.bipush (-2), 2) := by decide +kernel
theorem dX10_behind_26 : decode cX10_behind 26 = .ok (.if_icmp .ne 11, 3) := by decide +kernel
theorem dX10_behind_29 : decode cX10_behind 29 = .ok (.aload_n 0, 1) := by decide +kernel
theorem dX10_behind_30 : decode cX10_behind 30 = .ok (.getfield 70, 3) := by decide +kernel
theorem dX10_behind_33 : decode cX10_behind 33 = .ok (.invokevirtual 310, 3) := by decide +kernel
theorem dX10_behind_36 : decode cX10_behind 36 = .ok (.ireturn, 1) := by decide +kernel
theorem dX10_behind_37 : decode cX10_behind 37 = .ok (.aload_n 0, 1) := by decide +kernel
theorem dX10_behind_38 : decode cX10_behind 38 = .ok (.getfield 70, 3) := by decide +kernel
theorem dX10_behind_41 : decode cX10_behind 41 = .ok (.getfield 307, 3) := by decide +kernel
theorem dX10_behind_44 : decode cX10_behind 44 = .ok (.iload_n 1, 1) := by decide +kernel
theorem dX10_behind_45 : decode cX10_behind 45 = .ok (.invokevirtual 276, 3) := by decide +kernel
theorem dX10_behind_48 : decode cX10_behind 48 = .ok (.ireturn, 1) := by decide +kernel
set_option maxRecDepth 20000 in
theorem ggX10_write_X5_add : GoodIn wsX10_write wsX5_add := goodIn_r _ [7, 8, 9, 10, 23, 24] (by decide +kernel) (by decide +kernel)
set_option maxRecDepth 20000 in
theorem gX10_write_X5_add : GoodIn wsX10_write (wsV RX10 98 RX5 yX5_add wsX5_add) := goodIn_app (goodIn_of _ (by decide +kernel)) ggX10_write_X5_add
theorem dX10_write_0 : decode cX10_write 0 = .ok (.iload_n 1, 1) := by decide +kernel
theorem dX10_write_1 : decode cX10_write 1 = .ok (.ifCond .lt 10, 3) := by decide +kernel
theorem dX10_write_4 : decode cX10_write 4 = .ok (.iload_n 1, 1) := by decide +kernel
theorem dX10_write_5 : decode cX10_write 5 = .ok (.sipush 256, 3) := by decide +kernel
theorem dX10_write_8 : decode cX10_write 8 = .ok (.if_icmp .lt 6, 3) := by decide +kernel
theorem dX10_write_11 : decode cX10_write 11 = .ok (.ldc 94, 2) := by decide +kernel
theorem dX10_write_13 : decode cX10_write 13 = .ok (.ireturn, 1) := by decide +kernel
theorem dX10_write_14 : decode cX10_write 14 = .ok (.aload_n 0, 1) := by decide +kernel
theorem dX10_write_15 : decode cX10_write 15 = .ok (.getfield 79, 3) := by decide +kernel
theorem dX10_write_18 : decode cX10_write 18 = .ok (.iload_n 1, 1) := by decide +kernel
theorem dX10_write_19 : decode cX10_write 19 = .ok (.invokevirtual 98, 3) := by decide +kernel
theorem dX10_write_22 : decode cX10_write 22 = .ok (.ireturn, 1) := by decide +kernel
set_option maxRecDepth 20000 in
theorem ggX10_judge_X5_get : GoodIn wsX10_judge wsX5_get := goodIn_r _ [7, 8, 9, 22, 23] (by decide +kernel) (by decide +kernel)
set_option maxRecDepth 20000 in
theorem gX10_judge_X5_get : GoodIn wsX10_judge (wsV RX10 276 RX5 yX5_get wsX5_get) := goodIn_app (goodIn_of _ (by decide +kernel)) ggX10_judge_X5_get
theorem dX10_judge_0 : decode cX10_judge 0 = .ok (.iconst 0, 1) := by decide +kernel
theorem dX10_judge_1 : decode cX10_judge 1 = .ok (.istore_n 1, 1) := by decide +kernel
theorem dX10_judge_2 : decode cX10_judge 2 = .ok (.iload_n 1, 1) := by decide +kernel
theorem dX10_judge_3 : decode cX10_judge 3 = .ok (.aload_n 0, 1) := by decide +kernel
theorem dX10_judge_4 : decode cX10_judge 4 = .ok (.getfield 79, 3) := by decide +kernel
theorem dX10_judge_7 : decode cX10_judge 7 = .ok (.getfield 135, 3) := by decide +kernel
theorem dX10_judge_10 : decode cX10_judge 10 = .ok (.if_icmp .ge 29, 3) := by decide +kernel
theorem dX10_judge_13 : decode cX10_judge 13 = .ok (.aload_n 0, 1) := by decide +kernel
theorem dX10_judge_14 : decode cX10_judge 14 = .ok (.getfield 79, 3) := by decide +kernel
theorem dX10_judge_17 : decode cX10_judge 17 = .ok (.iload_n 1, 1) := by decide +kernel
theorem dX10_judge_18 : decode cX10_judge 18 = .ok (.invokevirtual 276, 3) := by decide +kernel
theorem dX10_judge_21 : decode cX10_judge 21 = .ok (.aload_n 0, 1) := by decide +kernel
theorem dX10_judge_22 : decode cX10_judge 22 = .ok (.getfield 29, 3) := by decide +kernel
theorem dX10_judge_25 : decode cX10_judge 25 = .ok (.getfield 144, 3) := by decide +kernel
theorem dX10_judge_28 : decode cX10_judge 28 = .ok (.if_icmp .eq 5, 3) := by decide +kernel
theorem dX10_judge_31 : decode cX10_judge 31 = .ok (.iload_n 1, 1) := by decide +kernel
theorem dX10_judge_32 : decode cX10_judge 32 = .ok (.ireturn, 1) := by decide +kernel
theorem dX10_judge_33 : decode cX10_judge 33 = .ok (.iinc 1 1, 3) := by decide +kernel
theorem dX10_judge_36 : decode cX10_judge 36 = .ok (.goto (-34), 3) := by decide +kernel
theorem dX10_judge_39 : decode cX10_judge 39 = .ok (.iconst (-1), 1) := by decide +kernel
theorem dX10_judge_40 : decode cX10_judge 40 = .ok (.ireturn, 1) := by decide +kernel
set_option maxRecDepth 20000 in
theorem ggX10_tear_X9_forget : GoodIn wsX10_tear wsX9_forget := goodIn_r _ [7, 8, 9, 10, 11, 12, 13, 14, 15, 16, 30, 31, 32, 33, 34, 35, 36, 37] (by decide +kernel) (by decide +kernel)
set_option maxRecDepth 20000 in
theorem gX10_tear_X9_forget : GoodIn wsX10_tear (wsV RX10 125 RX9 yX9_forget wsX9_forget) := goodIn_app (goodIn_of _ (by decide +kernel)) ggX10_tear_X9_forget
set_option maxRecDepth 20000 in
theorem ggX10_tear_X5_clear : GoodIn wsX10_tear wsX5_clear := goodIn_r _ [15, 16, 36, 37] (by decide +kernel) (by decide +kernel)
set_option maxRecDepth 20000 in
theorem gX10_tear_X5_clear : GoodIn wsX10_tear (wsV RX10 109 RX5 yX5_clear wsX5_clear) := goodIn_app (goodIn_of _ (by decide +kernel)) ggX10_tear_X5_clear
theorem dX10_tear_0 : decode cX10_tear 0 = .ok (.aload_n 0, 1) := by decide +kernel
theorem dX10_tear_1 : decode cX10_tear 1 = .ok (.getfield 70, 3) := by decide +kernel
theorem dX10_tear_4 : decode cX10_tear 4 = .ok (.getfield 159, 3) := by decide +kernel
theorem dX10_tear_7 : decode cX10_tear 7 = .ok (.getfield 135, 3) := by decide +kernel
theorem dX10_tear_10 : decode cX10_tear 10 = .ok (.aload_n 0, 1) := by decide +kernel
theorem dX10_tear_11 : decode cX10_tear 11 = .ok (.getfield 79, 3) := by decide +kernel
theorem dX10_tear_14 : decode cX10_tear 14 = .ok (.getfield 135, 3) := by decide +kernel
theorem dX10_tear_17 : decode cX10_tear 17 = .ok (.iadd, 1) := by decide +kernel
theorem dX10_tear_18 : decode cX10_tear 18 = .ok (.istore_n 1, 1) := by decide +kernel
theorem dX10_tear_19 : decode cX10_tear 19 = .ok (.aload_n 0, 1) := by decide +kernel
theorem dX10_tear_20 : decode cX10_tear 20 = .ok (.getfield 70, 3) := by decide +kernel
theorem dX10_tear_23 : decode cX10_tear 23 = .ok (.invokevirtual 125, 3) := by decide +kernel
theorem dX10_tear_26 : decode cX10_tear 26 = .ok (.aload_n 0, 1) := by decide +kernel
theorem dX10_tear_27 : decode cX10_tear 27 = .ok (.getfield 79, 3) := by decide +kernel
theorem dX10_tear_30 : decode cX10_tear 30 = .ok (.invokevirtual 109, 3) := by decide +kernel
theorem dX10_tear_33 : decode cX10_tear 33 = .ok (.iload_n 1, 1) := by decide +kernel
theorem dX10_tear_34 : decode cX10_tear 34 = .ok (.ireturn, 1) := by decide +kernel
theorem dX10_seed_0 : decode cX10_seed 0 = .ok (.iload_n 1, 1) := by decide +kernel
theorem dX10_seed_1 : decode cX10_seed 1 = .ok (.ifCond .ge 6, 3) := by decide +kernel
theorem dX10_seed_4 : decode cX10_seed 4 = .ok (.ldc 94, 2) := by decide +kernel
theorem dX10_seed_6 : decode cX10_seed 6 = .ok (.ireturn, 1) := by decide +kernel
theorem dX10_seed_7 : decode cX10_seed 7 = .ok (.aload_n 0, 1) := by decide +kernel
theorem dX10_seed_8 : decode cX10_seed 8 = .ok (.getfield 86, 3) := by decide +kernel
theorem dX10_seed_11 : decode cX10_seed 11 = .ok (.getfield 313, 3) := by decide +kernel
theorem dX10_seed_14 : decode cX10_seed 14 = .ok (.istore_n 2, 1) := by decide +kernel
theorem dX10_seed_15 : decode cX10_seed 15 = .ok (.aload_n 0, 1) := by decide +kernel
theorem dX10_seed_16 : decode cX10_seed 16 = .ok (.getfield 86, 3) := by decide +kernel
theorem dX10_seed_19 : decode cX10_seed 19 = .ok (.iload_n 1, 1) := by decide +kernel
theorem dX10_seed_20 : decode cX10_seed 20 = .ok (.putfield 313, 3) := by decide +kernel
theorem dX10_seed_23 : decode cX10_seed 23 = .ok (.iload_n 2, 1) := by decide +kernel
theorem dX10_seed_24 : decode cX10_seed 24 = .ok (.ireturn, 1) := by decide +kernel
set_option maxRecDepth 20000 in
theorem ggX10_keep_X10_imageOf : GoodIn wsX10_keep wsX10_imageOf := goodIn_r _ [9, 10, 40, 41, 42, 43, 44, 45, 46, 47, 48, 49, 50, 51] (by decide +kernel) (by decide +kernel)
set_option maxRecDepth 20000 in
theorem gX10_keep_X10_imageOf : GoodIn wsX10_keep (wsV RX10 316 RX10 yX10_imageOf wsX10_imageOf) := goodIn_app (goodIn_of _ (by decide +kernel)) ggX10_keep_X10_imageOf
set_option maxRecDepth 20000 in
theorem ggX10_keep_X2_take : GoodIn wsX10_keep wsX2_take := goodIn_r _ [15, 16, 17, 18, 19, 20, 21, 22, 23, 24, 25, 26, 27, 28, 29, 30, 31, 32, 8, 33, 53, 54, 55, 56, 57, 58, 59, 60, 61, 62, 63] (by decide +kernel) (by decide +kernel)
set_option maxRecDepth 20000 in
theorem gX10_keep_X2_take : GoodIn wsX10_keep (wsV RX10 320 RX2 yX2_take wsX2_take) := goodIn_app (goodIn_of _ (by decide +kernel)) ggX10_keep_X2_take
set_option maxRecDepth 20000 in
theorem ggX10_keep_X3_forget : GoodIn wsX10_keep wsX3_forget := goodIn_r _ [38, 39, 64, 65, 66] (by decide +kernel) (by decide +kernel)
set_option maxRecDepth 20000 in
theorem gX10_keep_X3_forget : GoodIn wsX10_keep (wsV RX10 119 RX3 yX3_forget wsX3_forget) := goodIn_app (goodIn_of _ (by decide +kernel)) ggX10_keep_X3_forget
theorem dX10_keep_0 : decode cX10_keep 0 = .ok (.aload_n 0, 1) := by decide +kernel
theorem dX10_keep_1 : decode cX10_keep 1 = .ok (.iload_n 1, 1) := by decide +kernel
theorem dX10_keep_2 : decode cX10_keep 2 = .ok (.invokevirtual 316, 3) := by decide +kernel
theorem dX10_keep_5 : decode cX10_keep 5 = .ok (.astore_n 2, 1) := by decide +kernel
theorem dX10_keep_6 : decode cX10_keep 6 = .ok (.aload_n 2, 1) := by decide +kernel
theorem dX10_keep_7 : decode cX10_keep 7 = .ok (.ifnonnull 6, 3) := by decide +kernel
theorem dX10_keep_10 : decode cX10_keep 10 = .ok (.ldc 167, 2) := by decide +kernel
theorem dX10_keep_12 : decode cX10_keep 12 = .ok (.ireturn, 1) := by decide +kernel
theorem dX10_keep_13 : decode cX10_keep 13 = .ok (.aload_n 2, 1) := by decide +kernel
theorem dX10_keep_14 : decode cX10_keep 14 = .ok (.aload_n 0, 1) := by decide +kernel
theorem dX10_keep_15 : decode cX10_keep 15 = .ok (.getfield 29, 3) := by decide +kernel
theorem dX10_keep_18 : decode cX10_keep 18 = .ok (.aload_n 0, 1) := by decide +kernel
theorem dX10_keep_19 : decode cX10_keep 19 = .ok (.getfield 86, 3) := by decide +kernel
theorem dX10_keep_22 : decode cX10_keep 22 = .ok (.getfield 313, 3) := by decide +kernel
theorem dX10_keep_25 : decode cX10_keep 25 = .ok (.invokevirtual 320, 3) := by decide +kernel
theorem dX10_keep_28 : decode cX10_keep 28 = .ok (.aload_n 0, 1) := by decide +kernel
theorem dX10_keep_29 : decode cX10_keep 29 = .ok (.getfield 36, 3) := by decide +kernel
theorem dX10_keep_32 : decode cX10_keep 32 = .ok (.invokevirtual 119, 3) := by decide +kernel
theorem dX10_keep_35 : decode cX10_keep 35 = .ok (.iconst 1, 1) := by decide +kernel
theorem dX10_keep_36 : decode cX10_keep 36 = .ok (.ireturn, 1) := by decide +kernel
set_option maxRecDepth 20000 in
theorem ggX10_goBack_X10_imageOf : GoodIn wsX10_goBack wsX10_imageOf := goodIn_r _ [10, 11, 36, 37, 38, 39, 40, 41, 42, 43, 44, 45, 46, 47] (by decide +kernel) (by decide +kernel)
set_option maxRecDepth 20000 in
theorem gX10_goBack_X10_imageOf : GoodIn wsX10_goBack (wsV RX10 316 RX10 yX10_imageOf wsX10_imageOf) := goodIn_app (goodIn_of _ (by decide +kernel)) ggX10_goBack_X10_imageOf
set_option maxRecDepth 20000 in
theorem ggX10_goBack_X6_become : GoodIn wsX10_goBack wsX6_become := goodIn_r _ [16, 17, 18, 19, 20, 21, 22, 23, 24, 25, 9, 26, 49, 50, 51, 52, 53, 54, 55, 56] (by decide +kernel) (by decide +kernel)
set_option maxRecDepth 20000 in
theorem gX10_goBack_X6_become : GoodIn wsX10_goBack (wsV RX10 331 RX6 yX6_become wsX6_become) := goodIn_app (goodIn_of _ (by decide +kernel)) ggX10_goBack_X6_become
set_option maxRecDepth 20000 in
theorem ggX10_goBack_X3_forget : GoodIn wsX10_goBack wsX3_forget := goodIn_r _ [31, 32, 57, 58, 59] (by decide +kernel) (by decide +kernel)
set_option maxRecDepth 20000 in
theorem gX10_goBack_X3_forget : GoodIn wsX10_goBack (wsV RX10 119 RX3 yX3_forget wsX3_forget) := goodIn_app (goodIn_of _ (by decide +kernel)) ggX10_goBack_X3_forget
theorem dX10_goBack_0 : decode cX10_goBack 0 = .ok (.aload_n 0, 1) := by decide +kernel
theorem dX10_goBack_1 : decode cX10_goBack 1 = .ok (.iload_n 1, 1) := by decide +kernel
theorem dX10_goBack_2 : decode cX10_goBack 2 = .ok (.invokevirtual 316, 3) := by decide +kernel
theorem dX10_goBack_5 : decode cX10_goBack 5 = .ok (.astore_n 2, 1) := by decide +kernel
theorem dX10_goBack_6 : decode cX10_goBack 6 = .ok (.aload_n 2, 1) := by decide +kernel
theorem dX10_goBack_7 : decode cX10_goBack 7 = .ok (.ifnonnull 6, 3) := by decide +kernel
theorem dX10_goBack_10 : decode cX10_goBack 10 = .ok (.ldc 167, 2) := by decide +kernel
theorem dX10_goBack_12 : decode cX10_goBack 12 = .ok (.ireturn, 1) := by decide +kernel
theorem dX10_goBack_13 : decode cX10_goBack 13 = .ok (.aload_n 2, 1) := by decide +kernel
theorem dX10_goBack_14 : decode cX10_goBack 14 = .ok (.getfield 324, 3) := by decide +kernel
theorem dX10_goBack_17 : decode cX10_goBack 17 = .ok (.ifCond .ne 6, 3) := by decide +kernel
theorem dX10_goBack_20 : decode cX10_goBack 20 = .ok (.ldc 212, 2) := by decide +kernel
theorem dX10_goBack_22 : decode cX10_goBack 22 = .ok (.ireturn, 1) := by decide +kernel
theorem dX10_goBack_23 : decode cX10_goBack 23 = .ok (.aload_n 0, 1) := by decide +kernel
theorem dX10_goBack_24 : decode cX10_goBack 24 = .ok (.getfield 29, 3) := by decide +kernel
theorem dX10_goBack_27 : decode cX10_goBack 27 = .ok (.aload_n 2, 1) := by decide +kernel
theorem dX10_goBack_28 : decode cX10_goBack 28 = .ok (.getfield 328, 3) := by decide +kernel
theorem dX10_goBack_31 : decode cX10_goBack 31 = .ok (.invokevirtual 331, 3) := by decide +kernel
theorem dX10_goBack_34 : decode cX10_goBack 34 = .ok (.aload_n 0, 1) := by decide +kernel
theorem dX10_goBack_35 : decode cX10_goBack 35 = .ok (.getfield 86, 3) := by decide +kernel
theorem dX10_goBack_38 : decode cX10_goBack 38 = .ok (.aload_n 2, 1) := by decide +kernel
theorem dX10_goBack_39 : decode cX10_goBack 39 = .ok (.getfield 333, 3) := by decide +kernel
theorem dX10_goBack_42 : decode cX10_goBack 42 = .ok (.putfield 313, 3) := by decide +kernel
theorem dX10_goBack_45 : decode cX10_goBack 45 = .ok (.aload_n 0, 1) := by decide +kernel
theorem dX10_goBack_46 : decode cX10_goBack 46 = .ok (.getfield 36, 3) := by decide +kernel
theorem dX10_goBack_49 : decode cX10_goBack 49 = .ok (.invokevirtual 119, 3) := by decide +kernel
theorem dX10_goBack_52 : decode cX10_goBack 52 = .ok (.iconst 1, 1) := by decide +kernel
theorem dX10_goBack_53 : decode cX10_goBack 53 = .ok (.ireturn, 1) := by decide +kernel
set_option maxRecDepth 20000 in
theorem ggX10_roundRefusal_X7_allows : GoodIn wsX10_roundRefusal wsX7_allows := goodIn_r _ [8, 9, 27, 28, 29, 30, 31, 32, 33, 34] (by decide +kernel) (by decide +kernel)
set_option maxRecDepth 20000 in
theorem gX10_roundRefusal_X7_allows : GoodIn wsX10_roundRefusal (wsV RX10 254 RX7 yX7_allows wsX7_allows) := goodIn_app (goodIn_of _ (by decide +kernel)) ggX10_roundRefusal_X7_allows
set_option maxRecDepth 20000 in
theorem ggX10_roundRefusal_X7_hasCorner : GoodIn wsX10_roundRefusal wsX7_hasCorner := goodIn_r _ [13, 14, 27, 28, 29, 30, 31, 32, 33, 34] (by decide +kernel) (by decide +kernel)
set_option maxRecDepth 20000 in
theorem gX10_roundRefusal_X7_hasCorner : GoodIn wsX10_roundRefusal (wsV RX10 186 RX7 yX7_hasCorner wsX7_hasCorner) := goodIn_app (goodIn_of _ (by decide +kernel)) ggX10_roundRefusal_X7_hasCorner
theorem dX10_roundRefusal_0 : decode cX10_roundRefusal 0 = .ok (.aload_n 0, 1) := by decide +kernel
theorem dX10_roundRefusal_1 : decode cX10_roundRefusal 1 = .ok (.getfield 19, 3) := by decide +kernel
theorem dX10_roundRefusal_4 : decode cX10_roundRefusal 4 = .ok (.iload_n 1, 1) := by decide +kernel
theorem dX10_roundRefusal_5 : decode cX10_roundRefusal 5 = .ok (.invokevirtual 254, 3) := by decide +kernel
theorem dX10_roundRefusal_8 : decode cX10_roundRefusal 8 = .ok (.ifCond .eq 14, 3) := by decide +kernel
theorem dX10_roundRefusal_11 : decode cX10_roundRefusal 11 = .ok (.aload_n 0, 1) := by decide +kernel
theorem dX10_roundRefusal_12 : decode cX10_roundRefusal 12 = .ok (.getfield 19, 3) := by decide +kernel
theorem dX10_roundRefusal_15 : decode cX10_roundRefusal 15 = .ok (.iload_n 2, 1) := by decide +kernel
theorem dX10_roundRefusal_16 : decode cX10_roundRefusal 16 = .ok (.invokevirtual 186, 3) := by decide +kernel
theorem dX10_roundRefusal_19 : decode cX10_roundRefusal 19 = .ok (.ifCond .ne 6, 3) := by decide +kernel
theorem dX10_roundRefusal_22 : decode cX10_roundRefusal 22 = .ok (.ldc 167, 2) := by decide +kernel
theorem dX10_roundRefusal_24 : decode cX10_roundRefusal 24 = .ok (.ireturn, 1) := by decide +kernel
theorem dX10_roundRefusal_25 : decode cX10_roundRefusal 25 = .ok (.iload_n 3, 1) := by decide +kernel
theorem dX10_roundRefusal_26 : decode cX10_roundRefusal 26 = .ok (.ifCond .lt 8, 3) := by decide +kernel
theorem dX10_roundRefusal_29 : decode cX10_roundRefusal 29 = .ok (.iload_n 3, 1) := by decide +kernel
theorem dX10_roundRefusal_30 : decode cX10_roundRefusal 30 = .ok (.iconst 1, 1) := by decide +kernel
theorem dX10_roundRefusal_31 : decode cX10_roundRefusal 31 = .ok (.if_icmp .le 8, 3) := by decide +kernel
theorem dX10_roundRefusal_34 : decode cX10_roundRefusal 34 = .ok (.ldc 94, 2) := by decide +kernel
theorem dX10_roundRefusal_36 : decode cX10_roundRefusal 36 = .ok (.goto 4, 3) := by decide +kernel
theorem dX10_roundRefusal_39 : decode cX10_roundRefusal 39 = .ok (.iconst 0, 1) := by decide +kernel
theorem dX10_roundRefusal_40 : decode cX10_roundRefusal 40 = .ok (.ireturn, 1) := by decide +kernel
set_option maxRecDepth 20000 in
theorem ggX10_triedRefusal_X10_roundRefusal : GoodIn wsX10_triedRefusal wsX10_roundRefusal := goodIn_r _ [6, 7, 8, 1, 9, 10, 11, 12, 13, 14, 15, 16, 17, 18, 19, 20, 21, 22, 23, 24, 25, 26, 27, 28, 29, 30, 31, 32, 33, 34, 35, 36, 37, 38, 39] (by decide +kernel) (by decide +kernel)
set_option maxRecDepth 20000 in
theorem gX10_triedRefusal_X10_roundRefusal : GoodIn wsX10_triedRefusal (wsV RX10 195 RX10 yX10_roundRefusal wsX10_roundRefusal) := goodIn_app (goodIn_of _ (by decide +kernel)) ggX10_triedRefusal_X10_roundRefusal
theorem dX10_triedRefusal_0 : decode cX10_triedRefusal 0 = .ok (.aload_n 0, 1) := by decide +kernel
theorem dX10_triedRefusal_1 : decode cX10_triedRefusal 1 = .ok (.iload_n 1, 1) := by decide +kernel
theorem dX10_triedRefusal_2 : decode cX10_triedRefusal 2 = .ok (.iload_n 2, 1) := by decide +kernel
theorem dX10_triedRefusal_3 : decode cX10_triedRefusal 3 = .ok (.iload_n 3, 1) := by decide +kernel
theorem dX10_triedRefusal_4 : decode cX10_triedRefusal 4 = .ok (.invokevirtual 195, 3) := by decide +kernel
theorem dX10_triedRefusal_7 : decode cX10_triedRefusal 7 = .ok (.istore 6, 2) := by decide +kernel
theorem dX10_triedRefusal_9 : decode cX10_triedRefusal 9 = .ok (.iload 6, 2) := by decide +kernel
theorem dX10_triedRefusal_11 : decode cX10_triedRefusal 11 = .ok (.ifCond .eq 6, 3) := by decide +kernel
theorem dX10_triedRefusal_14 : decode cX10_triedRefusal 14 = .ok (.iload 6, 2) := by decide +kernel
theorem dX10_triedRefusal_16 : decode cX10_triedRefusal 16 = .ok (.ireturn, 1) := by decide +kernel
theorem dX10_triedRefusal_17 : decode cX10_triedRefusal 17 = .ok (.iload 4, 2) := by decide +kernel
theorem dX10_triedRefusal_19 : decode cX10_triedRefusal 19 = .ok (.ifCond .lt 10, 3) := by decide +kernel
theorem dX10_triedRefusal_22 : decode cX10_triedRefusal 22 = .ok (.iload 4, 2) := by decide +kernel
theorem dX10_triedRefusal_24 : decode cX10_triedRefusal 24 = .ok (.iload 5, 2) := by decide +kernel
theorem dX10_triedRefusal_26 : decode cX10_triedRefusal 26 = .ok (.if_icmp .le 8, 3) := by decide +kernel
theorem dX10_triedRefusal_29 : decode cX10_triedRefusal 29 = .ok (.ldc 94, 2) := by decide +kernel
theorem dX10_triedRefusal_31 : decode cX10_triedRefusal 31 = .ok (.goto 4, 3) := by decide +kernel
theorem dX10_triedRefusal_34 : decode cX10_triedRefusal 34 = .ok (.iconst 0, 1) := by decide +kernel
theorem dX10_triedRefusal_35 : decode cX10_triedRefusal 35 = .ok (.ireturn, 1) := by decide +kernel
set_option maxRecDepth 20000 in
theorem ggX10_sendCrier_X0_start : GoodIn wsX10_sendCrier wsX0_start := goodIn_r _ [7, 8, 9, 10, 11, 12, 13, 14, 79, 80, 81, 82, 83, 84, 85, 86, 71, 72, 73, 74, 75, 76, 77, 78] (by decide +kernel) (by decide +kernel)
set_option maxRecDepth 20000 in
theorem gX10_sendCrier_X0_start : GoodIn wsX10_sendCrier (wsV RX10 240 RX0 yX0_start wsX0_start) := goodIn_app (goodIn_of _ (by decide +kernel)) ggX10_sendCrier_X0_start
set_option maxRecDepth 20000 in
theorem ggX10_sendCrier_X0_goRound : GoodIn wsX10_sendCrier wsX0_goRound := goodIn_r _ [18, 19, 20, 21, 22, 6, 23, 24, 25, 26, 27, 10, 14, 8, 11, 9, 13, 12, 28, 29, 30, 31, 32, 33, 34, 35, 36, 37, 38, 39, 40, 41, 42, 43, 44, 45, 46, 47, 48, 49, 50, 51, 52, 53, 54, 55, 56, 57, 58, 79, 80, 81, 82, 83, 84, 85, 86, 87, 88, 89, 90, 91, 92, 93, 94, 71, 72, 73, 74, 75, 76, 77, 78] (by decide +kernel) (by decide +kernel)
set_option maxRecDepth 20000 in
theorem gX10_sendCrier_X0_goRound : GoodIn wsX10_sendCrier (wsV RX10 243 RX0 yX0_goRound wsX0_goRound) := goodIn_app (goodIn_of _ (by decide +kernel)) ggX10_sendCrier_X0_goRound
theorem dX10_sendCrier_0 : decode cX10_sendCrier 0 = .ok (.aload_n 0, 1) := by decide +kernel
theorem dX10_sendCrier_1 : decode cX10_sendCrier 1 = .ok (.getfield 52, 3) := by decide +kernel
theorem dX10_sendCrier_4 : decode cX10_sendCrier 4 = .ok (.iload_n 1, 1) := by decide +kernel
theorem dX10_sendCrier_5 : decode cX10_sendCrier 5 = .ok (.iconst 0, 1) := by decide +kernel
theorem dX10_sendCrier_6 : decode cX10_sendCrier 6 = .ok (.iconst 0, 1) := by decide +kernel
theorem dX10_sendCrier_7 : decode cX10_sendCrier 7 = .ok (.invokevirtual 240, 3) := by decide +kernel
theorem dX10_sendCrier_10 : decode cX10_sendCrier 10 = .ok (.aload_n 0, 1) := by decide +kernel
theorem dX10_sendCrier_11 : decode cX10_sendCrier 11 = .ok (.getfield 52, 3) := by decide +kernel
theorem dX10_sendCrier_14 : decode cX10_sendCrier 14 = .ok (.iload_n 2, 1) := by decide +kernel
theorem dX10_sendCrier_15 : decode cX10_sendCrier 15 = .ok (.iload_n 3, 1) := by decide +kernel
theorem dX10_sendCrier_16 : decode cX10_sendCrier 16 = .ok (.invokevirtual 243, 3) := by decide +kernel
theorem dX10_sendCrier_19 : decode cX10_sendCrier 19 = .ok (.aload_n 0, 1) := by decide +kernel
theorem dX10_sendCrier_20 : decode cX10_sendCrier 20 = .ok (.getfield 29, 3) := by decide +kernel
theorem dX10_sendCrier_23 : decode cX10_sendCrier 23 = .ok (.dup, 1) := by decide +kernel
theorem dX10_sendCrier_24 : decode cX10_sendCrier 24 = .ok (.getfield 138, 3) := by decide +kernel
theorem dX10_sendCrier_27 : decode cX10_sendCrier 27 = .ok (.iconst 1, 1) := by decide +kernel
theorem dX10_sendCrier_28 : decode cX10_sendCrier 28 = .ok (.iadd, 1) := by decide +kernel
theorem dX10_sendCrier_29 : decode cX10_sendCrier 29 = .ok (.putfield 138, 3) := by decide +kernel
theorem dX10_sendCrier_32 : decode cX10_sendCrier 32 = .ok (.aload_n 0, 1) := by decide +kernel
theorem dX10_sendCrier_33 : decode cX10_sendCrier 33 = .ok (.getfield 29, 3) := by decide +kernel
theorem dX10_sendCrier_36 : decode cX10_sendCrier 36 = .ok (.aload_n 0, 1) := by decide +kernel
theorem dX10_sendCrier_37 : decode cX10_sendCrier 37 = .ok (.getfield 52, 3) := by decide +kernel
theorem dX10_sendCrier_40 : decode cX10_sendCrier 40 = .ok (.getfield 247, 3) := by decide +kernel
theorem dX10_sendCrier_43 : decode cX10_sendCrier 43 = .ok (.putfield 144, 3) := by decide +kernel
theorem dX10_sendCrier_46 : decode cX10_sendCrier 46 = .ok (.aload_n 0, 1) := by decide +kernel
theorem dX10_sendCrier_47 : decode cX10_sendCrier 47 = .ok (.getfield 29, 3) := by decide +kernel
theorem dX10_sendCrier_50 : decode cX10_sendCrier 50 = .ok (.aload_n 0, 1) := by decide +kernel
theorem dX10_sendCrier_51 : decode cX10_sendCrier 51 = .ok (.getfield 52, 3) := by decide +kernel
theorem dX10_sendCrier_54 : decode cX10_sendCrier 54 = .ok (.getfield 250, 3) := by decide +kernel
theorem dX10_sendCrier_57 : decode cX10_sendCrier 57 = .ok (.putfield 147, 3) := by decide +kernel
theorem dX10_sendCrier_60 : decode cX10_sendCrier 60 = .ok (.aload_n 0, 1) := by decide +kernel
theorem dX10_sendCrier_61 : decode cX10_sendCrier 61 = .ok (.getfield 29, 3) := by decide +kernel
theorem dX10_sendCrier_64 : decode cX10_sendCrier 64 = .ok (.aload_n 0, 1) := by decide +kernel
theorem dX10_sendCrier_65 : decode cX10_sendCrier 65 = .ok (.getfield 52, 3) := by decide +kernel
theorem dX10_sendCrier_68 : decode cX10_sendCrier 68 = .ok (.getfield 336, 3) := by decide +kernel
theorem dX10_sendCrier_71 : decode cX10_sendCrier 71 = .ok (.putfield 150, 3) := by decide +kernel
theorem dX10_sendCrier_74 : decode cX10_sendCrier 74 = .ok (.return_, 1) := by decide +kernel
set_option maxRecDepth 20000 in
theorem ggX10_driftOneMonth_X3_remember : GoodIn wsX10_driftOneMonth wsX3_remember := goodIn_r _ [9, 10, 11, 12, 13, 14, 15, 16, 17, 18, 19, 20, 21, 22, 23, 24, 25, 26, 27, 28, 29, 30, 31, 32, 127, 128, 129, 130, 131, 132, 133, 134, 135, 136, 137] (by decide +kernel) (by decide +kernel)
set_option maxRecDepth 20000 in
theorem gX10_driftOneMonth_X3_remember : GoodIn wsX10_driftOneMonth (wsV RX10 200 RX3 yX3_remember wsX3_remember) := goodIn_app (goodIn_of _ (by decide +kernel)) ggX10_driftOneMonth_X3_remember
set_option maxRecDepth 20000 in
theorem ggX10_driftOneMonth_X1_next : GoodIn wsX10_driftOneMonth wsX1_next := goodIn_r _ [37, 38, 39, 40, 41, 42, 138] (by decide +kernel) (by decide +kernel)
set_option maxRecDepth 20000 in
theorem gX10_driftOneMonth_X1_next : GoodIn wsX10_driftOneMonth (wsV RX10 337 RX1 yX1_next wsX1_next) := goodIn_app (goodIn_of _ (by decide +kernel)) ggX10_driftOneMonth_X1_next
set_option maxRecDepth 20000 in
theorem ggX10_driftOneMonth_X10_sendCrier : GoodIn wsX10_driftOneMonth wsX10_sendCrier := goodIn_r _ [46, 47, 2, 48, 49, 50, 51, 52, 53, 54, 55, 56, 57, 58, 59, 60, 61, 62, 63, 64, 65, 66, 67, 68, 69, 70, 71, 72, 73, 74, 75, 76, 77, 31, 78, 79, 80, 81, 82, 83, 84, 85, 86, 87, 88, 89, 90, 91, 92, 93, 94, 95, 96, 97, 98, 99, 100, 101, 102, 107, 108, 109, 110, 111, 112, 113, 114, 115, 116, 117, 118, 130, 131, 132, 133, 134, 135, 136, 137, 139, 140, 141, 142, 143, 144, 145, 146, 119, 120, 121, 122, 123, 124, 125, 126] (by decide +kernel) (by decide +kernel)
set_option maxRecDepth 20000 in
theorem gX10_driftOneMonth_X10_sendCrier : GoodIn wsX10_driftOneMonth (wsV RX10 204 RX10 yX10_sendCrier wsX10_sendCrier) := goodIn_app (goodIn_of _ (by decide +kernel)) ggX10_driftOneMonth_X10_sendCrier
set_option maxRecDepth 20000 in
theorem ggX10_driftOneMonth_X6_passMonth : GoodIn wsX10_driftOneMonth wsX6_passMonth := goodIn_r _ [106, 26, 23, 130, 131, 132, 133, 134, 135, 136, 137] (by decide +kernel) (by decide +kernel)
set_option maxRecDepth 20000 in
theorem gX10_driftOneMonth_X6_passMonth : GoodIn wsX10_driftOneMonth (wsV RX10 218 RX6 yX6_passMonth wsX6_passMonth) := goodIn_app (goodIn_of _ (by decide +kernel)) ggX10_driftOneMonth_X6_passMonth
theorem dX10_driftOneMonth_0 : decode cX10_driftOneMonth 0 = .ok (.aload_n 0, 1) := by decide +kernel
theorem dX10_driftOneMonth_1 : decode cX10_driftOneMonth 1 = .ok (.getfield 36, 3) := by decide +kernel
theorem dX10_driftOneMonth_4 : decode cX10_driftOneMonth 4 = .ok (.aload_n 0, 1) := by decide +kernel
theorem dX10_driftOneMonth_5 : decode cX10_driftOneMonth 5 = .ok (.getfield 29, 3) := by decide +kernel
theorem dX10_driftOneMonth_8 : decode cX10_driftOneMonth 8 = .ok (.invokevirtual 200, 3) := by decide +kernel
theorem dX10_driftOneMonth_11 : decode cX10_driftOneMonth 11 = .ok (.aload_n 0, 1) := by decide +kernel
theorem dX10_driftOneMonth_12 : decode cX10_driftOneMonth 12 = .ok (.getfield 19, 3) := by decide +kernel
theorem dX10_driftOneMonth_15 : decode cX10_driftOneMonth 15 = .ok (.getfield 126, 3) := by decide +kernel
theorem dX10_driftOneMonth_18 : decode cX10_driftOneMonth 18 = .ok (.ifCond .le 53, 3) := by decide +kernel
theorem dX10_driftOneMonth_21 : decode cX10_driftOneMonth 21 = .ok (.aload_n 0, 1) := by decide +kernel
theorem dX10_driftOneMonth_22 : decode cX10_driftOneMonth 22 = .ok (.getfield 86, 3) := by decide +kernel
theorem dX10_driftOneMonth_25 : decode cX10_driftOneMonth 25 = .ok (.sipush 256, 3) := by decide +kernel
theorem dX10_driftOneMonth_28 : decode cX10_driftOneMonth 28 = .ok (.invokevirtual 337, 3) := by decide +kernel
theorem dX10_driftOneMonth_31 : decode cX10_driftOneMonth 31 = .ok (.aload_n 0, 1) := by decide +kernel
theorem dX10_driftOneMonth_32 : decode cX10_driftOneMonth 32 = .ok (.getfield 19, 3) := by decide +kernel
theorem dX10_driftOneMonth_35 : decode cX10_driftOneMonth 35 = .ok (.getfield 129, 3) := by decide +kernel
theorem dX10_driftOneMonth_38 : decode cX10_driftOneMonth 38 = .ok (.iand, 1) := by decide +kernel
theorem dX10_driftOneMonth_39 : decode cX10_driftOneMonth 39 = .ok (.istore_n 1, 1) := by decide +kernel
theorem dX10_driftOneMonth_40 : decode cX10_driftOneMonth 40 = .ok (.aload_n 0, 1) := by decide +kernel
theorem dX10_driftOneMonth_41 : decode cX10_driftOneMonth 41 = .ok (.getfield 86, 3) := by decide +kernel
theorem dX10_driftOneMonth_44 : decode cX10_driftOneMonth 44 = .ok (.aload_n 0, 1) := by decide +kernel
theorem dX10_driftOneMonth_45 : decode cX10_driftOneMonth 45 = .ok (.getfield 19, 3) := by decide +kernel
theorem dX10_driftOneMonth_48 : decode cX10_driftOneMonth 48 = .ok (.getfield 126, 3) := by decide +kernel
theorem dX10_driftOneMonth_51 : decode cX10_driftOneMonth 51 = .ok (.invokevirtual 337, 3) := by decide +kernel
theorem dX10_driftOneMonth_54 : decode cX10_driftOneMonth 54 = .ok (.istore_n 2, 1) := by decide +kernel
theorem dX10_driftOneMonth_55 : decode cX10_driftOneMonth 55 = .ok (.aload_n 0, 1) := by decide +kernel
theorem dX10_driftOneMonth_56 : decode cX10_driftOneMonth 56 = .ok (.getfield 86, 3) := by decide +kernel
theorem dX10_driftOneMonth_59 : decode cX10_driftOneMonth 59 = .ok (.iconst 2, 1) := by decide +kernel
theorem dX10_driftOneMonth_60 : decode cX10_driftOneMonth 60 = .ok (.invokevirtual 337, 3) := by decide +kernel
theorem dX10_driftOneMonth_63 : decode cX10_driftOneMonth 63 = .ok (.istore_n 3, 1) := by decide +kernel
theorem dX10_driftOneMonth_64 : decode cX10_driftOneMonth 64 = .ok (.aload_n 0, 1) := by decide +kernel
theorem dX10_driftOneMonth_65 : decode cX10_driftOneMonth 65 = .ok (.iload_n 1, 1) := by decide +kernel
theorem dX10_driftOneMonth_66 : decode cX10_driftOneMonth 66 = .ok (.iload_n 2, 1) := by decide +kernel
theorem dX10_driftOneMonth_67 : decode cX10_driftOneMonth 67 = .ok (.iload_n 3, 1) := by decide +kernel
theorem dX10_driftOneMonth_68 : decode cX10_driftOneMonth 68 = .ok (.invokevirtual 204, 3) := by decide +kernel
theorem dX10_driftOneMonth_71 : decode cX10_driftOneMonth 71 = .ok (.aload_n 0, 1) := by decide +kernel
theorem dX10_driftOneMonth_72 : decode cX10_driftOneMonth 72 = .ok (.getfield 29, 3) := by decide +kernel
theorem dX10_driftOneMonth_75 : decode cX10_driftOneMonth 75 = .ok (.invokevirtual 218, 3) := by decide +kernel
theorem dX10_driftOneMonth_78 : decode cX10_driftOneMonth 78 = .ok (.return_, 1) := by decide +kernel
theorem dX10_imageOf_0 : decode cX10_imageOf 0 = .ok (.iload_n 1, 1) := by decide +kernel
theorem dX10_imageOf_1 : decode cX10_imageOf 1 = .ok (.ifCond .lt 21, 3) := by decide +kernel
theorem dX10_imageOf_4 : decode cX10_imageOf 4 = .ok (.iload_n 1, 1) := by decide +kernel
theorem dX10_imageOf_5 : decode cX10_imageOf 5 = .ok (.aload_n 0, 1) := by decide +kernel
theorem dX10_imageOf_6 : decode cX10_imageOf 6 = .ok (.getfield 43, 3) := by decide +kernel
theorem dX10_imageOf_9 : decode cX10_imageOf 9 = .ok (.arraylength, 1) := by decide +kernel
theorem dX10_imageOf_10 : decode cX10_imageOf 10 = .ok (.if_icmp .ge 12, 3) := by decide +kernel
theorem dX10_imageOf_13 : decode cX10_imageOf 13 = .ok (.aload_n 0, 1) := by decide +kernel
theorem dX10_imageOf_14 : decode cX10_imageOf 14 = .ok (.getfield 43, 3) := by decide +kernel
theorem dX10_imageOf_17 : decode cX10_imageOf 17 = .ok (.iload_n 1, 1) := by decide +kernel
theorem dX10_imageOf_18 : decode cX10_imageOf 18 = .ok (.aaload, 1) := by decide +kernel
theorem dX10_imageOf_19 : decode cX10_imageOf 19 = .ok (.goto 4, 3) := by decide +kernel
theorem dX10_imageOf_22 : decode cX10_imageOf 22 = .ok (.aconst_null, 1) := by decide +kernel
theorem dX10_imageOf_23 : decode cX10_imageOf 23 = .ok (.areturn, 1) := by decide +kernel
theorem dX10_forgetImages_0 : decode cX10_forgetImages 0 = .ok (.iconst 0, 1) := by decide +kernel
theorem dX10_forgetImages_1 : decode cX10_forgetImages 1 = .ok (.istore_n 1, 1) := by decide +kernel
theorem dX10_forgetImages_2 : decode cX10_forgetImages 2 = .ok (.iload_n 1, 1) := by decide +kernel
theorem dX10_forgetImages_3 : decode cX10_forgetImages 3 = .ok (.aload_n 0, 1) := by decide +kernel
theorem dX10_forgetImages_4 : decode cX10_forgetImages 4 = .ok (.getfield 43, 3) := by decide +kernel
theorem dX10_forgetImages_7 : decode cX10_forgetImages 7 = .ok (.arraylength, 1) := by decide +kernel
theorem dX10_forgetImages_8 : decode cX10_forgetImages 8 = .ok (.if_icmp .ge 25, 3) := by decide +kernel
theorem dX10_forgetImages_11 : decode cX10_forgetImages 11 = .ok (.aload_n 0, 1) := by decide +kernel
theorem dX10_forgetImages_12 : decode cX10_forgetImages 12 = .ok (.getfield 43, 3) := by decide +kernel
theorem dX10_forgetImages_15 : decode cX10_forgetImages 15 = .ok (.iload_n 1, 1) := by decide +kernel
theorem dX10_forgetImages_16 : decode cX10_forgetImages 16 = .ok (.aaload, 1) := by decide +kernel
theorem dX10_forgetImages_17 : decode cX10_forgetImages 17 = .ok (.astore_n 2, 1) := by decide +kernel
theorem dX10_forgetImages_18 : decode cX10_forgetImages 18 = .ok (.aload_n 2, 1) := by decide +kernel
theorem dX10_forgetImages_19 : decode cX10_forgetImages 19 = .ok (.ifnull 8, 3) := by decide +kernel
theorem dX10_forgetImages_22 : decode cX10_forgetImages 22 = .ok (.aload_n 2, 1) := by decide +kernel
theorem dX10_forgetImages_23 : decode cX10_forgetImages 23 = .ok (.iconst 0, 1) := by decide +kernel
theorem dX10_forgetImages_24 : decode cX10_forgetImages 24 = .ok (.putfield 324, 3) := by decide +kernel
theorem dX10_forgetImages_27 : decode cX10_forgetImages 27 = .ok (.iinc 1 1, 3) := by decide +kernel
theorem dX10_forgetImages_30 : decode cX10_forgetImages 30 = .ok (.goto (-28), 3) := by decide +kernel
theorem dX10_forgetImages_33 : decode cX10_forgetImages 33 = .ok (.return_, 1) := by decide +kernel
theorem dX10_at_0 : decode cX10_at 0 = .ok (.iload_n 1, 1) := by decide +kernel
theorem dX10_at_1 : decode cX10_at 1 = .ok (.ifCond .lt 15, 3) := by decide +kernel
theorem dX10_at_4 : decode cX10_at 4 = .ok (.iload_n 1, 1) := by decide +kernel
theorem dX10_at_5 : decode cX10_at 5 = .ok (.aload_n 0, 1) := by decide +kernel
theorem dX10_at_6 : decode cX10_at 6 = .ok (.arraylength, 1) := by decide +kernel
theorem dX10_at_7 : decode cX10_at 7 = .ok (.if_icmp .ge 9, 3) := by decide +kernel
theorem dX10_at_10 : decode cX10_at 10 = .ok (.aload_n 0, 1) := by decide +kernel
theorem dX10_at_11 : decode cX10_at 11 = .ok (.iload_n 1, 1) := by decide +kernel
theorem dX10_at_12 : decode cX10_at 12 = .ok (.iaload, 1) := by decide +kernel
theorem dX10_at_13 : decode cX10_at 13 = .ok (.goto 4, 3) := by decide +kernel
theorem dX10_at_16 : decode cX10_at 16 = .ok (.iconst 0, 1) := by decide +kernel
theorem dX10_at_17 : decode cX10_at 17 = .ok (.ireturn, 1) := by decide +kernel
theorem dX10_put_0 : decode cX10_put 0 = .ok (.iload_n 1, 1) := by decide +kernel
theorem dX10_put_1 : decode cX10_put 1 = .ok (.ifCond .lt 13, 3) := by decide +kernel
theorem dX10_put_4 : decode cX10_put 4 = .ok (.iload_n 1, 1) := by decide +kernel
theorem dX10_put_5 : decode cX10_put 5 = .ok (.aload_n 0, 1) := by decide +kernel
theorem dX10_put_6 : decode cX10_put 6 = .ok (.arraylength, 1) := by decide +kernel
theorem dX10_put_7 : decode cX10_put 7 = .ok (.if_icmp .ge 7, 3) := by decide +kernel
theorem dX10_put_10 : decode cX10_put 10 = .ok (.aload_n 0, 1) := by decide +kernel
theorem dX10_put_11 : decode cX10_put 11 = .ok (.iload_n 1, 1) := by decide +kernel
theorem dX10_put_12 : decode cX10_put 12 = .ok (.iload_n 2, 1) := by decide +kernel
theorem dX10_put_13 : decode cX10_put 13 = .ok (.iastore, 1) := by decide +kernel
theorem dX10_put_14 : decode cX10_put 14 = .ok (.return_, 1) := by decide +kernel
theorem dX10_copyRow_0 : decode cX10_copyRow 0 = .ok (.iconst 0, 1) := by decide +kernel
theorem dX10_copyRow_1 : decode cX10_copyRow 1 = .ok (.istore_n 2, 1) := by decide +kernel
theorem dX10_copyRow_2 : decode cX10_copyRow 2 = .ok (.iload_n 2, 1) := by decide +kernel
theorem dX10_copyRow_3 : decode cX10_copyRow 3 = .ok (.aload_n 0, 1) := by decide +kernel
theorem dX10_copyRow_4 : decode cX10_copyRow 4 = .ok (.arraylength, 1) := by decide +kernel
theorem dX10_copyRow_5 : decode cX10_copyRow 5 = .ok (.if_icmp .ge 21, 3) := by decide +kernel
theorem dX10_copyRow_8 : decode cX10_copyRow 8 = .ok (.iload_n 2, 1) := by decide +kernel
theorem dX10_copyRow_9 : decode cX10_copyRow 9 = .ok (.aload_n 1, 1) := by decide +kernel
theorem dX10_copyRow_10 : decode cX10_copyRow 10 = .ok (.arraylength, 1) := by decide +kernel
theorem dX10_copyRow_11 : decode cX10_copyRow 11 = .ok (.if_icmp .ge 15, 3) := by decide +kernel
theorem dX10_copyRow_14 : decode cX10_copyRow 14 = .ok (.aload_n 1, 1) := by decide +kernel
theorem dX10_copyRow_15 : decode cX10_copyRow 15 = .ok (.iload_n 2, 1) := by decide +kernel
theorem dX10_copyRow_16 : decode cX10_copyRow 16 = .ok (.aload_n 0, 1) := by decide +kernel
theorem dX10_copyRow_17 : decode cX10_copyRow 17 = .ok (.iload_n 2, 1) := by decide +kernel
theorem dX10_copyRow_18 : decode cX10_copyRow 18 = .ok (.iaload, 1) := by decide +kernel
theorem dX10_copyRow_19 : decode cX10_copyRow 19 = .ok (.iastore, 1) := by decide +kernel
theorem dX10_copyRow_20 : decode cX10_copyRow 20 = .ok (.iinc 2 1, 3) := by decide +kernel
theorem dX10_copyRow_23 : decode cX10_copyRow 23 = .ok (.goto (-21), 3) := by decide +kernel
theorem dX10_copyRow_26 : decode cX10_copyRow 26 = .ok (.return_, 1) := by decide +kernel
