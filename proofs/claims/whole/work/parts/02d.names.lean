theorem dX10_bit_0 : decode cX10_bit 0 = .ok (.iload_n 0, 1) := by decide +kernel
theorem dX10_bit_1 : decode cX10_bit 1 = .ok (.iload_n 1, 1) := by decide +kernel
theorem dX10_bit_2 : decode cX10_bit 2 = .ok (.ishr, 1) := by decide +kernel
theorem dX10_bit_3 : decode cX10_bit 3 = .ok (.iconst 1, 1) := by decide +kernel
theorem dX10_bit_4 : decode cX10_bit 4 = .ok (.iand, 1) := by decide +kernel
theorem dX10_bit_5 : decode cX10_bit 5 = .ok (.ireturn, 1) := by decide +kernel
theorem dX10_has_0 : decode cX10_has 0 = .ok (.iload_n 0, 1) := by decide +kernel
theorem dX10_has_1 : decode cX10_has 1 = .ok (.iload_n 1, 1) := by decide +kernel
theorem dX10_has_2 : decode cX10_has 2 = .ok (.ishr, 1) := by decide +kernel
theorem dX10_has_3 : decode cX10_has 3 = .ok (.iconst 1, 1) := by decide +kernel
theorem dX10_has_4 : decode cX10_has 4 = .ok (.iand, 1) := by decide +kernel
theorem dX10_has_5 : decode cX10_has 5 = .ok (.iconst 1, 1) := by decide +kernel
theorem dX10_has_6 : decode cX10_has 6 = .ok (.if_icmp .ne 7, 3) := by decide +kernel
theorem dX10_has_9 : decode cX10_has 9 = .ok (.iconst 1, 1) := by decide +kernel
theorem dX10_has_10 : decode cX10_has 10 = .ok (.goto 4, 3) := by decide +kernel
theorem dX10_has_13 : decode cX10_has 13 = .ok (.iconst 0, 1) := by decide +kernel
theorem dX10_has_14 : decode cX10_has 14 = .ok (.ireturn, 1) := by decide +kernel
theorem dX10_withBit_0 : decode cX10_withBit 0 = .ok (.iload_n 2, 1) := by decide +kernel
theorem dX10_withBit_1 : decode cX10_withBit 1 = .ok (.ifCond .eq 11, 3) := by decide +kernel
theorem dX10_withBit_4 : decode cX10_withBit 4 = .ok (.iload_n 0, 1) := by decide +kernel
theorem dX10_withBit_5 : decode cX10_withBit 5 = .ok (.iconst 1, 1) := by decide +kernel
theorem dX10_withBit_6 : decode cX10_withBit 6 = .ok (.iload_n 1, 1) := by decide +kernel
theorem dX10_withBit_7 : decode cX10_withBit 7 = .ok (.ishl, 1) := by decide +kernel
theorem dX10_withBit_8 : decode cX10_withBit 8 = .ok (.ior, 1) := by decide +kernel
theorem dX10_withBit_9 : decode cX10_withBit 9 = .ok (.goto 10, 3) := by decide +kernel
theorem dX10_withBit_12 : decode cX10_withBit 12 = .ok (.iload_n 0, 1) := by decide +kernel
theorem dX10_withBit_13 : decode cX10_withBit 13 = .ok (.iconst 1, 1) := by decide +kernel
theorem dX10_withBit_14 : decode cX10_withBit 14 = .ok (.iload_n 1, 1) := by decide +kernel
theorem dX10_withBit_15 : decode cX10_withBit 15 = .ok (.ishl, 1) := by decide +kernel
theorem dX10_withBit_16 : decode cX10_withBit 16 = .ok (.iconst (-1), 1) := by decide +kernel
theorem dX10_withBit_17 : decode cX10_withBit 17 = .ok (.ixor, 1) := by decide +kernel
theorem dX10_withBit_18 : decode cX10_withBit 18 = .ok (.iand, 1) := by decide +kernel
theorem dX10_withBit_19 : decode cX10_withBit 19 = .ok (.ireturn, 1) := by decide +kernel
theorem dX10_setOfOne_0 : decode cX10_setOfOne 0 = .ok (.iload_n 0, 1) := by decide +kernel
theorem dX10_setOfOne_1 : decode cX10_setOfOne 1 = .ok (.ifCond .ge 7, 3) := by decide +kernel
theorem dX10_setOfOne_4 : decode cX10_setOfOne 4 = .ok (.iconst 0, 1) := by decide +kernel
theorem dX10_setOfOne_5 : decode cX10_setOfOne 5 = .ok (.goto 6, 3) := by decide +kernel
theorem dX10_setOfOne_8 : decode cX10_setOfOne 8 = .ok (.iconst 1, 1) := by decide +kernel
theorem dX10_setOfOne_9 : decode cX10_setOfOne 9 = .ok (.iload_n 0, 1) := by decide +kernel
theorem dX10_setOfOne_10 : decode cX10_setOfOne 10 = .ok (.ishl, 1) := by decide +kernel
theorem dX10_setOfOne_11 : decode cX10_setOfOne 11 = .ok (.ireturn, 1) := by decide +kernel
theorem dX10_firstOf_0 : decode cX10_firstOf 0 = .ok (.iconst 1, 1) := by decide +kernel
theorem dX10_firstOf_1 : decode cX10_firstOf 1 = .ok (.iload_n 0, 1) := by decide +kernel
theorem dX10_firstOf_2 : decode cX10_firstOf 2 = .ok (.ishl, 1) := by decide +kernel
theorem dX10_firstOf_3 : decode cX10_firstOf 3 = .ok (.iconst 1, 1) := by decide +kernel
theorem dX10_firstOf_4 : decode cX10_firstOf 4 = .ok (.isub, 1) := by decide +kernel
theorem dX10_firstOf_5 : decode cX10_firstOf 5 = .ok (.ireturn, 1) := by decide +kernel
theorem dX11_init_0 : decode cX11_init 0 = .ok (.aload_n 0, 1) := by decide +kernel
theorem dX11_init_1 : decode cX11_init 1 = .ok (.invokespecial 1, 3) := by decide +kernel
theorem dX11_init_4 : decode cX11_init 4 = .ok (.aload_n 0, 1) := by decide +kernel
theorem dX11_init_5 : decode cX11_init 5 = .ok (.sipush 578, 3) := by decide +kernel
theorem dX11_init_8 : decode cX11_init 8 = .ok (.newarray .int, 2) := by decide +kernel
theorem dX11_init_10 : decode cX11_init 10 = .ok (.putfield 7, 3) := by decide +kernel
theorem dX11_init_13 : decode cX11_init 13 = .ok (.aload_n 0, 1) := by decide +kernel
theorem dX11_init_14 : decode cX11_init 14 = .ok (.iconst 2, 1) := by decide +kernel
theorem dX11_init_15 : decode cX11_init 15 = .ok (.newarray .boolean, 2) := by decide +kernel
theorem dX11_init_17 : decode cX11_init 17 = .ok (.putfield 13, 3) := by decide +kernel
theorem dX11_init_20 : decode cX11_init 20 = .ok (.aload_n 0, 1) := by decide +kernel
theorem dX11_init_21 : decode cX11_init 21 = .ok (.bipush 16, 2) := by decide +kernel
theorem dX11_init_23 : decode cX11_init 23 = .ok (.newarray .int, 2) := by decide +kernel
theorem dX11_init_25 : decode cX11_init 25 = .ok (.putfield 17, 3) := by decide +kernel
theorem dX11_init_28 : decode cX11_init 28 = .ok (.aload_n 0, 1) := by decide +kernel
theorem dX11_init_29 : decode cX11_init 29 = .ok (.bipush 16, 2) := by decide +kernel
theorem dX11_init_31 : decode cX11_init 31 = .ok (.newarray .int, 2) := by decide +kernel
theorem dX11_init_33 : decode cX11_init 33 = .ok (.putfield 20, 3) := by decide +kernel
theorem dX11_init_36 : decode cX11_init 36 = .ok (.aload_n 0, 1) := by decide +kernel
theorem dX11_init_37 : decode cX11_init 37 = .ok (.bipush 18, 2) := by decide +kernel
theorem dX11_init_39 : decode cX11_init 39 = .ok (.newarray .int, 2) := by decide +kernel
theorem dX11_init_41 : decode cX11_init 41 = .ok (.putfield 23, 3) := by decide +kernel
theorem dX11_init_44 : decode cX11_init 44 = .ok (.aload_n 0, 1) := by decide +kernel
theorem dX11_init_45 : decode cX11_init 45 = .ok (.bipush 18, 2) := by decide +kernel
theorem dX11_init_47 : decode cX11_init 47 = .ok (.newarray .int, 2) := by decide +kernel
theorem dX11_init_49 : decode cX11_init 49 = .ok (.putfield 26, 3) := by decide +kernel
theorem dX11_init_52 : decode cX11_init 52 = .ok (.aload_n 0, 1) := by decide +kernel
theorem dX11_init_53 : decode cX11_init 53 = .ok (.bipush 18, 2) := by decide +kernel
theorem dX11_init_55 : decode cX11_init 55 = .ok (.newarray .int, 2) := by decide +kernel
theorem dX11_init_57 : decode cX11_init 57 = .ok (.putfield 29, 3) := by decide +kernel
theorem dX11_init_60 : decode cX11_init 60 = .ok (.aload_n 0, 1) := by decide +kernel
theorem dX11_init_61 : decode cX11_init 61 = .ok (.sipush 230, 3) := by decide +kernel
theorem dX11_init_64 : decode cX11_init 64 = .ok (.newarray .int, 2) := by decide +kernel
theorem dX11_init_66 : decode cX11_init 66 = .ok (.putfield 32, 3) := by decide +kernel
theorem dX11_init_69 : decode cX11_init 69 = .ok (.aload_n 0, 1) := by decide +kernel
theorem dX11_init_70 : decode cX11_init 70 = .ok (.iconst (-1), 1) := by decide +kernel
theorem dX11_init_71 : decode cX11_init 71 = .ok (.putfield 35, 3) := by decide +kernel
theorem dX11_init_74 : decode cX11_init 74 = .ok (.aload_n 0, 1) := by decide +kernel
theorem dX11_init_75 : decode cX11_init 75 = .ok (.bipush 6, 2) := by decide +kernel
theorem dX11_init_77 : decode cX11_init 77 = .ok (.newarray .int, 2) := by decide +kernel
theorem dX11_init_79 : decode cX11_init 79 = .ok (.putfield 39, 3) := by decide +kernel
theorem dX11_init_82 : decode cX11_init 82 = .ok (.aload_n 0, 1) := by decide +kernel
theorem dX11_init_83 : decode cX11_init 83 = .ok (.bipush 6, 2) := by decide +kernel
theorem dX11_init_85 : decode cX11_init 85 = .ok (.newarray .int, 2) := by decide +kernel
theorem dX11_init_87 : decode cX11_init 87 = .ok (.putfield 42, 3) := by decide +kernel
theorem dX11_init_90 : decode cX11_init 90 = .ok (.aload_n 0, 1) := by decide +kernel
theorem dX11_init_91 : decode cX11_init 91 = .ok (.bipush 6, 2) := by decide +kernel
theorem dX11_init_93 : decode cX11_init 93 = .ok (.newarray .int, 2) := by decide +kernel
theorem dX11_init_95 : decode cX11_init 95 = .ok (.putfield 45, 3) := by decide +kernel
theorem dX11_init_98 : decode cX11_init 98 = .ok (.aload_n 0, 1) := by decide +kernel
theorem dX11_init_99 : decode cX11_init 99 = .ok (.bipush 9, 2) := by decide +kernel
theorem dX11_init_101 : decode cX11_init 101 = .ok (.newarray .int, 2) := by decide +kernel
theorem dX11_init_103 : decode cX11_init 103 = .ok (.putfield 48, 3) := by decide +kernel
theorem dX11_init_106 : decode cX11_init 106 = .ok (.aload_n 0, 1) := by decide +kernel
theorem dX11_init_107 : decode cX11_init 107 = .ok (.bipush 20, 2) := by decide +kernel
theorem dX11_init_109 : decode cX11_init 109 = .ok (.newarray .int, 2) := by decide +kernel
theorem dX11_init_111 : decode cX11_init 111 = .ok (.putfield 51, 3) := by decide +kernel
theorem dX11_init_114 : decode cX11_init 114 = .ok (.aload_n 0, 1) := by decide +kernel
theorem dX11_init_115 : decode cX11_init 115 = .ok (.getfield 7, 3) := by decide +kernel
theorem dX11_init_118 : decode cX11_init 118 = .ok (.bipush 14, 2) := by decide +kernel
theorem dX11_init_120 : decode cX11_init 120 = .ok (.iconst (-1), 1) := by decide +kernel
theorem dX11_init_121 : decode cX11_init 121 = .ok (.iastore, 1) := by decide +kernel
theorem dX11_init_122 : decode cX11_init 122 = .ok (.return_, 1) := by decide +kernel
theorem dX11_in_0 : decode cX11_in 0 = .ok (.lload_n 0, 1) := by decide +kernel
theorem dX11_in_1 : decode cX11_in 1 = .ok (.lload_n 2, 1) := by decide +kernel
theorem dX11_in_2 : decode cX11_in 2 = .ok (.lcmp, 1) := by decide +kernel
theorem dX11_in_3 : decode cX11_in 3 = .ok (.ifCond .lt 14, 3) := by decide +kernel
theorem dX11_in_6 : decode cX11_in 6 = .ok (.lload_n 0, 1) := by decide +kernel
theorem dX11_in_7 : decode cX11_in 7 = .ok (.lload 4, 2) := by decide +kernel
theorem dX11_in_9 : decode cX11_in 9 = .ok (.lcmp, 1) := by decide +kernel
theorem dX11_in_10 : decode cX11_in 10 = .ok (.ifCond .gt 7, 3) := by decide +kernel
theorem dX11_in_13 : decode cX11_in 13 = .ok (.iconst 1, 1) := by decide +kernel
theorem dX11_in_14 : decode cX11_in 14 = .ok (.goto 4, 3) := by decide +kernel
theorem dX11_in_17 : decode cX11_in 17 = .ok (.iconst 0, 1) := by decide +kernel
theorem dX11_in_18 : decode cX11_in 18 = .ok (.ireturn, 1) := by decide +kernel
theorem dX11_one_0 : decode cX11_one 0 = .ok (.iload_n 0, 1) := by decide +kernel
theorem dX11_one_1 : decode cX11_one 1 = .ok (.ifCond .eq 7, 3) := by decide +kernel
theorem dX11_one_4 : decode cX11_one 4 = .ok (.iconst 1, 1) := by decide +kernel
theorem dX11_one_5 : decode cX11_one 5 = .ok (.goto 4, 3) := by decide +kernel
theorem dX11_one_8 : decode cX11_one 8 = .ok (.iconst 0, 1) := by decide +kernel
theorem dX11_one_9 : decode cX11_one 9 = .ok (.ireturn, 1) := by decide +kernel
theorem dX11_has_0 : decode cX11_has 0 = .ok (.iload_n 0, 1) := by decide +kernel
theorem dX11_has_1 : decode cX11_has 1 = .ok (.iload_n 1, 1) := by decide +kernel
theorem dX11_has_2 : decode cX11_has 2 = .ok (.ishr, 1) := by decide +kernel
theorem dX11_has_3 : decode cX11_has 3 = .ok (.iconst 1, 1) := by decide +kernel
theorem dX11_has_4 : decode cX11_has 4 = .ok (.iand, 1) := by decide +kernel
theorem dX11_has_5 : decode cX11_has 5 = .ok (.iconst 1, 1) := by decide +kernel
theorem dX11_has_6 : decode cX11_has 6 = .ok (.if_icmp .ne 7, 3) := by decide +kernel
theorem dX11_has_9 : decode cX11_has 9 = .ok (.iconst 1, 1) := by decide +kernel
theorem dX11_has_10 : decode cX11_has 10 = .ok (.goto 4, 3) := by decide +kernel
theorem dX11_has_13 : decode cX11_has 13 = .ok (.iconst 0, 1) := by decide +kernel
theorem dX11_has_14 : decode cX11_has 14 = .ok (.ireturn, 1) := by decide +kernel
theorem dX11_ones_0 : decode cX11_ones 0 = .ok (.iconst 0, 1) := by decide +kernel
theorem dX11_ones_1 : decode cX11_ones 1 = .ok (.istore_n 1, 1) := by decide +kernel
theorem dX11_ones_2 : decode cX11_ones 2 = .ok (.iconst 0, 1) := by decide +kernel
theorem dX11_ones_3 : decode cX11_ones 3 = .ok (.istore_n 2, 1) := by decide +kernel
theorem dX11_ones_4 : decode cX11_ones 4 = .ok (.iload_n 2, 1) := by decide +kernel
theorem dX11_ones_5 : decode cX11_ones 5 = .ok (.bipush 9, 2) := by decide +kernel
theorem dX11_ones_7 : decode cX11_ones 7 = .ok (.if_icmp .ge 17, 3) := by decide +kernel
theorem dX11_ones_10 : decode cX11_ones 10 = .ok (.iload_n 1, 1) := by decide +kernel
theorem dX11_ones_11 : decode cX11_ones 11 = .ok (.iload_n 0, 1) := by decide +kernel
theorem dX11_ones_12 : decode cX11_ones 12 = .ok (.iload_n 2, 1) := by decide +kernel
theorem dX11_ones_13 : decode cX11_ones 13 = .ok (.ishr, 1) := by decide +kernel
theorem dX11_ones_14 : decode cX11_ones 14 = .ok (.iconst 1, 1) := by decide +kernel
theorem dX11_ones_15 : decode cX11_ones 15 = .ok (.iand, 1) := by decide +kernel
theorem dX11_ones_16 : decode cX11_ones 16 = .ok (.iadd, 1) := by decide +kernel
theorem dX11_ones_17 : decode cX11_ones 17 = .ok (.istore_n 1, 1) := by decide +kernel
theorem dX11_ones_18 : decode cX11_ones 18 = .ok (.iinc 2 1, 3) := by decide +kernel
theorem dX11_ones_21 : decode cX11_ones 21 = .ok (.goto (-17), 3) := by decide +kernel
theorem dX11_ones_24 : decode cX11_ones 24 = .ok (.iload_n 1, 1) := by decide +kernel
theorem dX11_ones_25 : decode cX11_ones 25 = .ok (.ireturn, 1) := by decide +kernel
set_option maxRecDepth 20000 in
theorem ggX11_least_X11_has : GoodIn wsX11_least wsX11_has := goodIn_r _ [4] (by decide +kernel) (by decide +kernel)
set_option maxRecDepth 20000 in
theorem gX11_least_X11_has : GoodIn wsX11_least (va_wsS RX11 54 yX11_has wsX11_has) := goodIn_app (goodIn_of _ (by decide +kernel)) ggX11_least_X11_has
theorem dX11_least_0 : decode cX11_least 0 = .ok (.iconst 0, 1) := by decide +kernel
theorem dX11_least_1 : decode cX11_least 1 = .ok (.istore_n 1, 1) := by decide +kernel
theorem dX11_least_2 : decode cX11_least 2 = .ok (.iload_n 0, 1) := by decide +kernel
theorem dX11_least_3 : decode cX11_least 3 = .ok (.iload_n 1, 1) := by decide +kernel
theorem dX11_least_4 : decode cX11_least 4 = .ok (.invokestatic 54, 3) := by decide +kernel
theorem dX11_least_7 : decode cX11_least 7 = .ok (.ifCond .ne 9, 3) := by decide +kernel
theorem dX11_least_10 : decode cX11_least 10 = .ok (.iinc 1 1, 3) := by decide +kernel
theorem dX11_least_13 : decode cX11_least 13 = .ok (.goto (-11), 3) := by decide +kernel
theorem dX11_least_16 : decode cX11_least 16 = .ok (.iload_n 1, 1) := by decide +kernel
theorem dX11_least_17 : decode cX11_least 17 = .ok (.ireturn, 1) := by decide +kernel
set_option maxRecDepth 20000 in
theorem ggX11_feed_X11_in : GoodIn wsX11_feed wsX11_in := goodIn_r _ [9] (by decide +kernel) (by decide +kernel)
set_option maxRecDepth 20000 in
theorem gX11_feed_X11_in : GoodIn wsX11_feed (va_wsS RX11 60 yX11_in wsX11_in) := goodIn_app (goodIn_of _ (by decide +kernel)) ggX11_feed_X11_in
theorem dX11_feed_0 : decode cX11_feed 0 = .ok (.iload_n 1, 1) := by decide +kernel
theorem dX11_feed_1 : decode cX11_feed 1 = .ok (.i2l, 1) := by decide +kernel
theorem dX11_feed_2 : decode cX11_feed 2 = .ok (.lconst 0, 1) := by decide +kernel
theorem dX11_feed_3 : decode cX11_feed 3 = .ok (.ldc2_w 58, 3) := by decide +kernel
theorem dX11_feed_6 : decode cX11_feed 6 = .ok (.invokestatic 60, 3) := by decide +kernel
theorem dX11_feed_9 : decode cX11_feed 9 = .ok (.ifCond .ne 6, 3) := by decide +kernel
theorem dX11_feed_12 : decode cX11_feed 12 = .ok (.ldc 64, 2) := by decide +kernel
theorem dX11_feed_14 : decode cX11_feed 14 = .ok (.ireturn, 1) := by decide +kernel
theorem dX11_feed_15 : decode cX11_feed 15 = .ok (.aload_n 0, 1) := by decide +kernel
theorem dX11_feed_16 : decode cX11_feed 16 = .ok (.getfield 65, 3) := by decide +kernel
theorem dX11_feed_19 : decode cX11_feed 19 = .ok (.sipush 230, 3) := by decide +kernel
theorem dX11_feed_22 : decode cX11_feed 22 = .ok (.if_icmp .ne 6, 3) := by decide +kernel
theorem dX11_feed_25 : decode cX11_feed 25 = .ok (.ldc 68, 2) := by decide +kernel
theorem dX11_feed_27 : decode cX11_feed 27 = .ok (.ireturn, 1) := by decide +kernel
theorem dX11_feed_28 : decode cX11_feed 28 = .ok (.aload_n 0, 1) := by decide +kernel
theorem dX11_feed_29 : decode cX11_feed 29 = .ok (.getfield 32, 3) := by decide +kernel
theorem dX11_feed_32 : decode cX11_feed 32 = .ok (.aload_n 0, 1) := by decide +kernel
theorem dX11_feed_33 : decode cX11_feed 33 = .ok (.getfield 65, 3) := by decide +kernel
theorem dX11_feed_36 : decode cX11_feed 36 = .ok (.iload_n 1, 1) := by decide +kernel
theorem dX11_feed_37 : decode cX11_feed 37 = .ok (.iastore, 1) := by decide +kernel
theorem dX11_feed_38 : decode cX11_feed 38 = .ok (.aload_n 0, 1) := by decide +kernel
theorem dX11_feed_39 : decode cX11_feed 39 = .ok (.dup, 1) := by decide +kernel
theorem dX11_feed_40 : decode cX11_feed 40 = .ok (.getfield 65, 3) := by decide +kernel
theorem dX11_feed_43 : decode cX11_feed 43 = .ok (.iconst 1, 1) := by decide +kernel
theorem dX11_feed_44 : decode cX11_feed 44 = .ok (.iadd, 1) := by decide +kernel
theorem dX11_feed_45 : decode cX11_feed 45 = .ok (.putfield 65, 3) := by decide +kernel
theorem dX11_feed_48 : decode cX11_feed 48 = .ok (.aload_n 0, 1) := by decide +kernel
theorem dX11_feed_49 : decode cX11_feed 49 = .ok (.getfield 65, 3) := by decide +kernel
theorem dX11_feed_52 : decode cX11_feed 52 = .ok (.ireturn, 1) := by decide +kernel
theorem dX11_here_0 : decode cX11_here 0 = .ok (.aload_n 0, 1) := by decide +kernel
theorem dX11_here_1 : decode cX11_here 1 = .ok (.getfield 69, 3) := by decide +kernel
theorem dX11_here_4 : decode cX11_here 4 = .ok (.aload_n 0, 1) := by decide +kernel
theorem dX11_here_5 : decode cX11_here 5 = .ok (.getfield 65, 3) := by decide +kernel
theorem dX11_here_8 : decode cX11_here 8 = .ok (.if_icmp .ge 30, 3) := by decide +kernel
theorem dX11_here_11 : decode cX11_here 11 = .ok (.aload_n 0, 1) := by decide +kernel
theorem dX11_here_12 : decode cX11_here 12 = .ok (.getfield 32, 3) := by decide +kernel
theorem dX11_here_15 : decode cX11_here 15 = .ok (.aload_n 0, 1) := by decide +kernel
theorem dX11_here_16 : decode cX11_here 16 = .ok (.getfield 69, 3) := by decide +kernel
theorem dX11_here_19 : decode cX11_here 19 = .ok (.iaload, 1) := by decide +kernel
theorem dX11_here_20 : decode cX11_here 20 = .ok (.bipush 32, 2) := by decide +kernel
theorem dX11_here_22 : decode cX11_here 22 = .ok (.if_icmp .ne 16, 3) := by decide +kernel
theorem dX11_here_25 : decode cX11_here 25 = .ok (.aload_n 0, 1) := by decide +kernel
theorem dX11_here_26 : decode cX11_here 26 = .ok (.dup, 1) := by decide +kernel
theorem dX11_here_27 : decode cX11_here 27 = .ok (.getfield 69, 3) := by decide +kernel
theorem dX11_here_30 : decode cX11_here 30 = .ok (.iconst 1, 1) := by decide +kernel
theorem dX11_here_31 : decode cX11_here 31 = .ok (.iadd, 1) := by decide +kernel
theorem dX11_here_32 : decode cX11_here 32 = .ok (.putfield 69, 3) := by decide +kernel
theorem dX11_here_35 : decode cX11_here 35 = .ok (.goto (-35), 3) := by decide +kernel
theorem dX11_here_38 : decode cX11_here 38 = .ok (.aload_n 0, 1) := by decide +kernel
theorem dX11_here_39 : decode cX11_here 39 = .ok (.getfield 69, 3) := by decide +kernel
theorem dX11_here_42 : decode cX11_here 42 = .ok (.aload_n 0, 1) := by decide +kernel
theorem dX11_here_43 : decode cX11_here 43 = .ok (.getfield 65, 3) := by decide +kernel
theorem dX11_here_46 : decode cX11_here 46 = .ok (.if_icmp .ge 15, 3) := by decide +kernel
theorem dX11_here_49 : decode cX11_here 49 = .ok (.aload_n 0, 1) := by decide +kernel
theorem dX11_here_50 : decode cX11_here 50 = .ok (.getfield 32, 3) := by decide +kernel
theorem dX11_here_53 : decode cX11_here 53 = .ok (.aload_n 0, 1) := by decide +kernel
theorem dX11_here_54 : decode cX11_here 54 = .ok (.getfield 69, 3) := by decide +kernel
theorem dX11_here_57 : decode cX11_here 57 = .ok (.iaload, 1) := by decide +kernel
theorem dX11_here_58 : decode cX11_here 58 = .ok (.goto 4, 3) := by decide +kernel
theorem dX11_here_61 : decode cX11_here 61 = .ok (.iconst (-1), 1) := by decide +kernel
theorem dX11_here_62 : decode cX11_here 62 = .ok (.ireturn, 1) := by decide +kernel
theorem dX11_want_0 : decode cX11_want 0 = .ok (.iload_n 1, 1) := by decide +kernel
theorem dX11_want_1 : decode cX11_want 1 = .ok (.ifCond .ne 20, 3) := by decide +kernel
theorem dX11_want_4 : decode cX11_want 4 = .ok (.aload_n 0, 1) := by decide +kernel
theorem dX11_want_5 : decode cX11_want 5 = .ok (.getfield 72, 3) := by decide +kernel
theorem dX11_want_8 : decode cX11_want 8 = .ok (.ifCond .ne 13, 3) := by decide +kernel
theorem dX11_want_11 : decode cX11_want 11 = .ok (.aload_n 0, 1) := by decide +kernel
theorem dX11_want_12 : decode cX11_want 12 = .ok (.iload_n 2, 1) := by decide +kernel
theorem dX11_want_13 : decode cX11_want 13 = .ok (.putfield 72, 3) := by decide +kernel
theorem dX11_want_16 : decode cX11_want 16 = .ok (.aload_n 0, 1) := by decide +kernel
theorem dX11_want_17 : decode cX11_want 17 = .ok (.iload_n 3, 1) := by decide +kernel
theorem dX11_want_18 : decode cX11_want 18 = .ok (.putfield 35, 3) := by decide +kernel
theorem dX11_want_21 : decode cX11_want 21 = .ok (.aload_n 0, 1) := by decide +kernel
theorem dX11_want_22 : decode cX11_want 22 = .ok (.getfield 72, 3) := by decide +kernel
theorem dX11_want_25 : decode cX11_want 25 = .ok (.ifCond .ne 7, 3) := by decide +kernel
theorem dX11_want_28 : decode cX11_want 28 = .ok (.iconst 1, 1) := by decide +kernel
theorem dX11_want_29 : decode cX11_want 29 = .ok (.goto 4, 3) := by decide +kernel
theorem dX11_want_32 : decode cX11_want 32 = .ok (.iconst 0, 1) := by decide +kernel
theorem dX11_want_33 : decode cX11_want 33 = .ok (.ireturn, 1) := by decide +kernel
set_option maxRecDepth 20000 in
theorem ggX11_takeNumber_X11_here : GoodIn wsX11_takeNumber wsX11_here := goodIn_r _ [13, 2, 6, 7, 22, 23, 24, 25, 26, 27, 28, 29, 30, 31, 32, 33, 34, 35, 36, 37, 38, 39, 40, 41, 42, 43, 44, 45, 46, 47, 48, 49, 50] (by decide +kernel) (by decide +kernel)
set_option maxRecDepth 20000 in
theorem gX11_takeNumber_X11_here : GoodIn wsX11_takeNumber (wsV RX11 75 RX11 yX11_here wsX11_here) := goodIn_app (goodIn_of _ (by decide +kernel)) ggX11_takeNumber_X11_here
set_option maxRecDepth 20000 in
theorem ggX11_takeNumber_X11_in : GoodIn wsX11_takeNumber wsX11_in := goodIn_r _ [16] (by decide +kernel) (by decide +kernel)
set_option maxRecDepth 20000 in
theorem gX11_takeNumber_X11_in : GoodIn wsX11_takeNumber (va_wsS RX11 60 yX11_in wsX11_in) := goodIn_app (goodIn_of _ (by decide +kernel)) ggX11_takeNumber_X11_in
set_option maxRecDepth 20000 in
theorem ggX11_takeNumber_X11_want : GoodIn wsX11_takeNumber wsX11_want := goodIn_r _ [20, 1, 21, 22, 23, 24, 25, 26, 27, 28, 29, 30, 31, 32, 33, 34, 35, 36, 37, 38, 39, 40, 41, 42, 43, 44, 45, 46, 47, 48, 49, 50] (by decide +kernel) (by decide +kernel)
set_option maxRecDepth 20000 in
theorem gX11_takeNumber_X11_want : GoodIn wsX11_takeNumber (wsV RX11 86 RX11 yX11_want wsX11_want) := goodIn_app (goodIn_of _ (by decide +kernel)) ggX11_takeNumber_X11_want
theorem dX11_takeNumber_0 : decode cX11_takeNumber 0 = .ok (.aload_n 0, 1) := by decide +kernel
theorem dX11_takeNumber_1 : decode cX11_takeNumber 1 = .ok (.getfield 72, 3) := by decide +kernel
theorem dX11_takeNumber_4 : decode cX11_takeNumber 4 = .ok (.ifCond .le 5, 3) := by decide +kernel
theorem dX11_takeNumber_7 : decode cX11_takeNumber 7 = .ok (.iconst 0, 1) := by decide +kernel
theorem dX11_takeNumber_8 : decode cX11_takeNumber 8 = .ok (.ireturn, 1) := by decide +kernel
theorem dX11_takeNumber_9 : decode cX11_takeNumber 9 = .ok (.aload_n 0, 1) := by decide +kernel
theorem dX11_takeNumber_10 : decode cX11_takeNumber 10 = .ok (.invokevirtual 75, 3) := by decide +kernel
theorem dX11_takeNumber_13 : decode cX11_takeNumber 13 = .ok (.istore_n 1, 1) := by decide +kernel
theorem dX11_takeNumber_14 : decode cX11_takeNumber 14 = .ok (.aload_n 0, 1) := by decide +kernel
theorem dX11_takeNumber_15 : decode cX11_takeNumber 15 = .ok (.aload_n 0, 1) := by decide +kernel
theorem dX11_takeNumber_16 : decode cX11_takeNumber 16 = .ok (.getfield 69, 3) := by decide +kernel
theorem dX11_takeNumber_19 : decode cX11_takeNumber 19 = .ok (.putfield 79, 3) := by decide +kernel
theorem dX11_takeNumber_22 : decode cX11_takeNumber 22 = .ok (.aload_n 0, 1) := by decide +kernel
theorem dX11_takeNumber_23 : decode cX11_takeNumber 23 = .ok (.iload_n 1, 1) := by decide +kernel
theorem dX11_takeNumber_24 : decode cX11_takeNumber 24 = .ok (.i2l, 1) := by decide +kernel
theorem dX11_takeNumber_25 : decode cX11_takeNumber 25 = .ok (.ldc2_w 82, 3) := by decide +kernel
theorem dX11_takeNumber_28 : decode cX11_takeNumber 28 = .ok (.ldc2_w 84, 3) := by decide +kernel
theorem dX11_takeNumber_31 : decode cX11_takeNumber 31 = .ok (.invokestatic 60, 3) := by decide +kernel
theorem dX11_takeNumber_34 : decode cX11_takeNumber 34 = .ok (.iconst 1, 1) := by decide +kernel
theorem dX11_takeNumber_35 : decode cX11_takeNumber 35 = .ok (.aload_n 0, 1) := by decide +kernel
theorem dX11_takeNumber_36 : decode cX11_takeNumber 36 = .ok (.getfield 69, 3) := by decide +kernel
theorem dX11_takeNumber_39 : decode cX11_takeNumber 39 = .ok (.invokevirtual 86, 3) := by decide +kernel
theorem dX11_takeNumber_42 : decode cX11_takeNumber 42 = .ok (.ifCond .ne 5, 3) := by decide +kernel
theorem dX11_takeNumber_45 : decode cX11_takeNumber 45 = .ok (.iconst 0, 1) := by decide +kernel
theorem dX11_takeNumber_46 : decode cX11_takeNumber 46 = .ok (.ireturn, 1) := by decide +kernel
theorem dX11_takeNumber_47 : decode cX11_takeNumber 47 = .ok (.iconst 0, 1) := by decide +kernel
theorem dX11_takeNumber_48 : decode cX11_takeNumber 48 = .ok (.istore_n 2, 1) := by decide +kernel
theorem dX11_takeNumber_49 : decode cX11_takeNumber 49 = .ok (.aload_n 0, 1) := by decide +kernel
theorem dX11_takeNumber_50 : decode cX11_takeNumber 50 = .ok (.getfield 69, 3) := by decide +kernel
theorem dX11_takeNumber_53 : decode cX11_takeNumber 53 = .ok (.aload_n 0, 1) := by decide +kernel
theorem dX11_takeNumber_54 : decode cX11_takeNumber 54 = .ok (.getfield 65, 3) := by decide +kernel
theorem dX11_takeNumber_57 : decode cX11_takeNumber 57 = .ok (.if_icmp .ge 66, 3) := by decide +kernel
theorem dX11_takeNumber_60 : decode cX11_takeNumber 60 = .ok (.aload_n 0, 1) := by decide +kernel
theorem dX11_takeNumber_61 : decode cX11_takeNumber 61 = .ok (.getfield 32, 3) := by decide +kernel
theorem dX11_takeNumber_64 : decode cX11_takeNumber 64 = .ok (.aload_n 0, 1) := by decide +kernel
theorem dX11_takeNumber_65 : decode cX11_takeNumber 65 = .ok (.getfield 69, 3) := by decide +kernel
theorem dX11_takeNumber_68 : decode cX11_takeNumber 68 = .ok (.iaload, 1) := by decide +kernel
theorem dX11_takeNumber_69 : decode cX11_takeNumber 69 = .ok (.i2l, 1) := by decide +kernel
theorem dX11_takeNumber_70 : decode cX11_takeNumber 70 = .ok (.ldc2_w 82, 3) := by decide +kernel
theorem dX11_takeNumber_73 : decode cX11_takeNumber 73 = .ok (.ldc2_w 84, 3) := by decide +kernel
theorem dX11_takeNumber_76 : decode cX11_takeNumber 76 = .ok (.invokestatic 60, 3) := by decide +kernel
theorem dX11_takeNumber_79 : decode cX11_takeNumber 79 = .ok (.ifCond .eq 44, 3) := by decide +kernel
theorem dX11_takeNumber_82 : decode cX11_takeNumber 82 = .ok (.iload_n 2, 1) := by decide +kernel
theorem dX11_takeNumber_83 : decode cX11_takeNumber 83 = .ok (.ldc 90, 2) := by decide +kernel
theorem dX11_takeNumber_85 : decode cX11_takeNumber 85 = .ok (.if_icmp .le 7, 3) := by decide +kernel
theorem dX11_takeNumber_88 : decode cX11_takeNumber 88 = .ok (.iload_n 2, 1) := by decide +kernel
theorem dX11_takeNumber_89 : decode cX11_takeNumber 89 = .ok (.goto 20, 3) := by decide +kernel
theorem dX11_takeNumber_92 : decode cX11_takeNumber 92 = .ok (.bipush 10, 2) := by decide +kernel
theorem dX11_takeNumber_94 : decode cX11_takeNumber 94 = .ok (.iload_n 2, 1) := by decide +kernel
theorem dX11_takeNumber_95 : decode cX11_takeNumber 95 = .ok (.imul, 1) := by decide +kernel
theorem dX11_takeNumber_96 : decode cX11_takeNumber 96 = .ok (.aload_n 0, 1) := by decide +kernel
theorem dX11_takeNumber_97 : decode cX11_takeNumber 97 = .ok (.getfield 32, 3) := by decide +kernel
theorem dX11_takeNumber_100 : decode cX11_takeNumber 100 = .ok (.aload_n 0, 1) := by decide +kernel
theorem dX11_takeNumber_101 : decode cX11_takeNumber 101 = .ok (.getfield 69, 3) := by decide +kernel
theorem dX11_takeNumber_104 : decode cX11_takeNumber 104 = .ok (.iaload, 1) := by decide +kernel
theorem dX11_takeNumber_105 : decode cX11_takeNumber 105 = .ok (.iadd, 1) := by decide +kernel
theorem dX11_takeNumber_106 : decode cX11_takeNumber 106 = .ok (.bipush 48, 2) := by decide +kernel
theorem dX11_takeNumber_108 : decode cX11_takeNumber 108 = .ok (.isub, 1) := by decide +kernel
theorem dX11_takeNumber_109 : decode cX11_takeNumber 109 = .ok (.istore_n 2, 1) := by decide +kernel
theorem dX11_takeNumber_110 : decode cX11_takeNumber 110 = .ok (.aload_n 0, 1) := by decide +kernel
theorem dX11_takeNumber_111 : decode cX11_takeNumber 111 = .ok (.dup, 1) := by decide +kernel
theorem dX11_takeNumber_112 : decode cX11_takeNumber 112 = .ok (.getfield 69, 3) := by decide +kernel
theorem dX11_takeNumber_115 : decode cX11_takeNumber 115 = .ok (.iconst 1, 1) := by decide +kernel
theorem dX11_takeNumber_116 : decode cX11_takeNumber 116 = .ok (.iadd, 1) := by decide +kernel
theorem dX11_takeNumber_117 : decode cX11_takeNumber 117 = .ok (.putfield 69, 3) := by decide +kernel
theorem dX11_takeNumber_120 : decode cX11_takeNumber 120 = .ok (.goto (-71), 3) := by decide +kernel
theorem dX11_takeNumber_123 : decode cX11_takeNumber 123 = .ok (.aload_n 0, 1) := by decide +kernel
theorem dX11_takeNumber_124 : decode cX11_takeNumber 124 = .ok (.aload_n 0, 1) := by decide +kernel
theorem dX11_takeNumber_125 : decode cX11_takeNumber 125 = .ok (.getfield 69, 3) := by decide +kernel
theorem dX11_takeNumber_128 : decode cX11_takeNumber 128 = .ok (.aload_n 0, 1) := by decide +kernel
theorem dX11_takeNumber_129 : decode cX11_takeNumber 129 = .ok (.getfield 79, 3) := by decide +kernel
theorem dX11_takeNumber_132 : decode cX11_takeNumber 132 = .ok (.isub, 1) := by decide +kernel
theorem dX11_takeNumber_133 : decode cX11_takeNumber 133 = .ok (.iconst 4, 1) := by decide +kernel
theorem dX11_takeNumber_134 : decode cX11_takeNumber 134 = .ok (.if_icmp .ge 7, 3) := by decide +kernel
theorem dX11_takeNumber_137 : decode cX11_takeNumber 137 = .ok (.iconst 1, 1) := by decide +kernel
theorem dX11_takeNumber_138 : decode cX11_takeNumber 138 = .ok (.goto 4, 3) := by decide +kernel
theorem dX11_takeNumber_141 : decode cX11_takeNumber 141 = .ok (.iconst 0, 1) := by decide +kernel
theorem dX11_takeNumber_142 : decode cX11_takeNumber 142 = .ok (.iconst 2, 1) := by decide +kernel
theorem dX11_takeNumber_143 : decode cX11_takeNumber 143 = .ok (.aload_n 0, 1) := by decide +kernel
theorem dX11_takeNumber_144 : decode cX11_takeNumber 144 = .ok (.getfield 79, 3) := by decide +kernel
theorem dX11_takeNumber_147 : decode cX11_takeNumber 147 = .ok (.invokevirtual 86, 3) := by decide +kernel
theorem dX11_takeNumber_150 : decode cX11_takeNumber 150 = .ok (.istore_n 3, 1) := by decide +kernel
theorem dX11_takeNumber_151 : decode cX11_takeNumber 151 = .ok (.iload_n 2, 1) := by decide +kernel
theorem dX11_takeNumber_152 : decode cX11_takeNumber 152 = .ok (.ireturn, 1) := by decide +kernel
set_option maxRecDepth 20000 in
theorem ggX11_takeIn_X11_takeNumber : GoodIn wsX11_takeIn wsX11_takeNumber := goodIn_r _ [7, 1, 8, 2, 9, 10, 11, 12, 13, 14, 15, 16, 6, 17, 18, 19, 20, 21, 22, 23, 24, 25, 26, 27, 28, 29, 30, 31, 32, 33, 34, 35, 36, 37, 38, 39, 40, 41, 42, 43, 44, 45, 46, 47, 48, 49, 50, 51, 52, 53, 54] (by decide +kernel) (by decide +kernel)
set_option maxRecDepth 20000 in
theorem gX11_takeIn_X11_takeNumber : GoodIn wsX11_takeIn (wsV RX11 91 RX11 yX11_takeNumber wsX11_takeNumber) := goodIn_app (goodIn_of _ (by decide +kernel)) ggX11_takeIn_X11_takeNumber
set_option maxRecDepth 20000 in
theorem ggX11_takeIn_X11_in : GoodIn wsX11_takeIn wsX11_in := goodIn_r _ [20] (by decide +kernel) (by decide +kernel)
set_option maxRecDepth 20000 in
theorem gX11_takeIn_X11_in : GoodIn wsX11_takeIn (va_wsS RX11 60 yX11_in wsX11_in) := goodIn_app (goodIn_of _ (by decide +kernel)) ggX11_takeIn_X11_in
set_option maxRecDepth 20000 in
theorem ggX11_takeIn_X11_want : GoodIn wsX11_takeIn wsX11_want := goodIn_r _ [24, 1, 25, 26, 27, 28, 29, 30, 31, 32, 33, 34, 35, 36, 37, 38, 39, 40, 41, 42, 43, 44, 45, 46, 47, 48, 49, 50, 51, 52, 53, 54] (by decide +kernel) (by decide +kernel)
set_option maxRecDepth 20000 in
theorem gX11_takeIn_X11_want : GoodIn wsX11_takeIn (wsV RX11 86 RX11 yX11_want wsX11_want) := goodIn_app (goodIn_of _ (by decide +kernel)) ggX11_takeIn_X11_want
theorem dX11_takeIn_0 : decode cX11_takeIn 0 = .ok (.aload_n 0, 1) := by decide +kernel
theorem dX11_takeIn_1 : decode cX11_takeIn 1 = .ok (.invokevirtual 91, 3) := by decide +kernel
theorem dX11_takeIn_4 : decode cX11_takeIn 4 = .ok (.istore_n 3, 1) := by decide +kernel
theorem dX11_takeIn_5 : decode cX11_takeIn 5 = .ok (.aload_n 0, 1) := by decide +kernel
theorem dX11_takeIn_6 : decode cX11_takeIn 6 = .ok (.aload_n 0, 1) := by decide +kernel
theorem dX11_takeIn_7 : decode cX11_takeIn 7 = .ok (.getfield 72, 3) := by decide +kernel
theorem dX11_takeIn_10 : decode cX11_takeIn 10 = .ok (.ifCond .gt 15, 3) := by decide +kernel
theorem dX11_takeIn_13 : decode cX11_takeIn 13 = .ok (.iload_n 3, 1) := by decide +kernel
theorem dX11_takeIn_14 : decode cX11_takeIn 14 = .ok (.i2l, 1) := by decide +kernel
theorem dX11_takeIn_15 : decode cX11_takeIn 15 = .ok (.iload_n 1, 1) := by decide +kernel
theorem dX11_takeIn_16 : decode cX11_takeIn 16 = .ok (.i2l, 1) := by decide +kernel
theorem dX11_takeIn_17 : decode cX11_takeIn 17 = .ok (.iload_n 2, 1) := by decide +kernel
theorem dX11_takeIn_18 : decode cX11_takeIn 18 = .ok (.i2l, 1) := by decide +kernel
theorem dX11_takeIn_19 : decode cX11_takeIn 19 = .ok (.invokestatic 60, 3) := by decide +kernel
theorem dX11_takeIn_22 : decode cX11_takeIn 22 = .ok (.ifCond .eq 7, 3) := by decide +kernel
theorem dX11_takeIn_25 : decode cX11_takeIn 25 = .ok (.iconst 1, 1) := by decide +kernel
theorem dX11_takeIn_26 : decode cX11_takeIn 26 = .ok (.goto 4, 3) := by decide +kernel
theorem dX11_takeIn_29 : decode cX11_takeIn 29 = .ok (.iconst 0, 1) := by decide +kernel
theorem dX11_takeIn_30 : decode cX11_takeIn 30 = .ok (.iconst 2, 1) := by decide +kernel
theorem dX11_takeIn_31 : decode cX11_takeIn 31 = .ok (.aload_n 0, 1) := by decide +kernel
theorem dX11_takeIn_32 : decode cX11_takeIn 32 = .ok (.getfield 79, 3) := by decide +kernel
theorem dX11_takeIn_35 : decode cX11_takeIn 35 = .ok (.invokevirtual 86, 3) := by decide +kernel
theorem dX11_takeIn_38 : decode cX11_takeIn 38 = .ok (.istore 4, 2) := by decide +kernel
theorem dX11_takeIn_40 : decode cX11_takeIn 40 = .ok (.iload_n 3, 1) := by decide +kernel
theorem dX11_takeIn_41 : decode cX11_takeIn 41 = .ok (.ireturn, 1) := by decide +kernel
set_option maxRecDepth 20000 in
theorem ggX11_takeClauses_X11_want : GoodIn wsX11_takeClauses wsX11_want := goodIn_r _ [6, 7, 8, 31, 32, 33, 34, 35, 36, 37, 38, 39, 40, 41, 42, 43, 44, 45, 46, 47, 48, 49, 50, 51, 52, 53, 54, 55, 56, 57, 58, 59] (by decide +kernel) (by decide +kernel)
set_option maxRecDepth 20000 in
theorem gX11_takeClauses_X11_want : GoodIn wsX11_takeClauses (wsV RX11 86 RX11 yX11_want wsX11_want) := goodIn_app (goodIn_of _ (by decide +kernel)) ggX11_takeClauses_X11_want
set_option maxRecDepth 20000 in
theorem ggX11_takeClauses_X11_takeIn : GoodIn wsX11_takeClauses wsX11_takeIn := goodIn_r _ [12, 7, 13, 14, 15, 16, 5, 17, 18, 19, 20, 21, 22, 23, 24, 25, 26, 27, 28, 29, 30, 2, 3, 4, 6, 8, 31, 32, 33, 34, 35, 36, 37, 38, 39, 40, 41, 42, 43, 44, 45, 46, 47, 48, 49, 50, 51, 52, 53, 54, 55, 56, 57, 58, 59] (by decide +kernel) (by decide +kernel)
set_option maxRecDepth 20000 in
theorem gX11_takeClauses_X11_takeIn : GoodIn wsX11_takeClauses (wsV RX11 97 RX11 yX11_takeIn wsX11_takeIn) := goodIn_app (goodIn_of _ (by decide +kernel)) ggX11_takeClauses_X11_takeIn
theorem dX11_takeClauses_0 : decode cX11_takeClauses 0 = .ok (.aload_n 0, 1) := by decide +kernel
theorem dX11_takeClauses_1 : decode cX11_takeClauses 1 = .ok (.aload_n 0, 1) := by decide +kernel
theorem dX11_takeClauses_2 : decode cX11_takeClauses 2 = .ok (.getfield 94, 3) := by decide +kernel
theorem dX11_takeClauses_5 : decode cX11_takeClauses 5 = .ok (.ifCond .ne 7, 3) := by decide +kernel
theorem dX11_takeClauses_8 : decode cX11_takeClauses 8 = .ok (.iconst 1, 1) := by decide +kernel
theorem dX11_takeClauses_9 : decode cX11_takeClauses 9 = .ok (.goto 4, 3) := by decide +kernel
theorem dX11_takeClauses_12 : decode cX11_takeClauses 12 = .ok (.iconst 0, 1) := by decide +kernel
theorem dX11_takeClauses_13 : decode cX11_takeClauses 13 = .ok (.iconst 3, 1) := by decide +kernel
theorem dX11_takeClauses_14 : decode cX11_takeClauses 14 = .ok (.iload_n 1, 1) := by decide +kernel
theorem dX11_takeClauses_15 : decode cX11_takeClauses 15 = .ok (.invokevirtual 86, 3) := by decide +kernel
theorem dX11_takeClauses_18 : decode cX11_takeClauses 18 = .ok (.ifCond .eq 15, 3) := by decide +kernel
theorem dX11_takeClauses_21 : decode cX11_takeClauses 21 = .ok (.aload_n 0, 1) := by decide +kernel
theorem dX11_takeClauses_22 : decode cX11_takeClauses 22 = .ok (.aload_n 0, 1) := by decide +kernel
theorem dX11_takeClauses_23 : decode cX11_takeClauses 23 = .ok (.iconst 1, 1) := by decide +kernel
theorem dX11_takeClauses_24 : decode cX11_takeClauses 24 = .ok (.sipush 255, 3) := by decide +kernel
theorem dX11_takeClauses_27 : decode cX11_takeClauses 27 = .ok (.invokevirtual 97, 3) := by decide +kernel
theorem dX11_takeClauses_30 : decode cX11_takeClauses 30 = .ok (.putfield 94, 3) := by decide +kernel
theorem dX11_takeClauses_33 : decode cX11_takeClauses 33 = .ok (.return_, 1) := by decide +kernel
set_option maxRecDepth 20000 in
theorem ggX11_takeCorner_X11_want : GoodIn wsX11_takeCorner wsX11_want := goodIn_r _ [8, 9, 10, 33, 34, 35, 36, 37, 38, 39, 40, 41, 42, 43, 44, 45, 46, 47, 48, 49, 50, 51, 52, 53, 54, 55, 56, 57, 58, 59, 60, 61] (by decide +kernel) (by decide +kernel)
set_option maxRecDepth 20000 in
theorem gX11_takeCorner_X11_want : GoodIn wsX11_takeCorner (wsV RX11 86 RX11 yX11_want wsX11_want) := goodIn_app (goodIn_of _ (by decide +kernel)) ggX11_takeCorner_X11_want
set_option maxRecDepth 20000 in
theorem ggX11_takeCorner_X11_takeIn : GoodIn wsX11_takeCorner wsX11_takeIn := goodIn_r _ [14, 9, 15, 16, 17, 18, 7, 19, 20, 21, 22, 23, 24, 25, 26, 27, 28, 29, 30, 31, 32, 4, 5, 6, 8, 10, 33, 34, 35, 36, 37, 38, 39, 40, 41, 42, 43, 44, 45, 46, 47, 48, 49, 50, 51, 52, 53, 54, 55, 56, 57, 58, 59, 60, 61] (by decide +kernel) (by decide +kernel)
set_option maxRecDepth 20000 in
theorem gX11_takeCorner_X11_takeIn : GoodIn wsX11_takeCorner (wsV RX11 97 RX11 yX11_takeIn wsX11_takeIn) := goodIn_app (goodIn_of _ (by decide +kernel)) ggX11_takeCorner_X11_takeIn
theorem dX11_takeCorner_0 : decode cX11_takeCorner 0 = .ok (.aload_n 0, 1) := by decide +kernel
theorem dX11_takeCorner_1 : decode cX11_takeCorner 1 = .ok (.aload_n 0, 1) := by decide +kernel
theorem dX11_takeCorner_2 : decode cX11_takeCorner 2 = .ok (.getfield 101, 3) := by decide +kernel
theorem dX11_takeCorner_5 : decode cX11_takeCorner 5 = .ok (.bipush 8, 2) := by decide +kernel
theorem dX11_takeCorner_7 : decode cX11_takeCorner 7 = .ok (.if_icmp .ge 7, 3) := by decide +kernel
theorem dX11_takeCorner_10 : decode cX11_takeCorner 10 = .ok (.iconst 1, 1) := by decide +kernel
theorem dX11_takeCorner_11 : decode cX11_takeCorner 11 = .ok (.goto 4, 3) := by decide +kernel
theorem dX11_takeCorner_14 : decode cX11_takeCorner 14 = .ok (.iconst 0, 1) := by decide +kernel
theorem dX11_takeCorner_15 : decode cX11_takeCorner 15 = .ok (.iconst 3, 1) := by decide +kernel
theorem dX11_takeCorner_16 : decode cX11_takeCorner 16 = .ok (.iload_n 1, 1) := by decide +kernel
theorem dX11_takeCorner_17 : decode cX11_takeCorner 17 = .ok (.invokevirtual 86, 3) := by decide +kernel
theorem dX11_takeCorner_20 : decode cX11_takeCorner 20 = .ok (.ifCond .eq 50, 3) := by decide +kernel
theorem dX11_takeCorner_23 : decode cX11_takeCorner 23 = .ok (.aload_n 0, 1) := by decide +kernel
theorem dX11_takeCorner_24 : decode cX11_takeCorner 24 = .ok (.getfield 17, 3) := by decide +kernel
theorem dX11_takeCorner_27 : decode cX11_takeCorner 27 = .ok (.bipush 8, 2) := by decide +kernel
theorem dX11_takeCorner_29 : decode cX11_takeCorner 29 = .ok (.aload_n 0, 1) := by decide +kernel
theorem dX11_takeCorner_30 : decode cX11_takeCorner 30 = .ok (.getfield 101, 3) := by decide +kernel
theorem dX11_takeCorner_33 : decode cX11_takeCorner 33 = .ok (.iadd, 1) := by decide +kernel
theorem dX11_takeCorner_34 : decode cX11_takeCorner 34 = .ok (.aload_n 0, 1) := by decide +kernel
theorem dX11_takeCorner_35 : decode cX11_takeCorner 35 = .ok (.iconst 0, 1) := by decide +kernel
theorem dX11_takeCorner_36 : decode cX11_takeCorner 36 = .ok (.bipush 99, 2) := by decide +kernel
theorem dX11_takeCorner_38 : decode cX11_takeCorner 38 = .ok (.invokevirtual 97, 3) := by decide +kernel
theorem dX11_takeCorner_41 : decode cX11_takeCorner 41 = .ok (.iastore, 1) := by decide +kernel
theorem dX11_takeCorner_42 : decode cX11_takeCorner 42 = .ok (.aload_n 0, 1) := by decide +kernel
theorem dX11_takeCorner_43 : decode cX11_takeCorner 43 = .ok (.getfield 20, 3) := by decide +kernel
theorem dX11_takeCorner_46 : decode cX11_takeCorner 46 = .ok (.bipush 8, 2) := by decide +kernel
theorem dX11_takeCorner_48 : decode cX11_takeCorner 48 = .ok (.aload_n 0, 1) := by decide +kernel
theorem dX11_takeCorner_49 : decode cX11_takeCorner 49 = .ok (.getfield 101, 3) := by decide +kernel
theorem dX11_takeCorner_52 : decode cX11_takeCorner 52 = .ok (.iadd, 1) := by decide +kernel
theorem dX11_takeCorner_53 : decode cX11_takeCorner 53 = .ok (.aload_n 0, 1) := by decide +kernel
theorem dX11_takeCorner_54 : decode cX11_takeCorner 54 = .ok (.iconst 0, 1) := by decide +kernel
theorem dX11_takeCorner_55 : decode cX11_takeCorner 55 = .ok (.iconst 1, 1) := by decide +kernel
theorem dX11_takeCorner_56 : decode cX11_takeCorner 56 = .ok (.invokevirtual 97, 3) := by decide +kernel
theorem dX11_takeCorner_59 : decode cX11_takeCorner 59 = .ok (.iastore, 1) := by decide +kernel
theorem dX11_takeCorner_60 : decode cX11_takeCorner 60 = .ok (.aload_n 0, 1) := by decide +kernel
theorem dX11_takeCorner_61 : decode cX11_takeCorner 61 = .ok (.dup, 1) := by decide +kernel
theorem dX11_takeCorner_62 : decode cX11_takeCorner 62 = .ok (.getfield 101, 3) := by decide +kernel
theorem dX11_takeCorner_65 : decode cX11_takeCorner 65 = .ok (.iconst 1, 1) := by decide +kernel
theorem dX11_takeCorner_66 : decode cX11_takeCorner 66 = .ok (.iadd, 1) := by decide +kernel
theorem dX11_takeCorner_67 : decode cX11_takeCorner 67 = .ok (.putfield 101, 3) := by decide +kernel
theorem dX11_takeCorner_70 : decode cX11_takeCorner 70 = .ok (.return_, 1) := by decide +kernel
set_option maxRecDepth 20000 in
theorem ggX11_takeHearer_X11_want : GoodIn wsX11_takeHearer wsX11_want := goodIn_r _ [10, 11, 12, 35, 36, 37, 38, 39, 40, 41, 42, 43, 44, 45, 46, 47, 48, 49, 50, 51, 52, 53, 54, 55, 56, 57, 58, 59, 60, 61, 62, 63] (by decide +kernel) (by decide +kernel)
set_option maxRecDepth 20000 in
theorem gX11_takeHearer_X11_want : GoodIn wsX11_takeHearer (wsV RX11 86 RX11 yX11_want wsX11_want) := goodIn_app (goodIn_of _ (by decide +kernel)) ggX11_takeHearer_X11_want
set_option maxRecDepth 20000 in
theorem ggX11_takeHearer_X11_takeIn : GoodIn wsX11_takeHearer wsX11_takeIn := goodIn_r _ [16, 11, 17, 18, 19, 20, 9, 21, 22, 23, 24, 25, 26, 27, 28, 29, 30, 31, 32, 33, 34, 6, 7, 8, 10, 12, 35, 36, 37, 38, 39, 40, 41, 42, 43, 44, 45, 46, 47, 48, 49, 50, 51, 52, 53, 54, 55, 56, 57, 58, 59, 60, 61, 62, 63] (by decide +kernel) (by decide +kernel)
set_option maxRecDepth 20000 in
theorem gX11_takeHearer_X11_takeIn : GoodIn wsX11_takeHearer (wsV RX11 97 RX11 yX11_takeIn wsX11_takeIn) := goodIn_app (goodIn_of _ (by decide +kernel)) ggX11_takeHearer_X11_takeIn
theorem dX11_takeHearer_0 : decode cX11_takeHearer 0 = .ok (.aload_n 0, 1) := by decide +kernel
theorem dX11_takeHearer_1 : decode cX11_takeHearer 1 = .ok (.aload_n 0, 1) := by decide +kernel
theorem dX11_takeHearer_2 : decode cX11_takeHearer 2 = .ok (.getfield 104, 3) := by decide +kernel
theorem dX11_takeHearer_5 : decode cX11_takeHearer 5 = .ok (.bipush 9, 2) := by decide +kernel
theorem dX11_takeHearer_7 : decode cX11_takeHearer 7 = .ok (.if_icmp .ge 7, 3) := by decide +kernel
theorem dX11_takeHearer_10 : decode cX11_takeHearer 10 = .ok (.iconst 1, 1) := by decide +kernel
theorem dX11_takeHearer_11 : decode cX11_takeHearer 11 = .ok (.goto 4, 3) := by decide +kernel
theorem dX11_takeHearer_14 : decode cX11_takeHearer 14 = .ok (.iconst 0, 1) := by decide +kernel
theorem dX11_takeHearer_15 : decode cX11_takeHearer 15 = .ok (.iconst 3, 1) := by decide +kernel
theorem dX11_takeHearer_16 : decode cX11_takeHearer 16 = .ok (.iload_n 1, 1) := by decide +kernel
theorem dX11_takeHearer_17 : decode cX11_takeHearer 17 = .ok (.invokevirtual 86, 3) := by decide +kernel
theorem dX11_takeHearer_20 : decode cX11_takeHearer 20 = .ok (.ifCond .eq 75, 3) := by decide +kernel
theorem dX11_takeHearer_23 : decode cX11_takeHearer 23 = .ok (.aload_n 0, 1) := by decide +kernel
theorem dX11_takeHearer_24 : decode cX11_takeHearer 24 = .ok (.getfield 23, 3) := by decide +kernel
theorem dX11_takeHearer_27 : decode cX11_takeHearer 27 = .ok (.bipush 9, 2) := by decide +kernel
theorem dX11_takeHearer_29 : decode cX11_takeHearer 29 = .ok (.aload_n 0, 1) := by decide +kernel
theorem dX11_takeHearer_30 : decode cX11_takeHearer 30 = .ok (.getfield 104, 3) := by decide +kernel
theorem dX11_takeHearer_33 : decode cX11_takeHearer 33 = .ok (.iadd, 1) := by decide +kernel
theorem dX11_takeHearer_34 : decode cX11_takeHearer 34 = .ok (.aload_n 0, 1) := by decide +kernel
theorem dX11_takeHearer_35 : decode cX11_takeHearer 35 = .ok (.iconst 0, 1) := by decide +kernel
theorem dX11_takeHearer_36 : decode cX11_takeHearer 36 = .ok (.aload_n 0, 1) := by decide +kernel
theorem dX11_takeHearer_37 : decode cX11_takeHearer 37 = .ok (.getfield 101, 3) := by decide +kernel
theorem dX11_takeHearer_40 : decode cX11_takeHearer 40 = .ok (.iconst 1, 1) := by decide +kernel
theorem dX11_takeHearer_41 : decode cX11_takeHearer 41 = .ok (.isub, 1) := by decide +kernel
theorem dX11_takeHearer_42 : decode cX11_takeHearer 42 = .ok (.invokevirtual 97, 3) := by decide +kernel
theorem dX11_takeHearer_45 : decode cX11_takeHearer 45 = .ok (.iastore, 1) := by decide +kernel
theorem dX11_takeHearer_46 : decode cX11_takeHearer 46 = .ok (.aload_n 0, 1) := by decide +kernel
theorem dX11_takeHearer_47 : decode cX11_takeHearer 47 = .ok (.getfield 26, 3) := by decide +kernel
theorem dX11_takeHearer_50 : decode cX11_takeHearer 50 = .ok (.bipush 9, 2) := by decide +kernel
theorem dX11_takeHearer_52 : decode cX11_takeHearer 52 = .ok (.aload_n 0, 1) := by decide +kernel
theorem dX11_takeHearer_53 : decode cX11_takeHearer 53 = .ok (.getfield 104, 3) := by decide +kernel
theorem dX11_takeHearer_56 : decode cX11_takeHearer 56 = .ok (.iadd, 1) := by decide +kernel
theorem dX11_takeHearer_57 : decode cX11_takeHearer 57 = .ok (.aload_n 0, 1) := by decide +kernel
theorem dX11_takeHearer_58 : decode cX11_takeHearer 58 = .ok (.iconst 0, 1) := by decide +kernel
theorem dX11_takeHearer_59 : decode cX11_takeHearer 59 = .ok (.sipush 255, 3) := by decide +kernel
theorem dX11_takeHearer_62 : decode cX11_takeHearer 62 = .ok (.invokevirtual 97, 3) := by decide +kernel
theorem dX11_takeHearer_65 : decode cX11_takeHearer 65 = .ok (.iastore, 1) := by decide +kernel
theorem dX11_takeHearer_66 : decode cX11_takeHearer 66 = .ok (.aload_n 0, 1) := by decide +kernel
theorem dX11_takeHearer_67 : decode cX11_takeHearer 67 = .ok (.getfield 29, 3) := by decide +kernel
theorem dX11_takeHearer_70 : decode cX11_takeHearer 70 = .ok (.bipush 9, 2) := by decide +kernel
theorem dX11_takeHearer_72 : decode cX11_takeHearer 72 = .ok (.aload_n 0, 1) := by decide +kernel
theorem dX11_takeHearer_73 : decode cX11_takeHearer 73 = .ok (.getfield 104, 3) := by decide +kernel
theorem dX11_takeHearer_76 : decode cX11_takeHearer 76 = .ok (.iadd, 1) := by decide +kernel
theorem dX11_takeHearer_77 : decode cX11_takeHearer 77 = .ok (.aload_n 0, 1) := by decide +kernel
theorem dX11_takeHearer_78 : decode cX11_takeHearer 78 = .ok (.iconst 0, 1) := by decide +kernel
theorem dX11_takeHearer_79 : decode cX11_takeHearer 79 = .ok (.bipush 8, 2) := by decide +kernel
theorem dX11_takeHearer_81 : decode cX11_takeHearer 81 = .ok (.invokevirtual 97, 3) := by decide +kernel
theorem dX11_takeHearer_84 : decode cX11_takeHearer 84 = .ok (.iastore, 1) := by decide +kernel
theorem dX11_takeHearer_85 : decode cX11_takeHearer 85 = .ok (.aload_n 0, 1) := by decide +kernel
theorem dX11_takeHearer_86 : decode cX11_takeHearer 86 = .ok (.dup, 1) := by decide +kernel
theorem dX11_takeHearer_87 : decode cX11_takeHearer 87 = .ok (.getfield 104, 3) := by decide +kernel
theorem dX11_takeHearer_90 : decode cX11_takeHearer 90 = .ok (.iconst 1, 1) := by decide +kernel
theorem dX11_takeHearer_91 : decode cX11_takeHearer 91 = .ok (.iadd, 1) := by decide +kernel
theorem dX11_takeHearer_92 : decode cX11_takeHearer 92 = .ok (.putfield 104, 3) := by decide +kernel
theorem dX11_takeHearer_95 : decode cX11_takeHearer 95 = .ok (.return_, 1) := by decide +kernel
set_option maxRecDepth 20000 in
theorem ggX11_takeClause_X11_here : GoodIn wsX11_takeClause wsX11_here := goodIn_r _ [7, 1, 8, 9, 50, 51, 52, 53, 54, 55, 56, 57, 58, 59, 60, 61, 62, 63, 64, 65, 66, 67, 68, 69, 70, 71, 72, 73, 74, 75, 76, 77, 78] (by decide +kernel) (by decide +kernel)
set_option maxRecDepth 20000 in
theorem gX11_takeClause_X11_here : GoodIn wsX11_takeClause (wsV RX11 75 RX11 yX11_here wsX11_here) := goodIn_app (goodIn_of _ (by decide +kernel)) ggX11_takeClause_X11_here
set_option maxRecDepth 20000 in
theorem ggX11_takeClause_X11_want : GoodIn wsX11_takeClause wsX11_want := goodIn_r _ [13, 14, 15, 50, 51, 52, 53, 54, 55, 56, 57, 58, 59, 60, 61, 62, 63, 64, 65, 66, 67, 68, 69, 70, 71, 72, 73, 74, 75, 76, 77, 78] (by decide +kernel) (by decide +kernel)
set_option maxRecDepth 20000 in
theorem gX11_takeClause_X11_want : GoodIn wsX11_takeClause (wsV RX11 86 RX11 yX11_want wsX11_want) := goodIn_app (goodIn_of _ (by decide +kernel)) ggX11_takeClause_X11_want
set_option maxRecDepth 20000 in
theorem ggX11_takeClause_X11_takeClauses : GoodIn wsX11_takeClause wsX11_takeClauses := goodIn_r _ [19, 2, 10, 11, 12, 6, 13, 14, 15, 20, 21, 22, 23, 24, 25, 26, 27, 28, 1, 29, 30, 8, 9, 31, 3, 4, 5, 7, 32, 33, 34, 50, 51, 52, 53, 54, 55, 56, 57, 58, 59, 60, 61, 62, 63, 64, 65, 66, 67, 68, 69, 70, 71, 72, 73, 74, 75, 76, 77, 78] (by decide +kernel) (by decide +kernel)
set_option maxRecDepth 20000 in
theorem gX11_takeClause_X11_takeClauses : GoodIn wsX11_takeClause (wsV RX11 107 RX11 yX11_takeClauses wsX11_takeClauses) := goodIn_app (goodIn_of _ (by decide +kernel)) ggX11_takeClause_X11_takeClauses
set_option maxRecDepth 20000 in
theorem ggX11_takeClause_X11_takeCorner : GoodIn wsX11_takeClause wsX11_takeCorner := goodIn_r _ [38, 39, 40, 41, 10, 11, 12, 6, 13, 14, 15, 20, 21, 22, 23, 24, 25, 26, 27, 28, 1, 29, 30, 8, 9, 31, 3, 4, 5, 7, 32, 33, 34, 50, 51, 52, 53, 54, 55, 56, 57, 58, 59, 60, 61, 62, 63, 64, 65, 66, 67, 68, 69, 70, 71, 72, 73, 74, 75, 76, 77, 78] (by decide +kernel) (by decide +kernel)
set_option maxRecDepth 20000 in
theorem gX11_takeClause_X11_takeCorner : GoodIn wsX11_takeClause (wsV RX11 111 RX11 yX11_takeCorner wsX11_takeCorner) := goodIn_app (goodIn_of _ (by decide +kernel)) ggX11_takeClause_X11_takeCorner
set_option maxRecDepth 20000 in
theorem ggX11_takeClause_X11_takeHearer : GoodIn wsX11_takeClause wsX11_takeHearer := goodIn_r _ [45, 46, 47, 39, 48, 49, 10, 11, 12, 6, 13, 14, 15, 20, 21, 22, 23, 24, 25, 26, 27, 28, 1, 29, 30, 8, 9, 31, 3, 4, 5, 7, 32, 33, 34, 50, 51, 52, 53, 54, 55, 56, 57, 58, 59, 60, 61, 62, 63, 64, 65, 66, 67, 68, 69, 70, 71, 72, 73, 74, 75, 76, 77, 78] (by decide +kernel) (by decide +kernel)
set_option maxRecDepth 20000 in
theorem gX11_takeClause_X11_takeHearer : GoodIn wsX11_takeClause (wsV RX11 114 RX11 yX11_takeHearer wsX11_takeHearer) := goodIn_app (goodIn_of _ (by decide +kernel)) ggX11_takeClause_X11_takeHearer
theorem dX11_takeClause_0 : decode cX11_takeClause 0 = .ok (.aload_n 0, 1) := by decide +kernel
theorem dX11_takeClause_1 : decode cX11_takeClause 1 = .ok (.invokevirtual 75, 3) := by decide +kernel
theorem dX11_takeClause_4 : decode cX11_takeClause 4 = .ok (.istore_n 1, 1) := by decide +kernel
theorem dX11_takeClause_5 : decode cX11_takeClause 5 = .ok (.aload_n 0, 1) := by decide +kernel
theorem dX11_takeClause_6 : decode cX11_takeClause 6 = .ok (.getfield 69, 3) := by decide +kernel
theorem dX11_takeClause_9 : decode cX11_takeClause 9 = .ok (.istore_n 2, 1) := by decide +kernel
theorem dX11_takeClause_10 : decode cX11_takeClause 10 = .ok (.aload_n 0, 1) := by decide +kernel
theorem dX11_takeClause_11 : decode cX11_takeClause 11 = .ok (.dup, 1) := by decide +kernel
theorem dX11_takeClause_12 : decode cX11_takeClause 12 = .ok (.getfield 69, 3) := by decide +kernel
theorem dX11_takeClause_15 : decode cX11_takeClause 15 = .ok (.iconst 1, 1) := by decide +kernel
theorem dX11_takeClause_16 : decode cX11_takeClause 16 = .ok (.iadd, 1) := by decide +kernel
theorem dX11_takeClause_17 : decode cX11_takeClause 17 = .ok (.putfield 69, 3) := by decide +kernel
theorem dX11_takeClause_20 : decode cX11_takeClause 20 = .ok (.aload_n 0, 1) := by decide +kernel
theorem dX11_takeClause_21 : decode cX11_takeClause 21 = .ok (.iload_n 1, 1) := by decide +kernel
theorem dX11_takeClause_22 : decode cX11_takeClause 22 = .ok (.bipush 116, 2) := by decide +kernel
theorem dX11_takeClause_24 : decode cX11_takeClause 24 = .ok (.if_icmp .eq 10, 3) := by decide +kernel
theorem dX11_takeClause_27 : decode cX11_takeClause 27 = .ok (.aload_n 0, 1) := by decide +kernel
theorem dX11_takeClause_28 : decode cX11_takeClause 28 = .ok (.getfield 94, 3) := by decide +kernel
theorem dX11_takeClause_31 : decode cX11_takeClause 31 = .ok (.ifCond .le 7, 3) := by decide +kernel
theorem dX11_takeClause_34 : decode cX11_takeClause 34 = .ok (.iconst 1, 1) := by decide +kernel
theorem dX11_takeClause_35 : decode cX11_takeClause 35 = .ok (.goto 4, 3) := by decide +kernel
theorem dX11_takeClause_38 : decode cX11_takeClause 38 = .ok (.iconst 0, 1) := by decide +kernel
theorem dX11_takeClause_39 : decode cX11_takeClause 39 = .ok (.iconst 1, 1) := by decide +kernel
theorem dX11_takeClause_40 : decode cX11_takeClause 40 = .ok (.iload_n 2, 1) := by decide +kernel
theorem dX11_takeClause_41 : decode cX11_takeClause 41 = .ok (.invokevirtual 86, 3) := by decide +kernel
theorem dX11_takeClause_44 : decode cX11_takeClause 44 = .ok (.ifCond .ne 4, 3) := by decide +kernel
theorem dX11_takeClause_47 : decode cX11_takeClause 47 = .ok (.return_, 1) := by decide +kernel
theorem dX11_takeClause_48 : decode cX11_takeClause 48 = .ok (.iload_n 1, 1) := by decide +kernel
theorem dX11_takeClause_49 : decode cX11_takeClause 49 = .ok (.bipush 116, 2) := by decide +kernel
theorem dX11_takeClause_51 : decode cX11_takeClause 51 = .ok (.if_icmp .ne 11, 3) := by decide +kernel
theorem dX11_takeClause_54 : decode cX11_takeClause 54 = .ok (.aload_n 0, 1) := by decide +kernel
theorem dX11_takeClause_55 : decode cX11_takeClause 55 = .ok (.iload_n 2, 1) := by decide +kernel
theorem dX11_takeClause_56 : decode cX11_takeClause 56 = .ok (.invokevirtual 107, 3) := by decide +kernel
theorem dX11_takeClause_59 : decode cX11_takeClause 59 = .ok (.goto 42, 3) := by decide +kernel
theorem dX11_takeClause_62 : decode cX11_takeClause 62 = .ok (.iload_n 1, 1) := by decide +kernel
theorem dX11_takeClause_63 : decode cX11_takeClause 63 = .ok (.bipush 99, 2) := by decide +kernel
theorem dX11_takeClause_65 : decode cX11_takeClause 65 = .ok (.if_icmp .ne 11, 3) := by decide +kernel
theorem dX11_takeClause_68 : decode cX11_takeClause 68 = .ok (.aload_n 0, 1) := by decide +kernel
theorem dX11_takeClause_69 : decode cX11_takeClause 69 = .ok (.iload_n 2, 1) := by decide +kernel
theorem dX11_takeClause_70 : decode cX11_takeClause 70 = .ok (.invokevirtual 111, 3) := by decide +kernel
theorem dX11_takeClause_73 : decode cX11_takeClause 73 = .ok (.goto 28, 3) := by decide +kernel
theorem dX11_takeClause_76 : decode cX11_takeClause 76 = .ok (.aload_n 0, 1) := by decide +kernel
theorem dX11_takeClause_77 : decode cX11_takeClause 77 = .ok (.iload_n 1, 1) := by decide +kernel
theorem dX11_takeClause_78 : decode cX11_takeClause 78 = .ok (.bipush 104, 2) := by decide +kernel
theorem dX11_takeClause_80 : decode cX11_takeClause 80 = .ok (.if_icmp .ne 7, 3) := by decide +kernel
theorem dX11_takeClause_83 : decode cX11_takeClause 83 = .ok (.iconst 1, 1) := by decide +kernel
theorem dX11_takeClause_84 : decode cX11_takeClause 84 = .ok (.goto 4, 3) := by decide +kernel
theorem dX11_takeClause_87 : decode cX11_takeClause 87 = .ok (.iconst 0, 1) := by decide +kernel
theorem dX11_takeClause_88 : decode cX11_takeClause 88 = .ok (.iconst 1, 1) := by decide +kernel
theorem dX11_takeClause_89 : decode cX11_takeClause 89 = .ok (.iload_n 2, 1) := by decide +kernel
theorem dX11_takeClause_90 : decode cX11_takeClause 90 = .ok (.invokevirtual 86, 3) := by decide +kernel
theorem dX11_takeClause_93 : decode cX11_takeClause 93 = .ok (.ifCond .eq 8, 3) := by decide +kernel
theorem dX11_takeClause_96 : decode cX11_takeClause 96 = .ok (.aload_n 0, 1) := by decide +kernel
theorem dX11_takeClause_97 : decode cX11_takeClause 97 = .ok (.iload_n 2, 1) := by decide +kernel
theorem dX11_takeClause_98 : decode cX11_takeClause 98 = .ok (.invokevirtual 114, 3) := by decide +kernel
theorem dX11_takeClause_101 : decode cX11_takeClause 101 = .ok (.return_, 1) := by decide +kernel
set_option maxRecDepth 20000 in
theorem ggX11_town_X11_here : GoodIn wsX11_town wsX11_here := goodIn_r _ [13, 1, 7, 14, 69, 70, 71, 72, 73, 74, 75, 76, 77, 78, 79, 80, 81, 82, 83, 84, 85, 86, 87, 88, 89, 90, 91, 92, 93, 94, 95, 96, 97] (by decide +kernel) (by decide +kernel)
set_option maxRecDepth 20000 in
theorem gX11_town_X11_here : GoodIn wsX11_town (wsV RX11 75 RX11 yX11_here wsX11_here) := goodIn_app (goodIn_of _ (by decide +kernel)) ggX11_town_X11_here
set_option maxRecDepth 20000 in
theorem ggX11_town_X11_takeClause : GoodIn wsX11_town wsX11_takeClause := goodIn_r _ [18, 1, 4, 9, 10, 11, 12, 13, 7, 14, 19, 20, 21, 22, 2, 3, 23, 24, 25, 26, 27, 28, 29, 30, 31, 32, 33, 34, 35, 36, 37, 38, 39, 40, 41, 42, 43, 44, 45, 5, 46, 47, 48, 49, 50, 51, 6, 52, 53, 54, 69, 70, 71, 72, 73, 74, 75, 76, 77, 78, 79, 80, 81, 82, 83, 84, 85, 86, 87, 88, 89, 90, 91, 92, 93, 94, 95, 96, 97] (by decide +kernel) (by decide +kernel)
set_option maxRecDepth 20000 in
theorem gX11_town_X11_takeClause : GoodIn wsX11_town (wsV RX11 117 RX11 yX11_takeClause wsX11_takeClause) := goodIn_app (goodIn_of _ (by decide +kernel)) ggX11_town_X11_takeClause
set_option maxRecDepth 20000 in
theorem ggX11_town_X11_want : GoodIn wsX11_town wsX11_want := goodIn_r _ [22, 2, 3, 69, 70, 71, 72, 73, 74, 75, 76, 77, 78, 79, 80, 81, 82, 83, 84, 85, 86, 87, 88, 89, 90, 91, 92, 93, 94, 95, 96, 97] (by decide +kernel) (by decide +kernel)
set_option maxRecDepth 20000 in
theorem gX11_town_X11_want : GoodIn wsX11_town (wsV RX11 86 RX11 yX11_want wsX11_want) := goodIn_app (goodIn_of _ (by decide +kernel)) ggX11_town_X11_want
set_option maxRecDepth 20000 in
theorem ggX11_town_X11_take : GoodIn wsX11_town wsX11_take := goodIn_r _ [58, 4, 59, 5, 8, 6, 60, 46, 47, 52, 53, 54, 61, 62, 63, 64, 65, 66, 67, 12, 68, 69, 70, 71, 72, 73, 74, 75, 76, 77, 78, 79, 80, 81, 82, 83, 84, 85, 86, 87, 88, 89, 90, 91, 92, 93, 94, 95, 96, 97] (by decide +kernel) (by decide +kernel)
set_option maxRecDepth 20000 in
theorem gX11_town_X11_take : GoodIn wsX11_town (wsV RX11 120 RX11 yX11_take wsX11_take) := goodIn_app (goodIn_of _ (by decide +kernel)) ggX11_town_X11_take
theorem dX11_town_0 : decode cX11_town 0 = .ok (.aload_n 0, 1) := by decide +kernel
theorem dX11_town_1 : decode cX11_town 1 = .ok (.iconst 0, 1) := by decide +kernel
theorem dX11_town_2 : decode cX11_town 2 = .ok (.putfield 69, 3) := by decide +kernel
theorem dX11_town_5 : decode cX11_town 5 = .ok (.aload_n 0, 1) := by decide +kernel
theorem dX11_town_6 : decode cX11_town 6 = .ok (.iconst 0, 1) := by decide +kernel
theorem dX11_town_7 : decode cX11_town 7 = .ok (.putfield 72, 3) := by decide +kernel
theorem dX11_town_10 : decode cX11_town 10 = .ok (.aload_n 0, 1) := by decide +kernel
theorem dX11_town_11 : decode cX11_town 11 = .ok (.iconst (-1), 1) := by decide +kernel
theorem dX11_town_12 : decode cX11_town 12 = .ok (.putfield 35, 3) := by decide +kernel
theorem dX11_town_15 : decode cX11_town 15 = .ok (.aload_n 0, 1) := by decide +kernel
theorem dX11_town_16 : decode cX11_town 16 = .ok (.iconst 0, 1) := by decide +kernel
theorem dX11_town_17 : decode cX11_town 17 = .ok (.putfield 94, 3) := by decide +kernel
theorem dX11_town_20 : decode cX11_town 20 = .ok (.aload_n 0, 1) := by decide +kernel
theorem dX11_town_21 : decode cX11_town 21 = .ok (.iconst 0, 1) := by decide +kernel
theorem dX11_town_22 : decode cX11_town 22 = .ok (.putfield 101, 3) := by decide +kernel
theorem dX11_town_25 : decode cX11_town 25 = .ok (.aload_n 0, 1) := by decide +kernel
theorem dX11_town_26 : decode cX11_town 26 = .ok (.iconst 0, 1) := by decide +kernel
theorem dX11_town_27 : decode cX11_town 27 = .ok (.putfield 104, 3) := by decide +kernel
theorem dX11_town_30 : decode cX11_town 30 = .ok (.aload_n 0, 1) := by decide +kernel
theorem dX11_town_31 : decode cX11_town 31 = .ok (.getfield 72, 3) := by decide +kernel
theorem dX11_town_34 : decode cX11_town 34 = .ok (.ifCond .ne 60, 3) := by decide +kernel
theorem dX11_town_37 : decode cX11_town 37 = .ok (.aload_n 0, 1) := by decide +kernel
theorem dX11_town_38 : decode cX11_town 38 = .ok (.invokevirtual 75, 3) := by decide +kernel
theorem dX11_town_41 : decode cX11_town 41 = .ok (.ifCond .lt 53, 3) := by decide +kernel
theorem dX11_town_44 : decode cX11_town 44 = .ok (.aload_n 0, 1) := by decide +kernel
theorem dX11_town_45 : decode cX11_town 45 = .ok (.invokevirtual 117, 3) := by decide +kernel
theorem dX11_town_48 : decode cX11_town 48 = .ok (.aload_n 0, 1) := by decide +kernel
theorem dX11_town_49 : decode cX11_town 49 = .ok (.getfield 72, 3) := by decide +kernel
theorem dX11_town_52 : decode cX11_town 52 = .ok (.ifCond .ne (-22), 3) := by decide +kernel
theorem dX11_town_55 : decode cX11_town 55 = .ok (.aload_n 0, 1) := by decide +kernel
theorem dX11_town_56 : decode cX11_town 56 = .ok (.aload_n 0, 1) := by decide +kernel
theorem dX11_town_57 : decode cX11_town 57 = .ok (.invokevirtual 75, 3) := by decide +kernel
theorem dX11_town_60 : decode cX11_town 60 = .ok (.bipush 59, 2) := by decide +kernel
theorem dX11_town_62 : decode cX11_town 62 = .ok (.if_icmp .ne 7, 3) := by decide +kernel
theorem dX11_town_65 : decode cX11_town 65 = .ok (.iconst 1, 1) := by decide +kernel
theorem dX11_town_66 : decode cX11_town 66 = .ok (.goto 4, 3) := by decide +kernel
theorem dX11_town_69 : decode cX11_town 69 = .ok (.iconst 0, 1) := by decide +kernel
theorem dX11_town_70 : decode cX11_town 70 = .ok (.iconst 1, 1) := by decide +kernel
theorem dX11_town_71 : decode cX11_town 71 = .ok (.aload_n 0, 1) := by decide +kernel
theorem dX11_town_72 : decode cX11_town 72 = .ok (.getfield 69, 3) := by decide +kernel
theorem dX11_town_75 : decode cX11_town 75 = .ok (.invokevirtual 86, 3) := by decide +kernel
theorem dX11_town_78 : decode cX11_town 78 = .ok (.ifCond .eq (-48), 3) := by decide +kernel
theorem dX11_town_81 : decode cX11_town 81 = .ok (.aload_n 0, 1) := by decide +kernel
theorem dX11_town_82 : decode cX11_town 82 = .ok (.dup, 1) := by decide +kernel
theorem dX11_town_83 : decode cX11_town 83 = .ok (.getfield 69, 3) := by decide +kernel
theorem dX11_town_86 : decode cX11_town 86 = .ok (.iconst 1, 1) := by decide +kernel
theorem dX11_town_87 : decode cX11_town 87 = .ok (.iadd, 1) := by decide +kernel
theorem dX11_town_88 : decode cX11_town 88 = .ok (.putfield 69, 3) := by decide +kernel
theorem dX11_town_91 : decode cX11_town 91 = .ok (.goto (-61), 3) := by decide +kernel
theorem dX11_town_94 : decode cX11_town 94 = .ok (.aload_n 0, 1) := by decide +kernel
theorem dX11_town_95 : decode cX11_town 95 = .ok (.iconst 0, 1) := by decide +kernel
theorem dX11_town_96 : decode cX11_town 96 = .ok (.putfield 65, 3) := by decide +kernel
theorem dX11_town_99 : decode cX11_town 99 = .ok (.aload_n 0, 1) := by decide +kernel
theorem dX11_town_100 : decode cX11_town 100 = .ok (.getfield 72, 3) := by decide +kernel
theorem dX11_town_103 : decode cX11_town 103 = .ok (.ifCond .le 11, 3) := by decide +kernel
theorem dX11_town_106 : decode cX11_town 106 = .ok (.bipush (-10), 2) := by decide +kernel
theorem dX11_town_108 : decode cX11_town 108 = .ok (.aload_n 0, 1) := by decide +kernel
theorem dX11_town_109 : decode cX11_town 109 = .ok (.getfield 72, 3) := by decide +kernel
theorem dX11_town_112 : decode cX11_town 112 = .ok (.isub, 1) := by decide +kernel
theorem dX11_town_113 : decode cX11_town 113 = .ok (.ireturn, 1) := by decide +kernel
theorem dX11_town_114 : decode cX11_town 114 = .ok (.aload_n 0, 1) := by decide +kernel
theorem dX11_town_115 : decode cX11_town 115 = .ok (.invokevirtual 120, 3) := by decide +kernel
theorem dX11_town_118 : decode cX11_town 118 = .ok (.aload_n 0, 1) := by decide +kernel
theorem dX11_town_119 : decode cX11_town 119 = .ok (.getfield 123, 3) := by decide +kernel
theorem dX11_town_122 : decode cX11_town 122 = .ok (.ireturn, 1) := by decide +kernel
set_option maxRecDepth 20000 in
theorem ggX11_take_X11_one : GoodIn wsX11_take wsX11_one := goodIn_r _ [20] (by decide +kernel) (by decide +kernel)
set_option maxRecDepth 20000 in
theorem gX11_take_X11_one : GoodIn wsX11_take (va_wsS RX11 132 yX11_one wsX11_one) := goodIn_app (goodIn_of _ (by decide +kernel)) ggX11_take_X11_one
theorem dX11_take_0 : decode cX11_take 0 = .ok (.aload_n 0, 1) := by decide +kernel
theorem dX11_take_1 : decode cX11_take 1 = .ok (.aload_n 0, 1) := by decide +kernel
theorem dX11_take_2 : decode cX11_take 2 = .ok (.getfield 94, 3) := by decide +kernel
theorem dX11_take_5 : decode cX11_take 5 = .ok (.putfield 126, 3) := by decide +kernel
theorem dX11_take_8 : decode cX11_take 8 = .ok (.aload_n 0, 1) := by decide +kernel
theorem dX11_take_9 : decode cX11_take 9 = .ok (.aload_n 0, 1) := by decide +kernel
theorem dX11_take_10 : decode cX11_take 10 = .ok (.getfield 101, 3) := by decide +kernel
theorem dX11_take_13 : decode cX11_take 13 = .ok (.putfield 123, 3) := by decide +kernel
theorem dX11_take_16 : decode cX11_take 16 = .ok (.aload_n 0, 1) := by decide +kernel
theorem dX11_take_17 : decode cX11_take 17 = .ok (.aload_n 0, 1) := by decide +kernel
theorem dX11_take_18 : decode cX11_take 18 = .ok (.getfield 104, 3) := by decide +kernel
theorem dX11_take_21 : decode cX11_take 21 = .ok (.putfield 129, 3) := by decide +kernel
theorem dX11_take_24 : decode cX11_take 24 = .ok (.iconst 0, 1) := by decide +kernel
theorem dX11_take_25 : decode cX11_take 25 = .ok (.istore_n 1, 1) := by decide +kernel
theorem dX11_take_26 : decode cX11_take 26 = .ok (.iconst 0, 1) := by decide +kernel
theorem dX11_take_27 : decode cX11_take 27 = .ok (.istore_n 2, 1) := by decide +kernel
theorem dX11_take_28 : decode cX11_take 28 = .ok (.iload_n 2, 1) := by decide +kernel
theorem dX11_take_29 : decode cX11_take 29 = .ok (.bipush 8, 2) := by decide +kernel
theorem dX11_take_31 : decode cX11_take 31 = .ok (.if_icmp .ge 70, 3) := by decide +kernel
theorem dX11_take_34 : decode cX11_take 34 = .ok (.aload_n 0, 1) := by decide +kernel
theorem dX11_take_35 : decode cX11_take 35 = .ok (.getfield 17, 3) := by decide +kernel
theorem dX11_take_38 : decode cX11_take 38 = .ok (.iload_n 2, 1) := by decide +kernel
theorem dX11_take_39 : decode cX11_take 39 = .ok (.aload_n 0, 1) := by decide +kernel
theorem dX11_take_40 : decode cX11_take 40 = .ok (.getfield 17, 3) := by decide +kernel
theorem dX11_take_43 : decode cX11_take 43 = .ok (.bipush 8, 2) := by decide +kernel
theorem dX11_take_45 : decode cX11_take 45 = .ok (.iload_n 2, 1) := by decide +kernel
theorem dX11_take_46 : decode cX11_take 46 = .ok (.iadd, 1) := by decide +kernel
theorem dX11_take_47 : decode cX11_take 47 = .ok (.iaload, 1) := by decide +kernel
theorem dX11_take_48 : decode cX11_take 48 = .ok (.iastore, 1) := by decide +kernel
theorem dX11_take_49 : decode cX11_take 49 = .ok (.aload_n 0, 1) := by decide +kernel
theorem dX11_take_50 : decode cX11_take 50 = .ok (.getfield 20, 3) := by decide +kernel
theorem dX11_take_53 : decode cX11_take 53 = .ok (.iload_n 2, 1) := by decide +kernel
theorem dX11_take_54 : decode cX11_take 54 = .ok (.aload_n 0, 1) := by decide +kernel
theorem dX11_take_55 : decode cX11_take 55 = .ok (.getfield 20, 3) := by decide +kernel
theorem dX11_take_58 : decode cX11_take 58 = .ok (.bipush 8, 2) := by decide +kernel
theorem dX11_take_60 : decode cX11_take 60 = .ok (.iload_n 2, 1) := by decide +kernel
theorem dX11_take_61 : decode cX11_take 61 = .ok (.iadd, 1) := by decide +kernel
theorem dX11_take_62 : decode cX11_take 62 = .ok (.iaload, 1) := by decide +kernel
theorem dX11_take_63 : decode cX11_take 63 = .ok (.iastore, 1) := by decide +kernel
theorem dX11_take_64 : decode cX11_take 64 = .ok (.iload_n 1, 1) := by decide +kernel
theorem dX11_take_65 : decode cX11_take 65 = .ok (.iload_n 2, 1) := by decide +kernel
theorem dX11_take_66 : decode cX11_take 66 = .ok (.aload_n 0, 1) := by decide +kernel
theorem dX11_take_67 : decode cX11_take 67 = .ok (.getfield 123, 3) := by decide +kernel
theorem dX11_take_70 : decode cX11_take 70 = .ok (.if_icmp .ge 17, 3) := by decide +kernel
theorem dX11_take_73 : decode cX11_take 73 = .ok (.aload_n 0, 1) := by decide +kernel
theorem dX11_take_74 : decode cX11_take 74 = .ok (.getfield 20, 3) := by decide +kernel
theorem dX11_take_77 : decode cX11_take 77 = .ok (.iload_n 2, 1) := by decide +kernel
theorem dX11_take_78 : decode cX11_take 78 = .ok (.iaload, 1) := by decide +kernel
theorem dX11_take_79 : decode cX11_take 79 = .ok (.iconst 1, 1) := by decide +kernel
theorem dX11_take_80 : decode cX11_take 80 = .ok (.if_icmp .ne 7, 3) := by decide +kernel
theorem dX11_take_83 : decode cX11_take 83 = .ok (.iconst 1, 1) := by decide +kernel
theorem dX11_take_84 : decode cX11_take 84 = .ok (.goto 4, 3) := by decide +kernel
theorem dX11_take_87 : decode cX11_take 87 = .ok (.iconst 0, 1) := by decide +kernel
theorem dX11_take_88 : decode cX11_take 88 = .ok (.invokestatic 132, 3) := by decide +kernel
theorem dX11_take_91 : decode cX11_take 91 = .ok (.iload_n 2, 1) := by decide +kernel
theorem dX11_take_92 : decode cX11_take 92 = .ok (.ishl, 1) := by decide +kernel
theorem dX11_take_93 : decode cX11_take 93 = .ok (.ior, 1) := by decide +kernel
theorem dX11_take_94 : decode cX11_take 94 = .ok (.istore_n 1, 1) := by decide +kernel
theorem dX11_take_95 : decode cX11_take 95 = .ok (.iinc 2 1, 3) := by decide +kernel
theorem dX11_take_98 : decode cX11_take 98 = .ok (.goto (-70), 3) := by decide +kernel
theorem dX11_take_101 : decode cX11_take 101 = .ok (.iconst 0, 1) := by decide +kernel
theorem dX11_take_102 : decode cX11_take 102 = .ok (.istore_n 2, 1) := by decide +kernel
theorem dX11_take_103 : decode cX11_take 103 = .ok (.iload_n 2, 1) := by decide +kernel
theorem dX11_take_104 : decode cX11_take 104 = .ok (.bipush 9, 2) := by decide +kernel
theorem dX11_take_106 : decode cX11_take 106 = .ok (.if_icmp .ge 66, 3) := by decide +kernel
theorem dX11_take_109 : decode cX11_take 109 = .ok (.aload_n 0, 1) := by decide +kernel
theorem dX11_take_110 : decode cX11_take 110 = .ok (.getfield 23, 3) := by decide +kernel
theorem dX11_take_113 : decode cX11_take 113 = .ok (.iload_n 2, 1) := by decide +kernel
theorem dX11_take_114 : decode cX11_take 114 = .ok (.aload_n 0, 1) := by decide +kernel
theorem dX11_take_115 : decode cX11_take 115 = .ok (.getfield 23, 3) := by decide +kernel
theorem dX11_take_118 : decode cX11_take 118 = .ok (.bipush 9, 2) := by decide +kernel
theorem dX11_take_120 : decode cX11_take 120 = .ok (.iload_n 2, 1) := by decide +kernel
theorem dX11_take_121 : decode cX11_take 121 = .ok (.iadd, 1) := by decide +kernel
theorem dX11_take_122 : decode cX11_take 122 = .ok (.iaload, 1) := by decide +kernel
theorem dX11_take_123 : decode cX11_take 123 = .ok (.iastore, 1) := by decide +kernel
theorem dX11_take_124 : decode cX11_take 124 = .ok (.aload_n 0, 1) := by decide +kernel
theorem dX11_take_125 : decode cX11_take 125 = .ok (.getfield 26, 3) := by decide +kernel
theorem dX11_take_128 : decode cX11_take 128 = .ok (.iload_n 2, 1) := by decide +kernel
theorem dX11_take_129 : decode cX11_take 129 = .ok (.aload_n 0, 1) := by decide +kernel
theorem dX11_take_130 : decode cX11_take 130 = .ok (.getfield 26, 3) := by decide +kernel
theorem dX11_take_133 : decode cX11_take 133 = .ok (.bipush 9, 2) := by decide +kernel
theorem dX11_take_135 : decode cX11_take 135 = .ok (.iload_n 2, 1) := by decide +kernel
theorem dX11_take_136 : decode cX11_take 136 = .ok (.iadd, 1) := by decide +kernel
theorem dX11_take_137 : decode cX11_take 137 = .ok (.iaload, 1) := by decide +kernel
theorem dX11_take_138 : decode cX11_take 138 = .ok (.iastore, 1) := by decide +kernel
theorem dX11_take_139 : decode cX11_take 139 = .ok (.aload_n 0, 1) := by decide +kernel
theorem dX11_take_140 : decode cX11_take 140 = .ok (.getfield 29, 3) := by decide +kernel
theorem dX11_take_143 : decode cX11_take 143 = .ok (.iload_n 2, 1) := by decide +kernel
theorem dX11_take_144 : decode cX11_take 144 = .ok (.aload_n 0, 1) := by decide +kernel
theorem dX11_take_145 : decode cX11_take 145 = .ok (.getfield 29, 3) := by decide +kernel
theorem dX11_take_148 : decode cX11_take 148 = .ok (.bipush 9, 2) := by decide +kernel
theorem dX11_take_150 : decode cX11_take 150 = .ok (.iload_n 2, 1) := by decide +kernel
theorem dX11_take_151 : decode cX11_take 151 = .ok (.iadd, 1) := by decide +kernel
theorem dX11_take_152 : decode cX11_take 152 = .ok (.iaload, 1) := by decide +kernel
theorem dX11_take_153 : decode cX11_take 153 = .ok (.iastore, 1) := by decide +kernel
theorem dX11_take_154 : decode cX11_take 154 = .ok (.aload_n 0, 1) := by decide +kernel
theorem dX11_take_155 : decode cX11_take 155 = .ok (.getfield 7, 3) := by decide +kernel
theorem dX11_take_158 : decode cX11_take 158 = .ok (.iload_n 2, 1) := by decide +kernel
theorem dX11_take_159 : decode cX11_take 159 = .ok (.aload_n 0, 1) := by decide +kernel
theorem dX11_take_160 : decode cX11_take 160 = .ok (.getfield 23, 3) := by decide +kernel
theorem dX11_take_163 : decode cX11_take 163 = .ok (.iload_n 2, 1) := by decide +kernel
theorem dX11_take_164 : decode cX11_take 164 = .ok (.iaload, 1) := by decide +kernel
theorem dX11_take_165 : decode cX11_take 165 = .ok (.iastore, 1) := by decide +kernel
theorem dX11_take_166 : decode cX11_take 166 = .ok (.iinc 2 1, 3) := by decide +kernel
theorem dX11_take_169 : decode cX11_take 169 = .ok (.goto (-66), 3) := by decide +kernel
theorem dX11_take_172 : decode cX11_take 172 = .ok (.aload_n 0, 1) := by decide +kernel
theorem dX11_take_173 : decode cX11_take 173 = .ok (.getfield 7, 3) := by decide +kernel
theorem dX11_take_176 : decode cX11_take 176 = .ok (.bipush 9, 2) := by decide +kernel
theorem dX11_take_178 : decode cX11_take 178 = .ok (.iconst 0, 1) := by decide +kernel
theorem dX11_take_179 : decode cX11_take 179 = .ok (.iastore, 1) := by decide +kernel
theorem dX11_take_180 : decode cX11_take 180 = .ok (.aload_n 0, 1) := by decide +kernel
theorem dX11_take_181 : decode cX11_take 181 = .ok (.getfield 7, 3) := by decide +kernel
theorem dX11_take_184 : decode cX11_take 184 = .ok (.bipush 10, 2) := by decide +kernel
theorem dX11_take_186 : decode cX11_take 186 = .ok (.iconst 0, 1) := by decide +kernel
theorem dX11_take_187 : decode cX11_take 187 = .ok (.iastore, 1) := by decide +kernel
theorem dX11_take_188 : decode cX11_take 188 = .ok (.aload_n 0, 1) := by decide +kernel
theorem dX11_take_189 : decode cX11_take 189 = .ok (.getfield 7, 3) := by decide +kernel
theorem dX11_take_192 : decode cX11_take 192 = .ok (.bipush 11, 2) := by decide +kernel
theorem dX11_take_194 : decode cX11_take 194 = .ok (.iload_n 1, 1) := by decide +kernel
theorem dX11_take_195 : decode cX11_take 195 = .ok (.iastore, 1) := by decide +kernel
theorem dX11_take_196 : decode cX11_take 196 = .ok (.aload_n 0, 1) := by decide +kernel
theorem dX11_take_197 : decode cX11_take 197 = .ok (.getfield 7, 3) := by decide +kernel
theorem dX11_take_200 : decode cX11_take 200 = .ok (.bipush 12, 2) := by decide +kernel
theorem dX11_take_202 : decode cX11_take 202 = .ok (.iconst 0, 1) := by decide +kernel
theorem dX11_take_203 : decode cX11_take 203 = .ok (.iastore, 1) := by decide +kernel
theorem dX11_take_204 : decode cX11_take 204 = .ok (.aload_n 0, 1) := by decide +kernel
theorem dX11_take_205 : decode cX11_take 205 = .ok (.getfield 7, 3) := by decide +kernel
theorem dX11_take_208 : decode cX11_take 208 = .ok (.bipush 13, 2) := by decide +kernel
theorem dX11_take_210 : decode cX11_take 210 = .ok (.iconst 0, 1) := by decide +kernel
theorem dX11_take_211 : decode cX11_take 211 = .ok (.iastore, 1) := by decide +kernel
theorem dX11_take_212 : decode cX11_take 212 = .ok (.aload_n 0, 1) := by decide +kernel
theorem dX11_take_213 : decode cX11_take 213 = .ok (.getfield 7, 3) := by decide +kernel
theorem dX11_take_216 : decode cX11_take 216 = .ok (.bipush 14, 2) := by decide +kernel
theorem dX11_take_218 : decode cX11_take 218 = .ok (.iconst (-1), 1) := by decide +kernel
theorem dX11_take_219 : decode cX11_take 219 = .ok (.iastore, 1) := by decide +kernel
theorem dX11_take_220 : decode cX11_take 220 = .ok (.aload_n 0, 1) := by decide +kernel
theorem dX11_take_221 : decode cX11_take 221 = .ok (.getfield 7, 3) := by decide +kernel
theorem dX11_take_224 : decode cX11_take 224 = .ok (.bipush 15, 2) := by decide +kernel
theorem dX11_take_226 : decode cX11_take 226 = .ok (.iconst 0, 1) := by decide +kernel
theorem dX11_take_227 : decode cX11_take 227 = .ok (.iastore, 1) := by decide +kernel
theorem dX11_take_228 : decode cX11_take 228 = .ok (.aload_n 0, 1) := by decide +kernel
theorem dX11_take_229 : decode cX11_take 229 = .ok (.iconst 0, 1) := by decide +kernel
theorem dX11_take_230 : decode cX11_take 230 = .ok (.putfield 136, 3) := by decide +kernel
theorem dX11_take_233 : decode cX11_take 233 = .ok (.aload_n 0, 1) := by decide +kernel
theorem dX11_take_234 : decode cX11_take 234 = .ok (.iconst 0, 1) := by decide +kernel
theorem dX11_take_235 : decode cX11_take 235 = .ok (.putfield 139, 3) := by decide +kernel
theorem dX11_take_238 : decode cX11_take 238 = .ok (.aload_n 0, 1) := by decide +kernel
theorem dX11_take_239 : decode cX11_take 239 = .ok (.iconst 0, 1) := by decide +kernel
theorem dX11_take_240 : decode cX11_take 240 = .ok (.putfield 142, 3) := by decide +kernel
theorem dX11_take_243 : decode cX11_take 243 = .ok (.aload_n 0, 1) := by decide +kernel
theorem dX11_take_244 : decode cX11_take 244 = .ok (.getfield 13, 3) := by decide +kernel
theorem dX11_take_247 : decode cX11_take 247 = .ok (.iconst 0, 1) := by decide +kernel
theorem dX11_take_248 : decode cX11_take 248 = .ok (.iconst 0, 1) := by decide +kernel
theorem dX11_take_249 : decode cX11_take 249 = .ok (.bastore, 1) := by decide +kernel
theorem dX11_take_250 : decode cX11_take 250 = .ok (.aload_n 0, 1) := by decide +kernel
theorem dX11_take_251 : decode cX11_take 251 = .ok (.getfield 13, 3) := by decide +kernel
theorem dX11_take_254 : decode cX11_take 254 = .ok (.iconst 1, 1) := by decide +kernel
theorem dX11_take_255 : decode cX11_take 255 = .ok (.iconst 0, 1) := by decide +kernel
theorem dX11_take_256 : decode cX11_take 256 = .ok (.bastore, 1) := by decide +kernel
theorem dX11_take_257 : decode cX11_take 257 = .ok (.return_, 1) := by decide +kernel
theorem dX11_fault_0 : decode cX11_fault 0 = .ok (.aload_n 0, 1) := by decide +kernel
theorem dX11_fault_1 : decode cX11_fault 1 = .ok (.getfield 35, 3) := by decide +kernel
theorem dX11_fault_4 : decode cX11_fault 4 = .ok (.ireturn, 1) := by decide +kernel
set_option maxRecDepth 20000 in
theorem ggX11_isCorner_X11_in : GoodIn wsX11_isCorner wsX11_in := goodIn_r _ [5] (by decide +kernel) (by decide +kernel)
set_option maxRecDepth 20000 in
theorem gX11_isCorner_X11_in : GoodIn wsX11_isCorner (va_wsS RX11 60 yX11_in wsX11_in) := goodIn_app (goodIn_of _ (by decide +kernel)) ggX11_isCorner_X11_in
theorem dX11_isCorner_0 : decode cX11_isCorner 0 = .ok (.iload_n 1, 1) := by decide +kernel
theorem dX11_isCorner_1 : decode cX11_isCorner 1 = .ok (.i2l, 1) := by decide +kernel
theorem dX11_isCorner_2 : decode cX11_isCorner 2 = .ok (.lconst 0, 1) := by decide +kernel
theorem dX11_isCorner_3 : decode cX11_isCorner 3 = .ok (.aload_n 0, 1) := by decide +kernel
theorem dX11_isCorner_4 : decode cX11_isCorner 4 = .ok (.getfield 123, 3) := by decide +kernel
theorem dX11_isCorner_7 : decode cX11_isCorner 7 = .ok (.iconst 1, 1) := by decide +kernel
theorem dX11_isCorner_8 : decode cX11_isCorner 8 = .ok (.isub, 1) := by decide +kernel
theorem dX11_isCorner_9 : decode cX11_isCorner 9 = .ok (.i2l, 1) := by decide +kernel
theorem dX11_isCorner_10 : decode cX11_isCorner 10 = .ok (.invokestatic 60, 3) := by decide +kernel
theorem dX11_isCorner_13 : decode cX11_isCorner 13 = .ok (.ireturn, 1) := by decide +kernel
set_option maxRecDepth 20000 in
theorem ggX11_isHearer_X11_in : GoodIn wsX11_isHearer wsX11_in := goodIn_r _ [5] (by decide +kernel) (by decide +kernel)
set_option maxRecDepth 20000 in
theorem gX11_isHearer_X11_in : GoodIn wsX11_isHearer (va_wsS RX11 60 yX11_in wsX11_in) := goodIn_app (goodIn_of _ (by decide +kernel)) ggX11_isHearer_X11_in
theorem dX11_isHearer_0 : decode cX11_isHearer 0 = .ok (.iload_n 1, 1) := by decide +kernel
theorem dX11_isHearer_1 : decode cX11_isHearer 1 = .ok (.i2l, 1) := by decide +kernel
theorem dX11_isHearer_2 : decode cX11_isHearer 2 = .ok (.lconst 0, 1) := by decide +kernel
theorem dX11_isHearer_3 : decode cX11_isHearer 3 = .ok (.aload_n 0, 1) := by decide +kernel
theorem dX11_isHearer_4 : decode cX11_isHearer 4 = .ok (.getfield 129, 3) := by decide +kernel
theorem dX11_isHearer_7 : decode cX11_isHearer 7 = .ok (.iconst 1, 1) := by decide +kernel
theorem dX11_isHearer_8 : decode cX11_isHearer 8 = .ok (.isub, 1) := by decide +kernel
theorem dX11_isHearer_9 : decode cX11_isHearer 9 = .ok (.i2l, 1) := by decide +kernel
theorem dX11_isHearer_10 : decode cX11_isHearer 10 = .ok (.invokestatic 60, 3) := by decide +kernel
theorem dX11_isHearer_13 : decode cX11_isHearer 13 = .ok (.ireturn, 1) := by decide +kernel
theorem dX11_isDecree_0 : decode cX11_isDecree 0 = .ok (.iload_n 1, 1) := by decide +kernel
theorem dX11_isDecree_1 : decode cX11_isDecree 1 = .ok (.ifCond .lt 18, 3) := by decide +kernel
theorem dX11_isDecree_4 : decode cX11_isDecree 4 = .ok (.iload_n 1, 1) := by decide +kernel
theorem dX11_isDecree_5 : decode cX11_isDecree 5 = .ok (.aload_n 0, 1) := by decide +kernel
theorem dX11_isDecree_6 : decode cX11_isDecree 6 = .ok (.getfield 126, 3) := by decide +kernel
theorem dX11_isDecree_9 : decode cX11_isDecree 9 = .ok (.iconst (-1), 1) := by decide +kernel
theorem dX11_isDecree_10 : decode cX11_isDecree 10 = .ok (.ixor, 1) := by decide +kernel
theorem dX11_isDecree_11 : decode cX11_isDecree 11 = .ok (.iand, 1) := by decide +kernel
theorem dX11_isDecree_12 : decode cX11_isDecree 12 = .ok (.ifCond .ne 7, 3) := by decide +kernel
theorem dX11_isDecree_15 : decode cX11_isDecree 15 = .ok (.iconst 1, 1) := by decide +kernel
theorem dX11_isDecree_16 : decode cX11_isDecree 16 = .ok (.goto 4, 3) := by decide +kernel
theorem dX11_isDecree_19 : decode cX11_isDecree 19 = .ok (.iconst 0, 1) := by decide +kernel
theorem dX11_isDecree_20 : decode cX11_isDecree 20 = .ok (.ireturn, 1) := by decide +kernel
set_option maxRecDepth 20000 in
theorem ggX11_isWay_X11_in : GoodIn wsX11_isWay wsX11_in := goodIn_r _ [4] (by decide +kernel) (by decide +kernel)
set_option maxRecDepth 20000 in
theorem gX11_isWay_X11_in : GoodIn wsX11_isWay (va_wsS RX11 60 yX11_in wsX11_in) := goodIn_app (goodIn_of _ (by decide +kernel)) ggX11_isWay_X11_in
theorem dX11_isWay_0 : decode cX11_isWay 0 = .ok (.iload_n 0, 1) := by decide +kernel
theorem dX11_isWay_1 : decode cX11_isWay 1 = .ok (.i2l, 1) := by decide +kernel
theorem dX11_isWay_2 : decode cX11_isWay 2 = .ok (.lconst 0, 1) := by decide +kernel
theorem dX11_isWay_3 : decode cX11_isWay 3 = .ok (.lconst 1, 1) := by decide +kernel
theorem dX11_isWay_4 : decode cX11_isWay 4 = .ok (.invokestatic 60, 3) := by decide +kernel
theorem dX11_isWay_7 : decode cX11_isWay 7 = .ok (.ireturn, 1) := by decide +kernel
theorem dX11_told_0 : decode cX11_told 0 = .ok (.iload_n 1, 1) := by decide +kernel
theorem dX11_told_1 : decode cX11_told 1 = .ok (.tableswitch 162 0 13 #[71, 76, 81, 86, 91, 99, 107, 115, 123, 131, 139, 147, 152, 157], 71) := by decide +kernel
theorem dX11_told_72 : decode cX11_told 72 = .ok (.aload_n 0, 1) := by decide +kernel
theorem dX11_told_73 : decode cX11_told 73 = .ok (.getfield 126, 3) := by decide +kernel
theorem dX11_told_76 : decode cX11_told 76 = .ok (.ireturn, 1) := by decide +kernel
theorem dX11_told_77 : decode cX11_told 77 = .ok (.aload_n 0, 1) := by decide +kernel
theorem dX11_told_78 : decode cX11_told 78 = .ok (.getfield 123, 3) := by decide +kernel
theorem dX11_told_81 : decode cX11_told 81 = .ok (.ireturn, 1) := by decide +kernel
theorem dX11_told_82 : decode cX11_told 82 = .ok (.aload_n 0, 1) := by decide +kernel
theorem dX11_told_83 : decode cX11_told 83 = .ok (.getfield 129, 3) := by decide +kernel
theorem dX11_told_86 : decode cX11_told 86 = .ok (.ireturn, 1) := by decide +kernel
theorem dX11_told_87 : decode cX11_told 87 = .ok (.aload_n 0, 1) := by decide +kernel
theorem dX11_told_88 : decode cX11_told 88 = .ok (.getfield 65, 3) := by decide +kernel
theorem dX11_told_91 : decode cX11_told 91 = .ok (.ireturn, 1) := by decide +kernel
theorem dX11_told_92 : decode cX11_told 92 = .ok (.aload_n 0, 1) := by decide +kernel
theorem dX11_told_93 : decode cX11_told 93 = .ok (.getfield 7, 3) := by decide +kernel
theorem dX11_told_96 : decode cX11_told 96 = .ok (.bipush 12, 2) := by decide +kernel
theorem dX11_told_98 : decode cX11_told 98 = .ok (.iaload, 1) := by decide +kernel
theorem dX11_told_99 : decode cX11_told 99 = .ok (.ireturn, 1) := by decide +kernel
theorem dX11_told_100 : decode cX11_told 100 = .ok (.aload_n 0, 1) := by decide +kernel
theorem dX11_told_101 : decode cX11_told 101 = .ok (.getfield 7, 3) := by decide +kernel
theorem dX11_told_104 : decode cX11_told 104 = .ok (.bipush 13, 2) := by decide +kernel
theorem dX11_told_106 : decode cX11_told 106 = .ok (.iaload, 1) := by decide +kernel
theorem dX11_told_107 : decode cX11_told 107 = .ok (.ireturn, 1) := by decide +kernel
theorem dX11_told_108 : decode cX11_told 108 = .ok (.aload_n 0, 1) := by decide +kernel
theorem dX11_told_109 : decode cX11_told 109 = .ok (.getfield 7, 3) := by decide +kernel
theorem dX11_told_112 : decode cX11_told 112 = .ok (.bipush 14, 2) := by decide +kernel
theorem dX11_told_114 : decode cX11_told 114 = .ok (.iaload, 1) := by decide +kernel
theorem dX11_told_115 : decode cX11_told 115 = .ok (.ireturn, 1) := by decide +kernel
theorem dX11_told_116 : decode cX11_told 116 = .ok (.aload_n 0, 1) := by decide +kernel
theorem dX11_told_117 : decode cX11_told 117 = .ok (.getfield 7, 3) := by decide +kernel
theorem dX11_told_120 : decode cX11_told 120 = .ok (.bipush 15, 2) := by decide +kernel
theorem dX11_told_122 : decode cX11_told 122 = .ok (.iaload, 1) := by decide +kernel
theorem dX11_told_123 : decode cX11_told 123 = .ok (.ireturn, 1) := by decide +kernel
theorem dX11_told_124 : decode cX11_told 124 = .ok (.aload_n 0, 1) := by decide +kernel
theorem dX11_told_125 : decode cX11_told 125 = .ok (.getfield 7, 3) := by decide +kernel
theorem dX11_told_128 : decode cX11_told 128 = .ok (.bipush 9, 2) := by decide +kernel
theorem dX11_told_130 : decode cX11_told 130 = .ok (.iaload, 1) := by decide +kernel
theorem dX11_told_131 : decode cX11_told 131 = .ok (.ireturn, 1) := by decide +kernel
theorem dX11_told_132 : decode cX11_told 132 = .ok (.aload_n 0, 1) := by decide +kernel
theorem dX11_told_133 : decode cX11_told 133 = .ok (.getfield 7, 3) := by decide +kernel
theorem dX11_told_136 : decode cX11_told 136 = .ok (.bipush 10, 2) := by decide +kernel
theorem dX11_told_138 : decode cX11_told 138 = .ok (.iaload, 1) := by decide +kernel
theorem dX11_told_139 : decode cX11_told 139 = .ok (.ireturn, 1) := by decide +kernel
theorem dX11_told_140 : decode cX11_told 140 = .ok (.aload_n 0, 1) := by decide +kernel
theorem dX11_told_141 : decode cX11_told 141 = .ok (.getfield 7, 3) := by decide +kernel
theorem dX11_told_144 : decode cX11_told 144 = .ok (.bipush 11, 2) := by decide +kernel
theorem dX11_told_146 : decode cX11_told 146 = .ok (.iaload, 1) := by decide +kernel
theorem dX11_told_147 : decode cX11_told 147 = .ok (.ireturn, 1) := by decide +kernel
theorem dX11_told_148 : decode cX11_told 148 = .ok (.aload_n 0, 1) := by decide +kernel
theorem dX11_told_149 : decode cX11_told 149 = .ok (.getfield 136, 3) := by decide +kernel
theorem dX11_told_152 : decode cX11_told 152 = .ok (.ireturn, 1) := by decide +kernel
theorem dX11_told_153 : decode cX11_told 153 = .ok (.aload_n 0, 1) := by decide +kernel
theorem dX11_told_154 : decode cX11_told 154 = .ok (.getfield 139, 3) := by decide +kernel
theorem dX11_told_157 : decode cX11_told 157 = .ok (.ireturn, 1) := by decide +kernel
theorem dX11_told_158 : decode cX11_told 158 = .ok (.aload_n 0, 1) := by decide +kernel
theorem dX11_told_159 : decode cX11_told 159 = .ok (.getfield 142, 3) := by decide +kernel
theorem dX11_told_162 : decode cX11_told 162 = .ok (.ireturn, 1) := by decide +kernel
theorem dX11_told_163 : decode cX11_told 163 = .ok (.ldc 64, 2) := by decide +kernel
theorem dX11_told_165 : decode cX11_told 165 = .ok (.ireturn, 1) := by decide +kernel
set_option maxRecDepth 20000 in
theorem ggX11_hearer_X11_isHearer : GoodIn wsX11_hearer wsX11_isHearer := goodIn_r _ [10, 11, 12, 13, 9, 14, 15, 16, 17, 18, 19, 20, 21, 22, 23, 24, 25, 26, 27, 28, 29, 30, 31, 32, 33, 34, 35, 36, 37, 38, 39, 40, 41, 42, 43] (by decide +kernel) (by decide +kernel)
set_option maxRecDepth 20000 in
theorem gX11_hearer_X11_isHearer : GoodIn wsX11_hearer (wsV RX11 145 RX11 yX11_isHearer wsX11_isHearer) := goodIn_app (goodIn_of _ (by decide +kernel)) ggX11_hearer_X11_isHearer
theorem dX11_hearer_0 : decode cX11_hearer 0 = .ok (.aload_n 0, 1) := by decide +kernel
theorem dX11_hearer_1 : decode cX11_hearer 1 = .ok (.iload_n 1, 1) := by decide +kernel
theorem dX11_hearer_2 : decode cX11_hearer 2 = .ok (.invokevirtual 145, 3) := by decide +kernel
theorem dX11_hearer_5 : decode cX11_hearer 5 = .ok (.ifCond .ne 6, 3) := by decide +kernel
theorem dX11_hearer_8 : decode cX11_hearer 8 = .ok (.ldc 149, 2) := by decide +kernel
theorem dX11_hearer_10 : decode cX11_hearer 10 = .ok (.ireturn, 1) := by decide +kernel
theorem dX11_hearer_11 : decode cX11_hearer 11 = .ok (.iload_n 2, 1) := by decide +kernel
theorem dX11_hearer_12 : decode cX11_hearer 12 = .ok (.tableswitch 96 0 4 #[36, 43, 50, 72, 84], 36) := by decide +kernel
theorem dX11_hearer_48 : decode cX11_hearer 48 = .ok (.aload_n 0, 1) := by decide +kernel
theorem dX11_hearer_49 : decode cX11_hearer 49 = .ok (.getfield 7, 3) := by decide +kernel
theorem dX11_hearer_52 : decode cX11_hearer 52 = .ok (.iload_n 1, 1) := by decide +kernel
theorem dX11_hearer_53 : decode cX11_hearer 53 = .ok (.iaload, 1) := by decide +kernel
theorem dX11_hearer_54 : decode cX11_hearer 54 = .ok (.ireturn, 1) := by decide +kernel
theorem dX11_hearer_55 : decode cX11_hearer 55 = .ok (.aload_n 0, 1) := by decide +kernel
theorem dX11_hearer_56 : decode cX11_hearer 56 = .ok (.getfield 26, 3) := by decide +kernel
theorem dX11_hearer_59 : decode cX11_hearer 59 = .ok (.iload_n 1, 1) := by decide +kernel
theorem dX11_hearer_60 : decode cX11_hearer 60 = .ok (.iaload, 1) := by decide +kernel
theorem dX11_hearer_61 : decode cX11_hearer 61 = .ok (.ireturn, 1) := by decide +kernel
theorem dX11_hearer_62 : decode cX11_hearer 62 = .ok (.aload_n 0, 1) := by decide +kernel
theorem dX11_hearer_63 : decode cX11_hearer 63 = .ok (.getfield 29, 3) := by decide +kernel
theorem dX11_hearer_66 : decode cX11_hearer 66 = .ok (.iload_n 1, 1) := by decide +kernel
theorem dX11_hearer_67 : decode cX11_hearer 67 = .ok (.iaload, 1) := by decide +kernel
theorem dX11_hearer_68 : decode cX11_hearer 68 = .ok (.bipush 8, 2) := by decide +kernel
theorem dX11_hearer_70 : decode cX11_hearer 70 = .ok (.if_icmp .ne 7, 3) := by decide +kernel
theorem dX11_hearer_73 : decode cX11_hearer 73 = .ok (.iconst (-1), 1) := by decide +kernel
theorem dX11_hearer_74 : decode cX11_hearer 74 = .ok (.goto 9, 3) := by decide +kernel
theorem dX11_hearer_77 : decode cX11_hearer 77 = .ok (.aload_n 0, 1) := by decide +kernel
theorem dX11_hearer_78 : decode cX11_hearer 78 = .ok (.getfield 29, 3) := by decide +kernel
theorem dX11_hearer_81 : decode cX11_hearer 81 = .ok (.iload_n 1, 1) := by decide +kernel
theorem dX11_hearer_82 : decode cX11_hearer 82 = .ok (.iaload, 1) := by decide +kernel
theorem dX11_hearer_83 : decode cX11_hearer 83 = .ok (.ireturn, 1) := by decide +kernel
theorem dX11_hearer_84 : decode cX11_hearer 84 = .ok (.aload_n 0, 1) := by decide +kernel
theorem dX11_hearer_85 : decode cX11_hearer 85 = .ok (.getfield 7, 3) := by decide +kernel
theorem dX11_hearer_88 : decode cX11_hearer 88 = .ok (.bipush 9, 2) := by decide +kernel
theorem dX11_hearer_90 : decode cX11_hearer 90 = .ok (.iaload, 1) := by decide +kernel
theorem dX11_hearer_91 : decode cX11_hearer 91 = .ok (.iload_n 1, 1) := by decide +kernel
theorem dX11_hearer_92 : decode cX11_hearer 92 = .ok (.ishr, 1) := by decide +kernel
theorem dX11_hearer_93 : decode cX11_hearer 93 = .ok (.iconst 1, 1) := by decide +kernel
theorem dX11_hearer_94 : decode cX11_hearer 94 = .ok (.iand, 1) := by decide +kernel
theorem dX11_hearer_95 : decode cX11_hearer 95 = .ok (.ireturn, 1) := by decide +kernel
theorem dX11_hearer_96 : decode cX11_hearer 96 = .ok (.aload_n 0, 1) := by decide +kernel
theorem dX11_hearer_97 : decode cX11_hearer 97 = .ok (.getfield 7, 3) := by decide +kernel
theorem dX11_hearer_100 : decode cX11_hearer 100 = .ok (.bipush 10, 2) := by decide +kernel
theorem dX11_hearer_102 : decode cX11_hearer 102 = .ok (.iaload, 1) := by decide +kernel
theorem dX11_hearer_103 : decode cX11_hearer 103 = .ok (.iload_n 1, 1) := by decide +kernel
theorem dX11_hearer_104 : decode cX11_hearer 104 = .ok (.ishr, 1) := by decide +kernel
theorem dX11_hearer_105 : decode cX11_hearer 105 = .ok (.iconst 1, 1) := by decide +kernel
theorem dX11_hearer_106 : decode cX11_hearer 106 = .ok (.iand, 1) := by decide +kernel
theorem dX11_hearer_107 : decode cX11_hearer 107 = .ok (.ireturn, 1) := by decide +kernel
theorem dX11_hearer_108 : decode cX11_hearer 108 = .ok (.ldc 64, 2) := by decide +kernel
theorem dX11_hearer_110 : decode cX11_hearer 110 = .ok (.ireturn, 1) := by decide +kernel
set_option maxRecDepth 20000 in
theorem ggX11_standing_X11_one : GoodIn wsX11_standing wsX11_one := goodIn_r _ [6] (by decide +kernel) (by decide +kernel)
set_option maxRecDepth 20000 in
theorem gX11_standing_X11_one : GoodIn wsX11_standing (va_wsS RX11 132 yX11_one wsX11_one) := goodIn_app (goodIn_of _ (by decide +kernel)) ggX11_standing_X11_one
theorem dX11_standing_0 : decode cX11_standing 0 = .ok (.iconst 0, 1) := by decide +kernel
theorem dX11_standing_1 : decode cX11_standing 1 = .ok (.istore_n 3, 1) := by decide +kernel
theorem dX11_standing_2 : decode cX11_standing 2 = .ok (.iconst 0, 1) := by decide +kernel
theorem dX11_standing_3 : decode cX11_standing 3 = .ok (.istore 4, 2) := by decide +kernel
theorem dX11_standing_5 : decode cX11_standing 5 = .ok (.iload 4, 2) := by decide +kernel
theorem dX11_standing_7 : decode cX11_standing 7 = .ok (.aload_n 0, 1) := by decide +kernel
theorem dX11_standing_8 : decode cX11_standing 8 = .ok (.getfield 129, 3) := by decide +kernel
theorem dX11_standing_11 : decode cX11_standing 11 = .ok (.if_icmp .ge 36, 3) := by decide +kernel
theorem dX11_standing_14 : decode cX11_standing 14 = .ok (.iload_n 3, 1) := by decide +kernel
theorem dX11_standing_15 : decode cX11_standing 15 = .ok (.aload_n 0, 1) := by decide +kernel
theorem dX11_standing_16 : decode cX11_standing 16 = .ok (.getfield 7, 3) := by decide +kernel
theorem dX11_standing_19 : decode cX11_standing 19 = .ok (.iload_n 1, 1) := by decide +kernel
theorem dX11_standing_20 : decode cX11_standing 20 = .ok (.iload 4, 2) := by decide +kernel
theorem dX11_standing_22 : decode cX11_standing 22 = .ok (.iadd, 1) := by decide +kernel
theorem dX11_standing_23 : decode cX11_standing 23 = .ok (.iaload, 1) := by decide +kernel
theorem dX11_standing_24 : decode cX11_standing 24 = .ok (.iload_n 2, 1) := by decide +kernel
theorem dX11_standing_25 : decode cX11_standing 25 = .ok (.if_icmp .ne 7, 3) := by decide +kernel
theorem dX11_standing_28 : decode cX11_standing 28 = .ok (.iconst 1, 1) := by decide +kernel
theorem dX11_standing_29 : decode cX11_standing 29 = .ok (.goto 4, 3) := by decide +kernel
theorem dX11_standing_32 : decode cX11_standing 32 = .ok (.iconst 0, 1) := by decide +kernel
theorem dX11_standing_33 : decode cX11_standing 33 = .ok (.invokestatic 132, 3) := by decide +kernel
theorem dX11_standing_36 : decode cX11_standing 36 = .ok (.iload 4, 2) := by decide +kernel
theorem dX11_standing_38 : decode cX11_standing 38 = .ok (.ishl, 1) := by decide +kernel
theorem dX11_standing_39 : decode cX11_standing 39 = .ok (.ior, 1) := by decide +kernel
theorem dX11_standing_40 : decode cX11_standing 40 = .ok (.istore_n 3, 1) := by decide +kernel
theorem dX11_standing_41 : decode cX11_standing 41 = .ok (.iinc 4 1, 3) := by decide +kernel
theorem dX11_standing_44 : decode cX11_standing 44 = .ok (.goto (-39), 3) := by decide +kernel
theorem dX11_standing_47 : decode cX11_standing 47 = .ok (.iload_n 3, 1) := by decide +kernel
theorem dX11_standing_48 : decode cX11_standing 48 = .ok (.ireturn, 1) := by decide +kernel
set_option maxRecDepth 20000 in
theorem ggX11_corner_X11_isCorner : GoodIn wsX11_corner wsX11_isCorner := goodIn_r _ [9, 10, 11, 12, 8, 13, 22, 23, 24, 25, 26, 27, 28, 29, 30, 31, 32, 33, 34, 35, 36, 37, 38, 39, 40, 41, 42, 43, 44, 45, 46, 47, 48, 49, 50] (by decide +kernel) (by decide +kernel)
set_option maxRecDepth 20000 in
theorem gX11_corner_X11_isCorner : GoodIn wsX11_corner (wsV RX11 150 RX11 yX11_isCorner wsX11_isCorner) := goodIn_app (goodIn_of _ (by decide +kernel)) ggX11_corner_X11_isCorner
set_option maxRecDepth 20000 in
theorem ggX11_corner_X11_standing : GoodIn wsX11_corner wsX11_standing := goodIn_r _ [17, 18, 3, 19, 20, 8, 21, 22, 23, 24, 25, 26, 27, 28, 29, 30, 31, 32, 33, 34, 35, 36, 37, 38, 39, 40, 41, 42, 43, 44, 45, 46, 47, 48, 49, 50] (by decide +kernel) (by decide +kernel)
set_option maxRecDepth 20000 in
theorem gX11_corner_X11_standing : GoodIn wsX11_corner (wsV RX11 153 RX11 yX11_standing wsX11_standing) := goodIn_app (goodIn_of _ (by decide +kernel)) ggX11_corner_X11_standing
theorem dX11_corner_0 : decode cX11_corner 0 = .ok (.aload_n 0, 1) := by decide +kernel
theorem dX11_corner_1 : decode cX11_corner 1 = .ok (.iload_n 1, 1) := by decide +kernel
theorem dX11_corner_2 : decode cX11_corner 2 = .ok (.invokevirtual 150, 3) := by decide +kernel
theorem dX11_corner_5 : decode cX11_corner 5 = .ok (.ifCond .ne 6, 3) := by decide +kernel
theorem dX11_corner_8 : decode cX11_corner 8 = .ok (.ldc 149, 2) := by decide +kernel
theorem dX11_corner_10 : decode cX11_corner 10 = .ok (.ireturn, 1) := by decide +kernel
theorem dX11_corner_11 : decode cX11_corner 11 = .ok (.iload_n 2, 1) := by decide +kernel
theorem dX11_corner_12 : decode cX11_corner 12 = .ok (.ifCond .ne 12, 3) := by decide +kernel
theorem dX11_corner_15 : decode cX11_corner 15 = .ok (.aload_n 0, 1) := by decide +kernel
theorem dX11_corner_16 : decode cX11_corner 16 = .ok (.getfield 17, 3) := by decide +kernel
theorem dX11_corner_19 : decode cX11_corner 19 = .ok (.iload_n 1, 1) := by decide +kernel
theorem dX11_corner_20 : decode cX11_corner 20 = .ok (.iaload, 1) := by decide +kernel
theorem dX11_corner_21 : decode cX11_corner 21 = .ok (.goto 38, 3) := by decide +kernel
theorem dX11_corner_24 : decode cX11_corner 24 = .ok (.iload_n 2, 1) := by decide +kernel
theorem dX11_corner_25 : decode cX11_corner 25 = .ok (.iconst 1, 1) := by decide +kernel
theorem dX11_corner_26 : decode cX11_corner 26 = .ok (.if_icmp .ne 17, 3) := by decide +kernel
theorem dX11_corner_29 : decode cX11_corner 29 = .ok (.aload_n 0, 1) := by decide +kernel
theorem dX11_corner_30 : decode cX11_corner 30 = .ok (.getfield 7, 3) := by decide +kernel
theorem dX11_corner_33 : decode cX11_corner 33 = .ok (.bipush 11, 2) := by decide +kernel
theorem dX11_corner_35 : decode cX11_corner 35 = .ok (.iaload, 1) := by decide +kernel
theorem dX11_corner_36 : decode cX11_corner 36 = .ok (.iload_n 1, 1) := by decide +kernel
theorem dX11_corner_37 : decode cX11_corner 37 = .ok (.ishr, 1) := by decide +kernel
theorem dX11_corner_38 : decode cX11_corner 38 = .ok (.iconst 1, 1) := by decide +kernel
theorem dX11_corner_39 : decode cX11_corner 39 = .ok (.iand, 1) := by decide +kernel
theorem dX11_corner_40 : decode cX11_corner 40 = .ok (.goto 19, 3) := by decide +kernel
theorem dX11_corner_43 : decode cX11_corner 43 = .ok (.iload_n 2, 1) := by decide +kernel
theorem dX11_corner_44 : decode cX11_corner 44 = .ok (.iconst 2, 1) := by decide +kernel
theorem dX11_corner_45 : decode cX11_corner 45 = .ok (.if_icmp .ne 12, 3) := by decide +kernel
theorem dX11_corner_48 : decode cX11_corner 48 = .ok (.aload_n 0, 1) := by decide +kernel
theorem dX11_corner_49 : decode cX11_corner 49 = .ok (.iconst 0, 1) := by decide +kernel
theorem dX11_corner_50 : decode cX11_corner 50 = .ok (.iload_n 1, 1) := by decide +kernel
theorem dX11_corner_51 : decode cX11_corner 51 = .ok (.invokevirtual 153, 3) := by decide +kernel
theorem dX11_corner_54 : decode cX11_corner 54 = .ok (.goto 5, 3) := by decide +kernel
theorem dX11_corner_57 : decode cX11_corner 57 = .ok (.ldc 64, 2) := by decide +kernel
theorem dX11_corner_59 : decode cX11_corner 59 = .ok (.ireturn, 1) := by decide +kernel
set_option maxRecDepth 20000 in
theorem ggX11_pinchedOf_X11_has : GoodIn wsX11_pinchedOf wsX11_has := goodIn_r _ [6] (by decide +kernel) (by decide +kernel)
set_option maxRecDepth 20000 in
theorem gX11_pinchedOf_X11_has : GoodIn wsX11_pinchedOf (va_wsS RX11 54 yX11_has wsX11_has) := goodIn_app (goodIn_of _ (by decide +kernel)) ggX11_pinchedOf_X11_has
set_option maxRecDepth 20000 in
theorem ggX11_pinchedOf_X11_one : GoodIn wsX11_pinchedOf wsX11_one := goodIn_r _ [9] (by decide +kernel) (by decide +kernel)
set_option maxRecDepth 20000 in
theorem gX11_pinchedOf_X11_one : GoodIn wsX11_pinchedOf (va_wsS RX11 132 yX11_one wsX11_one) := goodIn_app (goodIn_of _ (by decide +kernel)) ggX11_pinchedOf_X11_one
theorem dX11_pinchedOf_0 : decode cX11_pinchedOf 0 = .ok (.iconst 0, 1) := by decide +kernel
theorem dX11_pinchedOf_1 : decode cX11_pinchedOf 1 = .ok (.istore_n 3, 1) := by decide +kernel
theorem dX11_pinchedOf_2 : decode cX11_pinchedOf 2 = .ok (.iconst 0, 1) := by decide +kernel
theorem dX11_pinchedOf_3 : decode cX11_pinchedOf 3 = .ok (.istore 4, 2) := by decide +kernel
theorem dX11_pinchedOf_5 : decode cX11_pinchedOf 5 = .ok (.iload 4, 2) := by decide +kernel
theorem dX11_pinchedOf_7 : decode cX11_pinchedOf 7 = .ok (.aload_n 0, 1) := by decide +kernel
theorem dX11_pinchedOf_8 : decode cX11_pinchedOf 8 = .ok (.getfield 129, 3) := by decide +kernel
theorem dX11_pinchedOf_11 : decode cX11_pinchedOf 11 = .ok (.if_icmp .ge 44, 3) := by decide +kernel
theorem dX11_pinchedOf_14 : decode cX11_pinchedOf 14 = .ok (.iload_n 3, 1) := by decide +kernel
theorem dX11_pinchedOf_15 : decode cX11_pinchedOf 15 = .ok (.iload_n 1, 1) := by decide +kernel
theorem dX11_pinchedOf_16 : decode cX11_pinchedOf 16 = .ok (.iload 4, 2) := by decide +kernel
theorem dX11_pinchedOf_18 : decode cX11_pinchedOf 18 = .ok (.invokestatic 54, 3) := by decide +kernel
theorem dX11_pinchedOf_21 : decode cX11_pinchedOf 21 = .ok (.ifCond .eq 19, 3) := by decide +kernel
theorem dX11_pinchedOf_24 : decode cX11_pinchedOf 24 = .ok (.aload_n 0, 1) := by decide +kernel
theorem dX11_pinchedOf_25 : decode cX11_pinchedOf 25 = .ok (.getfield 26, 3) := by decide +kernel
theorem dX11_pinchedOf_28 : decode cX11_pinchedOf 28 = .ok (.iload 4, 2) := by decide +kernel
theorem dX11_pinchedOf_30 : decode cX11_pinchedOf 30 = .ok (.iaload, 1) := by decide +kernel
theorem dX11_pinchedOf_31 : decode cX11_pinchedOf 31 = .ok (.iload_n 2, 1) := by decide +kernel
theorem dX11_pinchedOf_32 : decode cX11_pinchedOf 32 = .ok (.iand, 1) := by decide +kernel
theorem dX11_pinchedOf_33 : decode cX11_pinchedOf 33 = .ok (.ifCond .eq 7, 3) := by decide +kernel
theorem dX11_pinchedOf_36 : decode cX11_pinchedOf 36 = .ok (.iconst 1, 1) := by decide +kernel
theorem dX11_pinchedOf_37 : decode cX11_pinchedOf 37 = .ok (.goto 4, 3) := by decide +kernel
theorem dX11_pinchedOf_40 : decode cX11_pinchedOf 40 = .ok (.iconst 0, 1) := by decide +kernel
theorem dX11_pinchedOf_41 : decode cX11_pinchedOf 41 = .ok (.invokestatic 132, 3) := by decide +kernel
theorem dX11_pinchedOf_44 : decode cX11_pinchedOf 44 = .ok (.iload 4, 2) := by decide +kernel
theorem dX11_pinchedOf_46 : decode cX11_pinchedOf 46 = .ok (.ishl, 1) := by decide +kernel
theorem dX11_pinchedOf_47 : decode cX11_pinchedOf 47 = .ok (.ior, 1) := by decide +kernel
theorem dX11_pinchedOf_48 : decode cX11_pinchedOf 48 = .ok (.istore_n 3, 1) := by decide +kernel
theorem dX11_pinchedOf_49 : decode cX11_pinchedOf 49 = .ok (.iinc 4 1, 3) := by decide +kernel
theorem dX11_pinchedOf_52 : decode cX11_pinchedOf 52 = .ok (.goto (-47), 3) := by decide +kernel
theorem dX11_pinchedOf_55 : decode cX11_pinchedOf 55 = .ok (.iload_n 3, 1) := by decide +kernel
theorem dX11_pinchedOf_56 : decode cX11_pinchedOf 56 = .ok (.ireturn, 1) := by decide +kernel
set_option maxRecDepth 20000 in
theorem ggX11_speakers_X11_standing : GoodIn wsX11_speakers wsX11_standing := goodIn_r _ [6, 7, 1, 8, 9, 5, 10, 19, 20, 21, 22, 23, 24, 25, 26, 27, 28, 29, 30, 31, 32, 33, 34, 35, 36, 37, 38, 39, 40, 41, 42, 43, 44, 45, 46, 47] (by decide +kernel) (by decide +kernel)
set_option maxRecDepth 20000 in
theorem gX11_speakers_X11_standing : GoodIn wsX11_speakers (wsV RX11 153 RX11 yX11_standing wsX11_standing) := goodIn_app (goodIn_of _ (by decide +kernel)) ggX11_speakers_X11_standing
set_option maxRecDepth 20000 in
theorem ggX11_speakers_X11_pinchedOf : GoodIn wsX11_speakers wsX11_pinchedOf := goodIn_r _ [14, 7, 15, 16, 17, 5, 18, 8, 9, 10, 19, 20, 21, 22, 23, 24, 25, 26, 27, 28, 29, 30, 31, 32, 33, 34, 35, 36, 37, 38, 39, 40, 41, 42, 43, 44, 45, 46, 47] (by decide +kernel) (by decide +kernel)
set_option maxRecDepth 20000 in
theorem gX11_speakers_X11_pinchedOf : GoodIn wsX11_speakers (wsV RX11 156 RX11 yX11_pinchedOf wsX11_pinchedOf) := goodIn_app (goodIn_of _ (by decide +kernel)) ggX11_speakers_X11_pinchedOf
set_option maxRecDepth 20000 in
theorem ggX11_speakers_X11_has : GoodIn wsX11_speakers wsX11_has := goodIn_r _ [18] (by decide +kernel) (by decide +kernel)
set_option maxRecDepth 20000 in
theorem gX11_speakers_X11_has : GoodIn wsX11_speakers (va_wsS RX11 54 yX11_has wsX11_has) := goodIn_app (goodIn_of _ (by decide +kernel)) ggX11_speakers_X11_has
theorem dX11_speakers_0 : decode cX11_speakers 0 = .ok (.aload_n 0, 1) := by decide +kernel
theorem dX11_speakers_1 : decode cX11_speakers 1 = .ok (.iload_n 1, 1) := by decide +kernel
theorem dX11_speakers_2 : decode cX11_speakers 2 = .ok (.iload_n 2, 1) := by decide +kernel
theorem dX11_speakers_3 : decode cX11_speakers 3 = .ok (.invokevirtual 153, 3) := by decide +kernel
theorem dX11_speakers_6 : decode cX11_speakers 6 = .ok (.aload_n 0, 1) := by decide +kernel
theorem dX11_speakers_7 : decode cX11_speakers 7 = .ok (.getfield 7, 3) := by decide +kernel
theorem dX11_speakers_10 : decode cX11_speakers 10 = .ok (.iload_n 1, 1) := by decide +kernel
theorem dX11_speakers_11 : decode cX11_speakers 11 = .ok (.bipush 10, 2) := by decide +kernel
theorem dX11_speakers_13 : decode cX11_speakers 13 = .ok (.iadd, 1) := by decide +kernel
theorem dX11_speakers_14 : decode cX11_speakers 14 = .ok (.iaload, 1) := by decide +kernel
theorem dX11_speakers_15 : decode cX11_speakers 15 = .ok (.iconst (-1), 1) := by decide +kernel
theorem dX11_speakers_16 : decode cX11_speakers 16 = .ok (.ixor, 1) := by decide +kernel
theorem dX11_speakers_17 : decode cX11_speakers 17 = .ok (.iand, 1) := by decide +kernel
theorem dX11_speakers_18 : decode cX11_speakers 18 = .ok (.istore 5, 2) := by decide +kernel
theorem dX11_speakers_20 : decode cX11_speakers 20 = .ok (.aload_n 0, 1) := by decide +kernel
theorem dX11_speakers_21 : decode cX11_speakers 21 = .ok (.iload 5, 2) := by decide +kernel
theorem dX11_speakers_23 : decode cX11_speakers 23 = .ok (.aload_n 0, 1) := by decide +kernel
theorem dX11_speakers_24 : decode cX11_speakers 24 = .ok (.getfield 7, 3) := by decide +kernel
theorem dX11_speakers_27 : decode cX11_speakers 27 = .ok (.iload_n 1, 1) := by decide +kernel
theorem dX11_speakers_28 : decode cX11_speakers 28 = .ok (.bipush 9, 2) := by decide +kernel
theorem dX11_speakers_30 : decode cX11_speakers 30 = .ok (.iadd, 1) := by decide +kernel
theorem dX11_speakers_31 : decode cX11_speakers 31 = .ok (.iaload, 1) := by decide +kernel
theorem dX11_speakers_32 : decode cX11_speakers 32 = .ok (.iconst (-1), 1) := by decide +kernel
theorem dX11_speakers_33 : decode cX11_speakers 33 = .ok (.ixor, 1) := by decide +kernel
theorem dX11_speakers_34 : decode cX11_speakers 34 = .ok (.iand, 1) := by decide +kernel
theorem dX11_speakers_35 : decode cX11_speakers 35 = .ok (.iload_n 3, 1) := by decide +kernel
theorem dX11_speakers_36 : decode cX11_speakers 36 = .ok (.invokevirtual 156, 3) := by decide +kernel
theorem dX11_speakers_39 : decode cX11_speakers 39 = .ok (.istore 6, 2) := by decide +kernel
theorem dX11_speakers_41 : decode cX11_speakers 41 = .ok (.iload 6, 2) := by decide +kernel
theorem dX11_speakers_43 : decode cX11_speakers 43 = .ok (.ifCond .ne 32, 3) := by decide +kernel
theorem dX11_speakers_46 : decode cX11_speakers 46 = .ok (.iload 4, 2) := by decide +kernel
theorem dX11_speakers_48 : decode cX11_speakers 48 = .ok (.ifCond .eq 7, 3) := by decide +kernel
theorem dX11_speakers_51 : decode cX11_speakers 51 = .ok (.iload_n 3, 1) := by decide +kernel
theorem dX11_speakers_52 : decode cX11_speakers 52 = .ok (.ifCond .ne 23, 3) := by decide +kernel
theorem dX11_speakers_55 : decode cX11_speakers 55 = .ok (.aload_n 0, 1) := by decide +kernel
theorem dX11_speakers_56 : decode cX11_speakers 56 = .ok (.getfield 7, 3) := by decide +kernel
theorem dX11_speakers_59 : decode cX11_speakers 59 = .ok (.iload_n 1, 1) := by decide +kernel
theorem dX11_speakers_60 : decode cX11_speakers 60 = .ok (.bipush 11, 2) := by decide +kernel
theorem dX11_speakers_62 : decode cX11_speakers 62 = .ok (.iadd, 1) := by decide +kernel
theorem dX11_speakers_63 : decode cX11_speakers 63 = .ok (.iaload, 1) := by decide +kernel
theorem dX11_speakers_64 : decode cX11_speakers 64 = .ok (.iload_n 2, 1) := by decide +kernel
theorem dX11_speakers_65 : decode cX11_speakers 65 = .ok (.invokestatic 54, 3) := by decide +kernel
theorem dX11_speakers_68 : decode cX11_speakers 68 = .ok (.ifCond .eq 7, 3) := by decide +kernel
theorem dX11_speakers_71 : decode cX11_speakers 71 = .ok (.iconst 1, 1) := by decide +kernel
theorem dX11_speakers_72 : decode cX11_speakers 72 = .ok (.goto 4, 3) := by decide +kernel
theorem dX11_speakers_75 : decode cX11_speakers 75 = .ok (.iconst 0, 1) := by decide +kernel
theorem dX11_speakers_76 : decode cX11_speakers 76 = .ok (.istore 7, 2) := by decide +kernel
theorem dX11_speakers_78 : decode cX11_speakers 78 = .ok (.iload 7, 2) := by decide +kernel
theorem dX11_speakers_80 : decode cX11_speakers 80 = .ok (.ifCond .eq 13, 3) := by decide +kernel
theorem dX11_speakers_83 : decode cX11_speakers 83 = .ok (.aload_n 0, 1) := by decide +kernel
theorem dX11_speakers_84 : decode cX11_speakers 84 = .ok (.iload 5, 2) := by decide +kernel
theorem dX11_speakers_86 : decode cX11_speakers 86 = .ok (.iload_n 3, 1) := by decide +kernel
theorem dX11_speakers_87 : decode cX11_speakers 87 = .ok (.invokevirtual 156, 3) := by decide +kernel
theorem dX11_speakers_90 : decode cX11_speakers 90 = .ok (.goto 5, 3) := by decide +kernel
theorem dX11_speakers_93 : decode cX11_speakers 93 = .ok (.iload 6, 2) := by decide +kernel
theorem dX11_speakers_95 : decode cX11_speakers 95 = .ok (.ireturn, 1) := by decide +kernel
set_option maxRecDepth 20000 in
theorem ggX11_cryAt_X11_speakers : GoodIn wsX11_cryAt wsX11_speakers := goodIn_r _ [11, 1, 12, 13, 14, 10, 15, 16, 17, 18, 19, 20, 21, 22, 23, 5, 24, 25, 26, 33, 34, 35, 36, 37, 38, 39, 40, 41, 42, 43, 44, 45, 46, 47, 48, 49, 50, 51, 52, 53, 54, 55, 56, 57, 58, 59, 60, 61] (by decide +kernel) (by decide +kernel)
set_option maxRecDepth 20000 in
theorem gX11_cryAt_X11_speakers : GoodIn wsX11_cryAt (wsV RX11 159 RX11 yX11_speakers wsX11_speakers) := goodIn_app (goodIn_of _ (by decide +kernel)) ggX11_cryAt_X11_speakers
set_option maxRecDepth 20000 in
theorem ggX11_cryAt_X11_ones : GoodIn wsX11_cryAt wsX11_ones := goodIn_r _ [29] (by decide +kernel) (by decide +kernel)
set_option maxRecDepth 20000 in
theorem gX11_cryAt_X11_ones : GoodIn wsX11_cryAt (va_wsS RX11 163 yX11_ones wsX11_ones) := goodIn_app (goodIn_of _ (by decide +kernel)) ggX11_cryAt_X11_ones
set_option maxRecDepth 20000 in
theorem ggX11_cryAt_X11_one : GoodIn wsX11_cryAt wsX11_one := goodIn_r _ [19] (by decide +kernel) (by decide +kernel)
set_option maxRecDepth 20000 in
theorem gX11_cryAt_X11_one : GoodIn wsX11_cryAt (va_wsS RX11 132 yX11_one wsX11_one) := goodIn_app (goodIn_of _ (by decide +kernel)) ggX11_cryAt_X11_one
set_option maxRecDepth 20000 in
theorem ggX11_cryAt_X11_least : GoodIn wsX11_cryAt wsX11_least := goodIn_r _ [32, 24, 25, 10, 26] (by decide +kernel) (by decide +kernel)
set_option maxRecDepth 20000 in
theorem gX11_cryAt_X11_least : GoodIn wsX11_cryAt (va_wsS RX11 173 yX11_least wsX11_least) := goodIn_app (goodIn_of _ (by decide +kernel)) ggX11_cryAt_X11_least
set_option maxRecDepth 20000 in
theorem ggX11_cryAt_X11_has : GoodIn wsX11_cryAt wsX11_has := goodIn_r _ [26] (by decide +kernel) (by decide +kernel)
set_option maxRecDepth 20000 in
theorem gX11_cryAt_X11_has : GoodIn wsX11_cryAt (va_wsS RX11 54 yX11_has wsX11_has) := goodIn_app (goodIn_of _ (by decide +kernel)) ggX11_cryAt_X11_has
theorem dX11_cryAt_0 : decode cX11_cryAt 0 = .ok (.aload_n 0, 1) := by decide +kernel
theorem dX11_cryAt_1 : decode cX11_cryAt 1 = .ok (.iload_n 1, 1) := by decide +kernel
theorem dX11_cryAt_2 : decode cX11_cryAt 2 = .ok (.iload_n 2, 1) := by decide +kernel
theorem dX11_cryAt_3 : decode cX11_cryAt 3 = .ok (.iload_n 3, 1) := by decide +kernel
theorem dX11_cryAt_4 : decode cX11_cryAt 4 = .ok (.iload 4, 2) := by decide +kernel
theorem dX11_cryAt_6 : decode cX11_cryAt 6 = .ok (.invokevirtual 159, 3) := by decide +kernel
theorem dX11_cryAt_9 : decode cX11_cryAt 9 = .ok (.istore 5, 2) := by decide +kernel
theorem dX11_cryAt_11 : decode cX11_cryAt 11 = .ok (.iload 5, 2) := by decide +kernel
theorem dX11_cryAt_13 : decode cX11_cryAt 13 = .ok (.invokestatic 163, 3) := by decide +kernel
theorem dX11_cryAt_16 : decode cX11_cryAt 16 = .ok (.iload 4, 2) := by decide +kernel
theorem dX11_cryAt_18 : decode cX11_cryAt 18 = .ok (.ifCond .eq 11, 3) := by decide +kernel
theorem dX11_cryAt_21 : decode cX11_cryAt 21 = .ok (.iload_n 3, 1) := by decide +kernel
theorem dX11_cryAt_22 : decode cX11_cryAt 22 = .ok (.ifCond .eq 7, 3) := by decide +kernel
theorem dX11_cryAt_25 : decode cX11_cryAt 25 = .ok (.iconst 1, 1) := by decide +kernel
theorem dX11_cryAt_26 : decode cX11_cryAt 26 = .ok (.goto 4, 3) := by decide +kernel
theorem dX11_cryAt_29 : decode cX11_cryAt 29 = .ok (.iconst 0, 1) := by decide +kernel
theorem dX11_cryAt_30 : decode cX11_cryAt 30 = .ok (.invokestatic 132, 3) := by decide +kernel
theorem dX11_cryAt_33 : decode cX11_cryAt 33 = .ok (.iadd, 1) := by decide +kernel
theorem dX11_cryAt_34 : decode cX11_cryAt 34 = .ok (.istore 6, 2) := by decide +kernel
theorem dX11_cryAt_36 : decode cX11_cryAt 36 = .ok (.aload_n 0, 1) := by decide +kernel
theorem dX11_cryAt_37 : decode cX11_cryAt 37 = .ok (.getfield 7, 3) := by decide +kernel
theorem dX11_cryAt_40 : decode cX11_cryAt 40 = .ok (.iload_n 1, 1) := by decide +kernel
theorem dX11_cryAt_41 : decode cX11_cryAt 41 = .ok (.bipush 9, 2) := by decide +kernel
theorem dX11_cryAt_43 : decode cX11_cryAt 43 = .ok (.iadd, 1) := by decide +kernel
theorem dX11_cryAt_44 : decode cX11_cryAt 44 = .ok (.dup2, 1) := by decide +kernel
theorem dX11_cryAt_45 : decode cX11_cryAt 45 = .ok (.iaload, 1) := by decide +kernel
theorem dX11_cryAt_46 : decode cX11_cryAt 46 = .ok (.iload 5, 2) := by decide +kernel
theorem dX11_cryAt_48 : decode cX11_cryAt 48 = .ok (.ior, 1) := by decide +kernel
theorem dX11_cryAt_49 : decode cX11_cryAt 49 = .ok (.iastore, 1) := by decide +kernel
theorem dX11_cryAt_50 : decode cX11_cryAt 50 = .ok (.aload_n 0, 1) := by decide +kernel
theorem dX11_cryAt_51 : decode cX11_cryAt 51 = .ok (.dup, 1) := by decide +kernel
theorem dX11_cryAt_52 : decode cX11_cryAt 52 = .ok (.getfield 167, 3) := by decide +kernel
theorem dX11_cryAt_55 : decode cX11_cryAt 55 = .ok (.iload 6, 2) := by decide +kernel
theorem dX11_cryAt_57 : decode cX11_cryAt 57 = .ok (.iadd, 1) := by decide +kernel
theorem dX11_cryAt_58 : decode cX11_cryAt 58 = .ok (.putfield 167, 3) := by decide +kernel
theorem dX11_cryAt_61 : decode cX11_cryAt 61 = .ok (.iload 6, 2) := by decide +kernel
theorem dX11_cryAt_63 : decode cX11_cryAt 63 = .ok (.ifCond .ne 5, 3) := by decide +kernel
theorem dX11_cryAt_66 : decode cX11_cryAt 66 = .ok (.iload_n 3, 1) := by decide +kernel
theorem dX11_cryAt_67 : decode cX11_cryAt 67 = .ok (.ireturn, 1) := by decide +kernel
theorem dX11_cryAt_68 : decode cX11_cryAt 68 = .ok (.iload 6, 2) := by decide +kernel
theorem dX11_cryAt_70 : decode cX11_cryAt 70 = .ok (.iconst 2, 1) := by decide +kernel
theorem dX11_cryAt_71 : decode cX11_cryAt 71 = .ok (.irem, 1) := by decide +kernel
theorem dX11_cryAt_72 : decode cX11_cryAt 72 = .ok (.ifCond .ne 12, 3) := by decide +kernel
theorem dX11_cryAt_75 : decode cX11_cryAt 75 = .ok (.aload_n 0, 1) := by decide +kernel
theorem dX11_cryAt_76 : decode cX11_cryAt 76 = .ok (.getfield 126, 3) := by decide +kernel
theorem dX11_cryAt_79 : decode cX11_cryAt 79 = .ok (.iload_n 3, 1) := by decide +kernel
theorem dX11_cryAt_80 : decode cX11_cryAt 80 = .ok (.iconst (-1), 1) := by decide +kernel
theorem dX11_cryAt_81 : decode cX11_cryAt 81 = .ok (.ixor, 1) := by decide +kernel
theorem dX11_cryAt_82 : decode cX11_cryAt 82 = .ok (.iand, 1) := by decide +kernel
theorem dX11_cryAt_83 : decode cX11_cryAt 83 = .ok (.ireturn, 1) := by decide +kernel
theorem dX11_cryAt_84 : decode cX11_cryAt 84 = .ok (.aload_n 0, 1) := by decide +kernel
theorem dX11_cryAt_85 : decode cX11_cryAt 85 = .ok (.dup, 1) := by decide +kernel
theorem dX11_cryAt_86 : decode cX11_cryAt 86 = .ok (.getfield 170, 3) := by decide +kernel
theorem dX11_cryAt_89 : decode cX11_cryAt 89 = .ok (.iconst 1, 1) := by decide +kernel
theorem dX11_cryAt_90 : decode cX11_cryAt 90 = .ok (.iload_n 2, 1) := by decide +kernel
theorem dX11_cryAt_91 : decode cX11_cryAt 91 = .ok (.ishl, 1) := by decide +kernel
theorem dX11_cryAt_92 : decode cX11_cryAt 92 = .ok (.ior, 1) := by decide +kernel
theorem dX11_cryAt_93 : decode cX11_cryAt 93 = .ok (.putfield 170, 3) := by decide +kernel
theorem dX11_cryAt_96 : decode cX11_cryAt 96 = .ok (.iload 5, 2) := by decide +kernel
theorem dX11_cryAt_98 : decode cX11_cryAt 98 = .ok (.ifCond .ne 14, 3) := by decide +kernel
theorem dX11_cryAt_101 : decode cX11_cryAt 101 = .ok (.iload_n 3, 1) := by decide +kernel
theorem dX11_cryAt_102 : decode cX11_cryAt 102 = .ok (.iconst 1, 1) := by decide +kernel
theorem dX11_cryAt_103 : decode cX11_cryAt 103 = .ok (.iload_n 3, 1) := by decide +kernel
theorem dX11_cryAt_104 : decode cX11_cryAt 104 = .ok (.invokestatic 173, 3) := by decide +kernel
theorem dX11_cryAt_107 : decode cX11_cryAt 107 = .ok (.ishl, 1) := by decide +kernel
theorem dX11_cryAt_108 : decode cX11_cryAt 108 = .ok (.iconst (-1), 1) := by decide +kernel
theorem dX11_cryAt_109 : decode cX11_cryAt 109 = .ok (.ixor, 1) := by decide +kernel
theorem dX11_cryAt_110 : decode cX11_cryAt 110 = .ok (.iand, 1) := by decide +kernel
theorem dX11_cryAt_111 : decode cX11_cryAt 111 = .ok (.ireturn, 1) := by decide +kernel
theorem dX11_cryAt_112 : decode cX11_cryAt 112 = .ok (.iload 5, 2) := by decide +kernel
theorem dX11_cryAt_114 : decode cX11_cryAt 114 = .ok (.invokestatic 173, 3) := by decide +kernel
theorem dX11_cryAt_117 : decode cX11_cryAt 117 = .ok (.istore 7, 2) := by decide +kernel
theorem dX11_cryAt_119 : decode cX11_cryAt 119 = .ok (.iload_n 3, 1) := by decide +kernel
theorem dX11_cryAt_120 : decode cX11_cryAt 120 = .ok (.iconst 1, 1) := by decide +kernel
theorem dX11_cryAt_121 : decode cX11_cryAt 121 = .ok (.aload_n 0, 1) := by decide +kernel
theorem dX11_cryAt_122 : decode cX11_cryAt 122 = .ok (.getfield 26, 3) := by decide +kernel
theorem dX11_cryAt_125 : decode cX11_cryAt 125 = .ok (.iload 7, 2) := by decide +kernel
theorem dX11_cryAt_127 : decode cX11_cryAt 127 = .ok (.iaload, 1) := by decide +kernel
theorem dX11_cryAt_128 : decode cX11_cryAt 128 = .ok (.iload_n 3, 1) := by decide +kernel
theorem dX11_cryAt_129 : decode cX11_cryAt 129 = .ok (.iand, 1) := by decide +kernel
theorem dX11_cryAt_130 : decode cX11_cryAt 130 = .ok (.invokestatic 173, 3) := by decide +kernel
theorem dX11_cryAt_133 : decode cX11_cryAt 133 = .ok (.ishl, 1) := by decide +kernel
theorem dX11_cryAt_134 : decode cX11_cryAt 134 = .ok (.iconst (-1), 1) := by decide +kernel
theorem dX11_cryAt_135 : decode cX11_cryAt 135 = .ok (.ixor, 1) := by decide +kernel
theorem dX11_cryAt_136 : decode cX11_cryAt 136 = .ok (.iand, 1) := by decide +kernel
theorem dX11_cryAt_137 : decode cX11_cryAt 137 = .ok (.istore 8, 2) := by decide +kernel
theorem dX11_cryAt_139 : decode cX11_cryAt 139 = .ok (.aload_n 0, 1) := by decide +kernel
theorem dX11_cryAt_140 : decode cX11_cryAt 140 = .ok (.getfield 29, 3) := by decide +kernel
theorem dX11_cryAt_143 : decode cX11_cryAt 143 = .ok (.iload 7, 2) := by decide +kernel
theorem dX11_cryAt_145 : decode cX11_cryAt 145 = .ok (.iaload, 1) := by decide +kernel
theorem dX11_cryAt_146 : decode cX11_cryAt 146 = .ok (.bipush 8, 2) := by decide +kernel
theorem dX11_cryAt_148 : decode cX11_cryAt 148 = .ok (.if_icmp .ge 35, 3) := by decide +kernel
theorem dX11_cryAt_151 : decode cX11_cryAt 151 = .ok (.aload_n 0, 1) := by decide +kernel
theorem dX11_cryAt_152 : decode cX11_cryAt 152 = .ok (.getfield 126, 3) := by decide +kernel
theorem dX11_cryAt_155 : decode cX11_cryAt 155 = .ok (.aload_n 0, 1) := by decide +kernel
theorem dX11_cryAt_156 : decode cX11_cryAt 156 = .ok (.getfield 29, 3) := by decide +kernel
theorem dX11_cryAt_159 : decode cX11_cryAt 159 = .ok (.iload 7, 2) := by decide +kernel
theorem dX11_cryAt_161 : decode cX11_cryAt 161 = .ok (.iaload, 1) := by decide +kernel
theorem dX11_cryAt_162 : decode cX11_cryAt 162 = .ok (.invokestatic 54, 3) := by decide +kernel
theorem dX11_cryAt_165 : decode cX11_cryAt 165 = .ok (.ifCond .eq 18, 3) := by decide +kernel
theorem dX11_cryAt_168 : decode cX11_cryAt 168 = .ok (.iload 8, 2) := by decide +kernel
theorem dX11_cryAt_170 : decode cX11_cryAt 170 = .ok (.iconst 1, 1) := by decide +kernel
theorem dX11_cryAt_171 : decode cX11_cryAt 171 = .ok (.aload_n 0, 1) := by decide +kernel
theorem dX11_cryAt_172 : decode cX11_cryAt 172 = .ok (.getfield 29, 3) := by decide +kernel
theorem dX11_cryAt_175 : decode cX11_cryAt 175 = .ok (.iload 7, 2) := by decide +kernel
theorem dX11_cryAt_177 : decode cX11_cryAt 177 = .ok (.iaload, 1) := by decide +kernel
theorem dX11_cryAt_178 : decode cX11_cryAt 178 = .ok (.ishl, 1) := by decide +kernel
theorem dX11_cryAt_179 : decode cX11_cryAt 179 = .ok (.ior, 1) := by decide +kernel
theorem dX11_cryAt_180 : decode cX11_cryAt 180 = .ok (.goto 5, 3) := by decide +kernel
theorem dX11_cryAt_183 : decode cX11_cryAt 183 = .ok (.iload 8, 2) := by decide +kernel
theorem dX11_cryAt_185 : decode cX11_cryAt 185 = .ok (.ireturn, 1) := by decide +kernel
set_option maxRecDepth 20000 in
theorem ggX11_roundIn_X11_has : GoodIn wsX11_roundIn wsX11_has := goodIn_r _ [7] (by decide +kernel) (by decide +kernel)
set_option maxRecDepth 20000 in
theorem gX11_roundIn_X11_has : GoodIn wsX11_roundIn (va_wsS RX11 54 yX11_has wsX11_has) := goodIn_app (goodIn_of _ (by decide +kernel)) ggX11_roundIn_X11_has
set_option maxRecDepth 20000 in
theorem ggX11_roundIn_X11_cryAt : GoodIn wsX11_roundIn wsX11_cryAt := goodIn_r _ [11, 12, 1, 13, 2, 14, 15, 16, 17, 18, 6, 19, 20, 21, 22, 23, 24, 25, 26, 27, 28, 29, 30, 31, 4, 5, 7, 32, 33, 34, 35, 36, 37, 38, 39, 40, 41, 42, 43, 44, 45, 46, 47, 48, 49, 50, 51, 52, 53, 54, 55, 56, 57, 58, 59, 60, 61, 62, 63, 64, 65, 66] (by decide +kernel) (by decide +kernel)
set_option maxRecDepth 20000 in
theorem gX11_roundIn_X11_cryAt : GoodIn wsX11_roundIn (wsV RX11 176 RX11 yX11_cryAt wsX11_cryAt) := goodIn_app (goodIn_of _ (by decide +kernel)) ggX11_roundIn_X11_cryAt
theorem dX11_roundIn_0 : decode cX11_roundIn 0 = .ok (.aload_n 0, 1) := by decide +kernel
theorem dX11_roundIn_1 : decode cX11_roundIn 1 = .ok (.iconst 0, 1) := by decide +kernel
theorem dX11_roundIn_2 : decode cX11_roundIn 2 = .ok (.putfield 167, 3) := by decide +kernel
theorem dX11_roundIn_5 : decode cX11_roundIn 5 = .ok (.aload_n 0, 1) := by decide +kernel
theorem dX11_roundIn_6 : decode cX11_roundIn 6 = .ok (.iconst 0, 1) := by decide +kernel
theorem dX11_roundIn_7 : decode cX11_roundIn 7 = .ok (.putfield 170, 3) := by decide +kernel
theorem dX11_roundIn_10 : decode cX11_roundIn 10 = .ok (.iload_n 2, 1) := by decide +kernel
theorem dX11_roundIn_11 : decode cX11_roundIn 11 = .ok (.istore 6, 2) := by decide +kernel
theorem dX11_roundIn_13 : decode cX11_roundIn 13 = .ok (.iconst 0, 1) := by decide +kernel
theorem dX11_roundIn_14 : decode cX11_roundIn 14 = .ok (.istore 7, 2) := by decide +kernel
theorem dX11_roundIn_16 : decode cX11_roundIn 16 = .ok (.iload 7, 2) := by decide +kernel
theorem dX11_roundIn_18 : decode cX11_roundIn 18 = .ok (.aload_n 0, 1) := by decide +kernel
theorem dX11_roundIn_19 : decode cX11_roundIn 19 = .ok (.getfield 123, 3) := by decide +kernel
theorem dX11_roundIn_22 : decode cX11_roundIn 22 = .ok (.if_icmp .ge 61, 3) := by decide +kernel
theorem dX11_roundIn_25 : decode cX11_roundIn 25 = .ok (.iload 4, 2) := by decide +kernel
theorem dX11_roundIn_27 : decode cX11_roundIn 27 = .ok (.iconst 1, 1) := by decide +kernel
theorem dX11_roundIn_28 : decode cX11_roundIn 28 = .ok (.if_icmp .ne 15, 3) := by decide +kernel
theorem dX11_roundIn_31 : decode cX11_roundIn 31 = .ok (.iload_n 3, 1) := by decide +kernel
theorem dX11_roundIn_32 : decode cX11_roundIn 32 = .ok (.iload 7, 2) := by decide +kernel
theorem dX11_roundIn_34 : decode cX11_roundIn 34 = .ok (.iadd, 1) := by decide +kernel
theorem dX11_roundIn_35 : decode cX11_roundIn 35 = .ok (.aload_n 0, 1) := by decide +kernel
theorem dX11_roundIn_36 : decode cX11_roundIn 36 = .ok (.getfield 123, 3) := by decide +kernel
theorem dX11_roundIn_39 : decode cX11_roundIn 39 = .ok (.irem, 1) := by decide +kernel
theorem dX11_roundIn_40 : decode cX11_roundIn 40 = .ok (.goto 17, 3) := by decide +kernel
theorem dX11_roundIn_43 : decode cX11_roundIn 43 = .ok (.iload_n 3, 1) := by decide +kernel
theorem dX11_roundIn_44 : decode cX11_roundIn 44 = .ok (.iload 7, 2) := by decide +kernel
theorem dX11_roundIn_46 : decode cX11_roundIn 46 = .ok (.isub, 1) := by decide +kernel
theorem dX11_roundIn_47 : decode cX11_roundIn 47 = .ok (.aload_n 0, 1) := by decide +kernel
theorem dX11_roundIn_48 : decode cX11_roundIn 48 = .ok (.getfield 123, 3) := by decide +kernel
theorem dX11_roundIn_51 : decode cX11_roundIn 51 = .ok (.iadd, 1) := by decide +kernel
theorem dX11_roundIn_52 : decode cX11_roundIn 52 = .ok (.aload_n 0, 1) := by decide +kernel
theorem dX11_roundIn_53 : decode cX11_roundIn 53 = .ok (.getfield 123, 3) := by decide +kernel
theorem dX11_roundIn_56 : decode cX11_roundIn 56 = .ok (.irem, 1) := by decide +kernel
theorem dX11_roundIn_57 : decode cX11_roundIn 57 = .ok (.istore 8, 2) := by decide +kernel
theorem dX11_roundIn_59 : decode cX11_roundIn 59 = .ok (.aload_n 0, 1) := by decide +kernel
theorem dX11_roundIn_60 : decode cX11_roundIn 60 = .ok (.iload_n 1, 1) := by decide +kernel
theorem dX11_roundIn_61 : decode cX11_roundIn 61 = .ok (.iload 8, 2) := by decide +kernel
theorem dX11_roundIn_63 : decode cX11_roundIn 63 = .ok (.iload 6, 2) := by decide +kernel
theorem dX11_roundIn_65 : decode cX11_roundIn 65 = .ok (.iload 5, 2) := by decide +kernel
theorem dX11_roundIn_67 : decode cX11_roundIn 67 = .ok (.iload 8, 2) := by decide +kernel
theorem dX11_roundIn_69 : decode cX11_roundIn 69 = .ok (.invokestatic 54, 3) := by decide +kernel
theorem dX11_roundIn_72 : decode cX11_roundIn 72 = .ok (.invokevirtual 176, 3) := by decide +kernel
theorem dX11_roundIn_75 : decode cX11_roundIn 75 = .ok (.istore 6, 2) := by decide +kernel
theorem dX11_roundIn_77 : decode cX11_roundIn 77 = .ok (.iinc 7 1, 3) := by decide +kernel
theorem dX11_roundIn_80 : decode cX11_roundIn 80 = .ok (.goto (-64), 3) := by decide +kernel
theorem dX11_roundIn_83 : decode cX11_roundIn 83 = .ok (.iload 6, 2) := by decide +kernel
theorem dX11_roundIn_85 : decode cX11_roundIn 85 = .ok (.ireturn, 1) := by decide +kernel
set_option maxRecDepth 20000 in
theorem ggX11_roundNow_X11_roundIn : GoodIn wsX11_roundNow wsX11_roundIn := goodIn_r _ [7, 8, 2, 9, 10, 11, 6, 12, 13, 14, 15, 16, 1, 17, 18, 19, 20, 21, 22, 23, 24, 25, 26, 27, 28, 29, 30, 31, 32, 33, 34, 35, 36, 37, 38, 39, 40, 41, 42, 43, 44, 45, 46, 47, 48, 49, 50, 51, 52, 53, 54, 55, 56, 57, 58, 59, 60, 61, 62, 63, 64, 65, 66, 67, 68, 69, 70] (by decide +kernel) (by decide +kernel)
set_option maxRecDepth 20000 in
theorem gX11_roundNow_X11_roundIn : GoodIn wsX11_roundNow (wsV RX11 179 RX11 yX11_roundIn wsX11_roundIn) := goodIn_app (goodIn_of _ (by decide +kernel)) ggX11_roundNow_X11_roundIn
theorem dX11_roundNow_0 : decode cX11_roundNow 0 = .ok (.aload_n 0, 1) := by decide +kernel
theorem dX11_roundNow_1 : decode cX11_roundNow 1 = .ok (.iconst 0, 1) := by decide +kernel
theorem dX11_roundNow_2 : decode cX11_roundNow 2 = .ok (.iload_n 1, 1) := by decide +kernel
theorem dX11_roundNow_3 : decode cX11_roundNow 3 = .ok (.iload_n 2, 1) := by decide +kernel
theorem dX11_roundNow_4 : decode cX11_roundNow 4 = .ok (.iload_n 3, 1) := by decide +kernel
theorem dX11_roundNow_5 : decode cX11_roundNow 5 = .ok (.iconst 0, 1) := by decide +kernel
theorem dX11_roundNow_6 : decode cX11_roundNow 6 = .ok (.invokevirtual 179, 3) := by decide +kernel
theorem dX11_roundNow_9 : decode cX11_roundNow 9 = .ok (.istore 4, 2) := by decide +kernel
theorem dX11_roundNow_11 : decode cX11_roundNow 11 = .ok (.aload_n 0, 1) := by decide +kernel
theorem dX11_roundNow_12 : decode cX11_roundNow 12 = .ok (.getfield 7, 3) := by decide +kernel
theorem dX11_roundNow_15 : decode cX11_roundNow 15 = .ok (.bipush 14, 2) := by decide +kernel
theorem dX11_roundNow_17 : decode cX11_roundNow 17 = .ok (.iload 4, 2) := by decide +kernel
theorem dX11_roundNow_19 : decode cX11_roundNow 19 = .ok (.iastore, 1) := by decide +kernel
theorem dX11_roundNow_20 : decode cX11_roundNow 20 = .ok (.aload_n 0, 1) := by decide +kernel
theorem dX11_roundNow_21 : decode cX11_roundNow 21 = .ok (.getfield 7, 3) := by decide +kernel
theorem dX11_roundNow_24 : decode cX11_roundNow 24 = .ok (.bipush 15, 2) := by decide +kernel
theorem dX11_roundNow_26 : decode cX11_roundNow 26 = .ok (.aload_n 0, 1) := by decide +kernel
theorem dX11_roundNow_27 : decode cX11_roundNow 27 = .ok (.getfield 170, 3) := by decide +kernel
theorem dX11_roundNow_30 : decode cX11_roundNow 30 = .ok (.iastore, 1) := by decide +kernel
theorem dX11_roundNow_31 : decode cX11_roundNow 31 = .ok (.aload_n 0, 1) := by decide +kernel
theorem dX11_roundNow_32 : decode cX11_roundNow 32 = .ok (.getfield 7, 3) := by decide +kernel
theorem dX11_roundNow_35 : decode cX11_roundNow 35 = .ok (.bipush 12, 2) := by decide +kernel
theorem dX11_roundNow_37 : decode cX11_roundNow 37 = .ok (.dup2, 1) := by decide +kernel
theorem dX11_roundNow_38 : decode cX11_roundNow 38 = .ok (.iaload, 1) := by decide +kernel
theorem dX11_roundNow_39 : decode cX11_roundNow 39 = .ok (.iconst 1, 1) := by decide +kernel
theorem dX11_roundNow_40 : decode cX11_roundNow 40 = .ok (.iadd, 1) := by decide +kernel
theorem dX11_roundNow_41 : decode cX11_roundNow 41 = .ok (.iastore, 1) := by decide +kernel
theorem dX11_roundNow_42 : decode cX11_roundNow 42 = .ok (.return_, 1) := by decide +kernel
set_option maxRecDepth 20000 in
theorem ggX11_tryRound_X11_copy : GoodIn wsX11_tryRound wsX11_copy := goodIn_r _ [6, 1, 46, 47, 48, 49, 50, 51, 52, 53, 54, 55, 56, 57, 58, 59, 60, 61, 62, 63, 64, 65, 66, 67, 68, 69, 70, 71, 72, 73, 74] (by decide +kernel) (by decide +kernel)
set_option maxRecDepth 20000 in
theorem gX11_tryRound_X11_copy : GoodIn wsX11_tryRound (wsV RX11 183 RX11 yX11_copy wsX11_copy) := goodIn_app (goodIn_of _ (by decide +kernel)) ggX11_tryRound_X11_copy
set_option maxRecDepth 20000 in
theorem ggX11_tryRound_X11_roundIn : GoodIn wsX11_tryRound wsX11_roundIn := goodIn_r _ [10, 11, 12, 13, 14, 15, 5, 16, 17, 18, 19, 20, 1, 21, 22, 23, 24, 25, 26, 27, 28, 29, 30, 31, 32, 33, 34, 35, 36, 37, 38, 39, 40, 41, 42, 43, 44, 45, 46, 47, 48, 49, 50, 51, 52, 53, 54, 55, 56, 57, 58, 59, 60, 61, 62, 63, 64, 65, 66, 67, 68, 69, 70, 71, 72, 73, 74] (by decide +kernel) (by decide +kernel)
set_option maxRecDepth 20000 in
theorem gX11_tryRound_X11_roundIn : GoodIn wsX11_tryRound (wsV RX11 179 RX11 yX11_roundIn wsX11_roundIn) := goodIn_app (goodIn_of _ (by decide +kernel)) ggX11_tryRound_X11_roundIn
theorem dX11_tryRound_0 : decode cX11_tryRound 0 = .ok (.aload_n 0, 1) := by decide +kernel
theorem dX11_tryRound_1 : decode cX11_tryRound 1 = .ok (.iconst 0, 1) := by decide +kernel
theorem dX11_tryRound_2 : decode cX11_tryRound 2 = .ok (.bipush 17, 2) := by decide +kernel
theorem dX11_tryRound_4 : decode cX11_tryRound 4 = .ok (.invokevirtual 183, 3) := by decide +kernel
theorem dX11_tryRound_7 : decode cX11_tryRound 7 = .ok (.aload_n 0, 1) := by decide +kernel
theorem dX11_tryRound_8 : decode cX11_tryRound 8 = .ok (.getfield 7, 3) := by decide +kernel
theorem dX11_tryRound_11 : decode cX11_tryRound 11 = .ok (.bipush 27, 2) := by decide +kernel
theorem dX11_tryRound_13 : decode cX11_tryRound 13 = .ok (.dup2, 1) := by decide +kernel
theorem dX11_tryRound_14 : decode cX11_tryRound 14 = .ok (.iaload, 1) := by decide +kernel
theorem dX11_tryRound_15 : decode cX11_tryRound 15 = .ok (.iload 5, 2) := by decide +kernel
theorem dX11_tryRound_17 : decode cX11_tryRound 17 = .ok (.ior, 1) := by decide +kernel
theorem dX11_tryRound_18 : decode cX11_tryRound 18 = .ok (.iastore, 1) := by decide +kernel
theorem dX11_tryRound_19 : decode cX11_tryRound 19 = .ok (.aload_n 0, 1) := by decide +kernel
theorem dX11_tryRound_20 : decode cX11_tryRound 20 = .ok (.bipush 17, 2) := by decide +kernel
theorem dX11_tryRound_22 : decode cX11_tryRound 22 = .ok (.iload_n 1, 1) := by decide +kernel
theorem dX11_tryRound_23 : decode cX11_tryRound 23 = .ok (.iload_n 2, 1) := by decide +kernel
theorem dX11_tryRound_24 : decode cX11_tryRound 24 = .ok (.iload_n 3, 1) := by decide +kernel
theorem dX11_tryRound_25 : decode cX11_tryRound 25 = .ok (.iload 4, 2) := by decide +kernel
theorem dX11_tryRound_27 : decode cX11_tryRound 27 = .ok (.invokevirtual 179, 3) := by decide +kernel
theorem dX11_tryRound_30 : decode cX11_tryRound 30 = .ok (.ireturn, 1) := by decide +kernel
theorem dX11_copy_0 : decode cX11_copy 0 = .ok (.iconst 0, 1) := by decide +kernel
theorem dX11_copy_1 : decode cX11_copy 1 = .ok (.istore_n 3, 1) := by decide +kernel
theorem dX11_copy_2 : decode cX11_copy 2 = .ok (.iload_n 3, 1) := by decide +kernel
theorem dX11_copy_3 : decode cX11_copy 3 = .ok (.bipush 17, 2) := by decide +kernel
theorem dX11_copy_5 : decode cX11_copy 5 = .ok (.if_icmp .ge 25, 3) := by decide +kernel
theorem dX11_copy_8 : decode cX11_copy 8 = .ok (.aload_n 0, 1) := by decide +kernel
theorem dX11_copy_9 : decode cX11_copy 9 = .ok (.getfield 7, 3) := by decide +kernel
theorem dX11_copy_12 : decode cX11_copy 12 = .ok (.iload_n 2, 1) := by decide +kernel
theorem dX11_copy_13 : decode cX11_copy 13 = .ok (.iload_n 3, 1) := by decide +kernel
theorem dX11_copy_14 : decode cX11_copy 14 = .ok (.iadd, 1) := by decide +kernel
theorem dX11_copy_15 : decode cX11_copy 15 = .ok (.aload_n 0, 1) := by decide +kernel
theorem dX11_copy_16 : decode cX11_copy 16 = .ok (.getfield 7, 3) := by decide +kernel
theorem dX11_copy_19 : decode cX11_copy 19 = .ok (.iload_n 1, 1) := by decide +kernel
theorem dX11_copy_20 : decode cX11_copy 20 = .ok (.iload_n 3, 1) := by decide +kernel
theorem dX11_copy_21 : decode cX11_copy 21 = .ok (.iadd, 1) := by decide +kernel
theorem dX11_copy_22 : decode cX11_copy 22 = .ok (.iaload, 1) := by decide +kernel
theorem dX11_copy_23 : decode cX11_copy 23 = .ok (.iastore, 1) := by decide +kernel
theorem dX11_copy_24 : decode cX11_copy 24 = .ok (.iinc 3 1, 3) := by decide +kernel
theorem dX11_copy_27 : decode cX11_copy 27 = .ok (.goto (-25), 3) := by decide +kernel
theorem dX11_copy_30 : decode cX11_copy 30 = .ok (.return_, 1) := by decide +kernel
set_option maxRecDepth 20000 in
theorem ggX11_remember_X11_copy : GoodIn wsX11_remember wsX11_copy := goodIn_r _ [6, 7, 8, 9, 10, 11, 12, 13, 14, 15, 16, 17, 18, 19, 20, 21, 22, 23, 24, 25, 26, 27, 28, 29, 30, 31, 32, 33, 34, 35, 36] (by decide +kernel) (by decide +kernel)
set_option maxRecDepth 20000 in
theorem gX11_remember_X11_copy : GoodIn wsX11_remember (wsV RX11 183 RX11 yX11_copy wsX11_copy) := goodIn_app (goodIn_of _ (by decide +kernel)) ggX11_remember_X11_copy
theorem dX11_remember_0 : decode cX11_remember 0 = .ok (.aload_n 0, 1) := by decide +kernel
theorem dX11_remember_1 : decode cX11_remember 1 = .ok (.getfield 142, 3) := by decide +kernel
theorem dX11_remember_4 : decode cX11_remember 4 = .ok (.bipush 30, 2) := by decide +kernel
theorem dX11_remember_6 : decode cX11_remember 6 = .ok (.if_icmp .ne 47, 3) := by decide +kernel
theorem dX11_remember_9 : decode cX11_remember 9 = .ok (.iconst 1, 1) := by decide +kernel
theorem dX11_remember_10 : decode cX11_remember 10 = .ok (.istore_n 1, 1) := by decide +kernel
theorem dX11_remember_11 : decode cX11_remember 11 = .ok (.iload_n 1, 1) := by decide +kernel
theorem dX11_remember_12 : decode cX11_remember 12 = .ok (.bipush 30, 2) := by decide +kernel
theorem dX11_remember_14 : decode cX11_remember 14 = .ok (.if_icmp .ge 29, 3) := by decide +kernel
theorem dX11_remember_17 : decode cX11_remember 17 = .ok (.aload_n 0, 1) := by decide +kernel
theorem dX11_remember_18 : decode cX11_remember 18 = .ok (.bipush 68, 2) := by decide +kernel
theorem dX11_remember_20 : decode cX11_remember 20 = .ok (.bipush 17, 2) := by decide +kernel
theorem dX11_remember_22 : decode cX11_remember 22 = .ok (.iload_n 1, 1) := by decide +kernel
theorem dX11_remember_23 : decode cX11_remember 23 = .ok (.imul, 1) := by decide +kernel
theorem dX11_remember_24 : decode cX11_remember 24 = .ok (.iadd, 1) := by decide +kernel
theorem dX11_remember_25 : decode cX11_remember 25 = .ok (.bipush 68, 2) := by decide +kernel
theorem dX11_remember_27 : decode cX11_remember 27 = .ok (.bipush 17, 2) := by decide +kernel
theorem dX11_remember_29 : decode cX11_remember 29 = .ok (.iload_n 1, 1) := by decide +kernel
theorem dX11_remember_30 : decode cX11_remember 30 = .ok (.iconst 1, 1) := by decide +kernel
theorem dX11_remember_31 : decode cX11_remember 31 = .ok (.isub, 1) := by decide +kernel
theorem dX11_remember_32 : decode cX11_remember 32 = .ok (.imul, 1) := by decide +kernel
theorem dX11_remember_33 : decode cX11_remember 33 = .ok (.iadd, 1) := by decide +kernel
theorem dX11_remember_34 : decode cX11_remember 34 = .ok (.invokevirtual 183, 3) := by decide +kernel
theorem dX11_remember_37 : decode cX11_remember 37 = .ok (.iinc 1 1, 3) := by decide +kernel
theorem dX11_remember_40 : decode cX11_remember 40 = .ok (.goto (-29), 3) := by decide +kernel
theorem dX11_remember_43 : decode cX11_remember 43 = .ok (.aload_n 0, 1) := by decide +kernel
theorem dX11_remember_44 : decode cX11_remember 44 = .ok (.dup, 1) := by decide +kernel
theorem dX11_remember_45 : decode cX11_remember 45 = .ok (.getfield 142, 3) := by decide +kernel
theorem dX11_remember_48 : decode cX11_remember 48 = .ok (.iconst 1, 1) := by decide +kernel
theorem dX11_remember_49 : decode cX11_remember 49 = .ok (.isub, 1) := by decide +kernel
