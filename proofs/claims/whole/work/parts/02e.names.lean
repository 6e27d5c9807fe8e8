theorem dX11_remember_50 : decode cX11_remember 50 = .ok (.putfield 142, 3) := by decide +kernel
theorem dX11_remember_53 : decode cX11_remember 53 = .ok (.aload_n 0, 1) := by decide +kernel
theorem dX11_remember_54 : decode cX11_remember 54 = .ok (.iconst 0, 1) := by decide +kernel
theorem dX11_remember_55 : decode cX11_remember 55 = .ok (.bipush 68, 2) := by decide +kernel
theorem dX11_remember_57 : decode cX11_remember 57 = .ok (.bipush 17, 2) := by decide +kernel
theorem dX11_remember_59 : decode cX11_remember 59 = .ok (.aload_n 0, 1) := by decide +kernel
theorem dX11_remember_60 : decode cX11_remember 60 = .ok (.getfield 142, 3) := by decide +kernel
theorem dX11_remember_63 : decode cX11_remember 63 = .ok (.imul, 1) := by decide +kernel
theorem dX11_remember_64 : decode cX11_remember 64 = .ok (.iadd, 1) := by decide +kernel
theorem dX11_remember_65 : decode cX11_remember 65 = .ok (.invokevirtual 183, 3) := by decide +kernel
theorem dX11_remember_68 : decode cX11_remember 68 = .ok (.aload_n 0, 1) := by decide +kernel
theorem dX11_remember_69 : decode cX11_remember 69 = .ok (.dup, 1) := by decide +kernel
theorem dX11_remember_70 : decode cX11_remember 70 = .ok (.getfield 142, 3) := by decide +kernel
theorem dX11_remember_73 : decode cX11_remember 73 = .ok (.iconst 1, 1) := by decide +kernel
theorem dX11_remember_74 : decode cX11_remember 74 = .ok (.iadd, 1) := by decide +kernel
theorem dX11_remember_75 : decode cX11_remember 75 = .ok (.putfield 142, 3) := by decide +kernel
theorem dX11_remember_78 : decode cX11_remember 78 = .ok (.return_, 1) := by decide +kernel
set_option maxRecDepth 20000 in
theorem ggX11_cry_X11_isDecree : GoodIn wsX11_cry wsX11_isDecree := goodIn_r _ [9, 10, 72, 73, 74, 75, 76, 77, 78, 79, 80, 81, 82, 83, 84, 85, 86, 87, 88, 89, 90, 91, 92, 93, 94, 95, 96, 97, 98, 99, 100] (by decide +kernel) (by decide +kernel)
set_option maxRecDepth 20000 in
theorem gX11_cry_X11_isDecree : GoodIn wsX11_cry (wsV RX11 187 RX11 yX11_isDecree wsX11_isDecree) := goodIn_app (goodIn_of _ (by decide +kernel)) ggX11_cry_X11_isDecree
set_option maxRecDepth 20000 in
theorem ggX11_cry_X11_isCorner : GoodIn wsX11_cry wsX11_isCorner := goodIn_r _ [14, 15, 16, 17, 8, 18, 72, 73, 74, 75, 76, 77, 78, 79, 80, 81, 82, 83, 84, 85, 86, 87, 88, 89, 90, 91, 92, 93, 94, 95, 96, 97, 98, 99, 100] (by decide +kernel) (by decide +kernel)
set_option maxRecDepth 20000 in
theorem gX11_cry_X11_isCorner : GoodIn wsX11_cry (wsV RX11 150 RX11 yX11_isCorner wsX11_isCorner) := goodIn_app (goodIn_of _ (by decide +kernel)) ggX11_cry_X11_isCorner
set_option maxRecDepth 20000 in
theorem ggX11_cry_X11_isWay : GoodIn wsX11_cry wsX11_isWay := goodIn_r _ [21, 16, 17, 8, 18] (by decide +kernel) (by decide +kernel)
set_option maxRecDepth 20000 in
theorem gX11_cry_X11_isWay : GoodIn wsX11_cry (va_wsS RX11 190 yX11_isWay wsX11_isWay) := goodIn_app (goodIn_of _ (by decide +kernel)) ggX11_cry_X11_isWay
set_option maxRecDepth 20000 in
theorem ggX11_cry_X11_remember : GoodIn wsX11_cry wsX11_remember := goodIn_r _ [25, 26, 27, 28, 29, 8, 30, 3, 72, 73, 74, 75, 76, 77, 78, 79, 80, 81, 82, 83, 84, 85, 86, 87, 88, 89, 90, 91, 92, 93, 94, 95, 96, 97, 98, 99, 100] (by decide +kernel) (by decide +kernel)
set_option maxRecDepth 20000 in
theorem gX11_cry_X11_remember : GoodIn wsX11_cry (wsV RX11 193 RX11 yX11_remember wsX11_remember) := goodIn_app (goodIn_of _ (by decide +kernel)) ggX11_cry_X11_remember
set_option maxRecDepth 20000 in
theorem ggX11_cry_X11_roundNow : GoodIn wsX11_cry wsX11_roundNow := goodIn_r _ [34, 3, 35, 36, 37, 38, 8, 39, 40, 15, 41, 42, 43, 44, 45, 46, 47, 10, 48, 49, 50, 51, 52, 53, 54, 55, 56, 57, 58, 59, 60, 61, 62, 63, 64, 65, 66, 67, 68, 69, 70, 71, 72, 73, 74, 75, 76, 77, 78, 79, 80, 81, 82, 83, 84, 85, 86, 87, 88, 89, 90, 91, 92, 93, 94, 95, 96, 97, 98, 99, 100] (by decide +kernel) (by decide +kernel)
set_option maxRecDepth 20000 in
theorem gX11_cry_X11_roundNow : GoodIn wsX11_cry (wsV RX11 196 RX11 yX11_roundNow wsX11_roundNow) := goodIn_app (goodIn_of _ (by decide +kernel)) ggX11_cry_X11_roundNow
theorem dX11_cry_0 : decode cX11_cry 0 = .ok (.aload_n 0, 1) := by decide +kernel
theorem dX11_cry_1 : decode cX11_cry 1 = .ok (.iload_n 1, 1) := by decide +kernel
theorem dX11_cry_2 : decode cX11_cry 2 = .ok (.invokevirtual 187, 3) := by decide +kernel
theorem dX11_cry_5 : decode cX11_cry 5 = .ok (.ifCond .eq 11, 3) := by decide +kernel
theorem dX11_cry_8 : decode cX11_cry 8 = .ok (.aload_n 0, 1) := by decide +kernel
theorem dX11_cry_9 : decode cX11_cry 9 = .ok (.iload_n 2, 1) := by decide +kernel
theorem dX11_cry_10 : decode cX11_cry 10 = .ok (.invokevirtual 150, 3) := by decide +kernel
theorem dX11_cry_13 : decode cX11_cry 13 = .ok (.ifCond .ne 6, 3) := by decide +kernel
theorem dX11_cry_16 : decode cX11_cry 16 = .ok (.ldc 149, 2) := by decide +kernel
theorem dX11_cry_18 : decode cX11_cry 18 = .ok (.ireturn, 1) := by decide +kernel
theorem dX11_cry_19 : decode cX11_cry 19 = .ok (.iload_n 3, 1) := by decide +kernel
theorem dX11_cry_20 : decode cX11_cry 20 = .ok (.invokestatic 190, 3) := by decide +kernel
theorem dX11_cry_23 : decode cX11_cry 23 = .ok (.ifCond .ne 6, 3) := by decide +kernel
theorem dX11_cry_26 : decode cX11_cry 26 = .ok (.ldc 64, 2) := by decide +kernel
theorem dX11_cry_28 : decode cX11_cry 28 = .ok (.ireturn, 1) := by decide +kernel
theorem dX11_cry_29 : decode cX11_cry 29 = .ok (.aload_n 0, 1) := by decide +kernel
theorem dX11_cry_30 : decode cX11_cry 30 = .ok (.getfield 7, 3) := by decide +kernel
theorem dX11_cry_33 : decode cX11_cry 33 = .ok (.bipush 12, 2) := by decide +kernel
theorem dX11_cry_35 : decode cX11_cry 35 = .ok (.iaload, 1) := by decide +kernel
theorem dX11_cry_36 : decode cX11_cry 36 = .ok (.sipush 9000, 3) := by decide +kernel
theorem dX11_cry_39 : decode cX11_cry 39 = .ok (.if_icmp .le 6, 3) := by decide +kernel
theorem dX11_cry_42 : decode cX11_cry 42 = .ok (.ldc 68, 2) := by decide +kernel
theorem dX11_cry_44 : decode cX11_cry 44 = .ok (.ireturn, 1) := by decide +kernel
theorem dX11_cry_45 : decode cX11_cry 45 = .ok (.aload_n 0, 1) := by decide +kernel
theorem dX11_cry_46 : decode cX11_cry 46 = .ok (.invokevirtual 193, 3) := by decide +kernel
theorem dX11_cry_49 : decode cX11_cry 49 = .ok (.aload_n 0, 1) := by decide +kernel
theorem dX11_cry_50 : decode cX11_cry 50 = .ok (.iload_n 1, 1) := by decide +kernel
theorem dX11_cry_51 : decode cX11_cry 51 = .ok (.iload_n 2, 1) := by decide +kernel
theorem dX11_cry_52 : decode cX11_cry 52 = .ok (.iload_n 3, 1) := by decide +kernel
theorem dX11_cry_53 : decode cX11_cry 53 = .ok (.invokevirtual 196, 3) := by decide +kernel
theorem dX11_cry_56 : decode cX11_cry 56 = .ok (.aload_n 0, 1) := by decide +kernel
theorem dX11_cry_57 : decode cX11_cry 57 = .ok (.getfield 7, 3) := by decide +kernel
theorem dX11_cry_60 : decode cX11_cry 60 = .ok (.bipush 14, 2) := by decide +kernel
theorem dX11_cry_62 : decode cX11_cry 62 = .ok (.iaload, 1) := by decide +kernel
theorem dX11_cry_63 : decode cX11_cry 63 = .ok (.ireturn, 1) := by decide +kernel
theorem dX11_passMonth_0 : decode cX11_passMonth 0 = .ok (.aload_n 0, 1) := by decide +kernel
theorem dX11_passMonth_1 : decode cX11_passMonth 1 = .ok (.getfield 7, 3) := by decide +kernel
theorem dX11_passMonth_4 : decode cX11_passMonth 4 = .ok (.bipush 9, 2) := by decide +kernel
theorem dX11_passMonth_6 : decode cX11_passMonth 6 = .ok (.iconst 0, 1) := by decide +kernel
theorem dX11_passMonth_7 : decode cX11_passMonth 7 = .ok (.iastore, 1) := by decide +kernel
theorem dX11_passMonth_8 : decode cX11_passMonth 8 = .ok (.aload_n 0, 1) := by decide +kernel
theorem dX11_passMonth_9 : decode cX11_passMonth 9 = .ok (.getfield 7, 3) := by decide +kernel
theorem dX11_passMonth_12 : decode cX11_passMonth 12 = .ok (.bipush 13, 2) := by decide +kernel
theorem dX11_passMonth_14 : decode cX11_passMonth 14 = .ok (.dup2, 1) := by decide +kernel
theorem dX11_passMonth_15 : decode cX11_passMonth 15 = .ok (.iaload, 1) := by decide +kernel
theorem dX11_passMonth_16 : decode cX11_passMonth 16 = .ok (.iconst 1, 1) := by decide +kernel
theorem dX11_passMonth_17 : decode cX11_passMonth 17 = .ok (.iadd, 1) := by decide +kernel
theorem dX11_passMonth_18 : decode cX11_passMonth 18 = .ok (.iastore, 1) := by decide +kernel
theorem dX11_passMonth_19 : decode cX11_passMonth 19 = .ok (.return_, 1) := by decide +kernel
set_option maxRecDepth 20000 in
theorem ggX11_month_X11_remember : GoodIn wsX11_month wsX11_remember := goodIn_r _ [9, 10, 11, 12, 13, 8, 14, 3, 22, 23, 24, 25, 26, 27, 28, 29, 30, 31, 32, 33, 34, 35, 36, 37, 38, 39, 40, 41, 42, 43, 44, 45, 46, 47, 48, 49, 50] (by decide +kernel) (by decide +kernel)
set_option maxRecDepth 20000 in
theorem gX11_month_X11_remember : GoodIn wsX11_month (wsV RX11 193 RX11 yX11_remember wsX11_remember) := goodIn_app (goodIn_of _ (by decide +kernel)) ggX11_month_X11_remember
set_option maxRecDepth 20000 in
theorem ggX11_month_X11_ones : GoodIn wsX11_month wsX11_ones := goodIn_r _ [17] (by decide +kernel) (by decide +kernel)
set_option maxRecDepth 20000 in
theorem gX11_month_X11_ones : GoodIn wsX11_month (va_wsS RX11 163 yX11_ones wsX11_ones) := goodIn_app (goodIn_of _ (by decide +kernel)) ggX11_month_X11_ones
set_option maxRecDepth 20000 in
theorem ggX11_month_X11_passMonth : GoodIn wsX11_month wsX11_passMonth := goodIn_r _ [21, 3, 22, 23, 24, 25, 26, 27, 28, 29, 30, 31, 32, 33, 34, 35, 36, 37, 38, 39, 40, 41, 42, 43, 44, 45, 46, 47, 48, 49, 50] (by decide +kernel) (by decide +kernel)
set_option maxRecDepth 20000 in
theorem gX11_month_X11_passMonth : GoodIn wsX11_month (wsV RX11 201 RX11 yX11_passMonth wsX11_passMonth) := goodIn_app (goodIn_of _ (by decide +kernel)) ggX11_month_X11_passMonth
theorem dX11_month_0 : decode cX11_month 0 = .ok (.aload_n 0, 1) := by decide +kernel
theorem dX11_month_1 : decode cX11_month 1 = .ok (.getfield 126, 3) := by decide +kernel
theorem dX11_month_4 : decode cX11_month 4 = .ok (.ifCond .ne 6, 3) := by decide +kernel
theorem dX11_month_7 : decode cX11_month 7 = .ok (.ldc 200, 2) := by decide +kernel
theorem dX11_month_9 : decode cX11_month 9 = .ok (.ireturn, 1) := by decide +kernel
theorem dX11_month_10 : decode cX11_month 10 = .ok (.aload_n 0, 1) := by decide +kernel
theorem dX11_month_11 : decode cX11_month 11 = .ok (.getfield 7, 3) := by decide +kernel
theorem dX11_month_14 : decode cX11_month 14 = .ok (.bipush 13, 2) := by decide +kernel
theorem dX11_month_16 : decode cX11_month 16 = .ok (.iaload, 1) := by decide +kernel
theorem dX11_month_17 : decode cX11_month 17 = .ok (.sipush 9000, 3) := by decide +kernel
theorem dX11_month_20 : decode cX11_month 20 = .ok (.if_icmp .le 6, 3) := by decide +kernel
theorem dX11_month_23 : decode cX11_month 23 = .ok (.ldc 68, 2) := by decide +kernel
theorem dX11_month_25 : decode cX11_month 25 = .ok (.ireturn, 1) := by decide +kernel
theorem dX11_month_26 : decode cX11_month 26 = .ok (.aload_n 0, 1) := by decide +kernel
theorem dX11_month_27 : decode cX11_month 27 = .ok (.invokevirtual 193, 3) := by decide +kernel
theorem dX11_month_30 : decode cX11_month 30 = .ok (.aload_n 0, 1) := by decide +kernel
theorem dX11_month_31 : decode cX11_month 31 = .ok (.getfield 7, 3) := by decide +kernel
theorem dX11_month_34 : decode cX11_month 34 = .ok (.bipush 9, 2) := by decide +kernel
theorem dX11_month_36 : decode cX11_month 36 = .ok (.iaload, 1) := by decide +kernel
theorem dX11_month_37 : decode cX11_month 37 = .ok (.invokestatic 163, 3) := by decide +kernel
theorem dX11_month_40 : decode cX11_month 40 = .ok (.istore_n 1, 1) := by decide +kernel
theorem dX11_month_41 : decode cX11_month 41 = .ok (.aload_n 0, 1) := by decide +kernel
theorem dX11_month_42 : decode cX11_month 42 = .ok (.invokevirtual 201, 3) := by decide +kernel
theorem dX11_month_45 : decode cX11_month 45 = .ok (.iload_n 1, 1) := by decide +kernel
theorem dX11_month_46 : decode cX11_month 46 = .ok (.ireturn, 1) := by decide +kernel
theorem dX11_withOrNot_0 : decode cX11_withOrNot 0 = .ok (.iload_n 2, 1) := by decide +kernel
theorem dX11_withOrNot_1 : decode cX11_withOrNot 1 = .ok (.ifCond .eq 11, 3) := by decide +kernel
theorem dX11_withOrNot_4 : decode cX11_withOrNot 4 = .ok (.iload_n 0, 1) := by decide +kernel
theorem dX11_withOrNot_5 : decode cX11_withOrNot 5 = .ok (.iconst 1, 1) := by decide +kernel
theorem dX11_withOrNot_6 : decode cX11_withOrNot 6 = .ok (.iload_n 1, 1) := by decide +kernel
theorem dX11_withOrNot_7 : decode cX11_withOrNot 7 = .ok (.ishl, 1) := by decide +kernel
theorem dX11_withOrNot_8 : decode cX11_withOrNot 8 = .ok (.ior, 1) := by decide +kernel
theorem dX11_withOrNot_9 : decode cX11_withOrNot 9 = .ok (.goto 10, 3) := by decide +kernel
theorem dX11_withOrNot_12 : decode cX11_withOrNot 12 = .ok (.iload_n 0, 1) := by decide +kernel
theorem dX11_withOrNot_13 : decode cX11_withOrNot 13 = .ok (.iconst 1, 1) := by decide +kernel
theorem dX11_withOrNot_14 : decode cX11_withOrNot 14 = .ok (.iload_n 1, 1) := by decide +kernel
theorem dX11_withOrNot_15 : decode cX11_withOrNot 15 = .ok (.ishl, 1) := by decide +kernel
theorem dX11_withOrNot_16 : decode cX11_withOrNot 16 = .ok (.iconst (-1), 1) := by decide +kernel
theorem dX11_withOrNot_17 : decode cX11_withOrNot 17 = .ok (.ixor, 1) := by decide +kernel
theorem dX11_withOrNot_18 : decode cX11_withOrNot 18 = .ok (.iand, 1) := by decide +kernel
theorem dX11_withOrNot_19 : decode cX11_withOrNot 19 = .ok (.ireturn, 1) := by decide +kernel
set_option maxRecDepth 20000 in
theorem ggX11_keepIn_X11_isHearer : GoodIn wsX11_keepIn wsX11_isHearer := goodIn_r _ [7, 8, 9, 10, 6, 11, 24, 25, 26, 27, 28, 29, 30, 31, 32, 33, 34, 35, 36, 37, 38, 39, 40, 41, 42, 43, 44, 45, 46, 47, 48, 49, 50, 51, 52] (by decide +kernel) (by decide +kernel)
set_option maxRecDepth 20000 in
theorem gX11_keepIn_X11_isHearer : GoodIn wsX11_keepIn (wsV RX11 145 RX11 yX11_isHearer wsX11_isHearer) := goodIn_app (goodIn_of _ (by decide +kernel)) ggX11_keepIn_X11_isHearer
set_option maxRecDepth 20000 in
theorem ggX11_keepIn_X11_remember : GoodIn wsX11_keepIn wsX11_remember := goodIn_r _ [15, 16, 17, 18, 19, 6, 20, 2, 24, 25, 26, 27, 28, 29, 30, 31, 32, 33, 34, 35, 36, 37, 38, 39, 40, 41, 42, 43, 44, 45, 46, 47, 48, 49, 50, 51, 52] (by decide +kernel) (by decide +kernel)
set_option maxRecDepth 20000 in
theorem gX11_keepIn_X11_remember : GoodIn wsX11_keepIn (wsV RX11 193 RX11 yX11_remember wsX11_remember) := goodIn_app (goodIn_of _ (by decide +kernel)) ggX11_keepIn_X11_remember
set_option maxRecDepth 20000 in
theorem ggX11_keepIn_X11_withOrNot : GoodIn wsX11_keepIn wsX11_withOrNot := goodIn_r _ [23] (by decide +kernel) (by decide +kernel)
set_option maxRecDepth 20000 in
theorem gX11_keepIn_X11_withOrNot : GoodIn wsX11_keepIn (va_wsS RX11 204 yX11_withOrNot wsX11_withOrNot) := goodIn_app (goodIn_of _ (by decide +kernel)) ggX11_keepIn_X11_withOrNot
theorem dX11_keepIn_0 : decode cX11_keepIn 0 = .ok (.aload_n 0, 1) := by decide +kernel
theorem dX11_keepIn_1 : decode cX11_keepIn 1 = .ok (.iload_n 1, 1) := by decide +kernel
theorem dX11_keepIn_2 : decode cX11_keepIn 2 = .ok (.invokevirtual 145, 3) := by decide +kernel
theorem dX11_keepIn_5 : decode cX11_keepIn 5 = .ok (.ifCond .ne 6, 3) := by decide +kernel
theorem dX11_keepIn_8 : decode cX11_keepIn 8 = .ok (.ldc 149, 2) := by decide +kernel
theorem dX11_keepIn_10 : decode cX11_keepIn 10 = .ok (.ireturn, 1) := by decide +kernel
theorem dX11_keepIn_11 : decode cX11_keepIn 11 = .ok (.aload_n 0, 1) := by decide +kernel
theorem dX11_keepIn_12 : decode cX11_keepIn 12 = .ok (.invokevirtual 193, 3) := by decide +kernel
theorem dX11_keepIn_15 : decode cX11_keepIn 15 = .ok (.aload_n 0, 1) := by decide +kernel
theorem dX11_keepIn_16 : decode cX11_keepIn 16 = .ok (.getfield 7, 3) := by decide +kernel
theorem dX11_keepIn_19 : decode cX11_keepIn 19 = .ok (.bipush 10, 2) := by decide +kernel
theorem dX11_keepIn_21 : decode cX11_keepIn 21 = .ok (.iaload, 1) := by decide +kernel
theorem dX11_keepIn_22 : decode cX11_keepIn 22 = .ok (.iload_n 1, 1) := by decide +kernel
theorem dX11_keepIn_23 : decode cX11_keepIn 23 = .ok (.ishr, 1) := by decide +kernel
theorem dX11_keepIn_24 : decode cX11_keepIn 24 = .ok (.iconst 1, 1) := by decide +kernel
theorem dX11_keepIn_25 : decode cX11_keepIn 25 = .ok (.iand, 1) := by decide +kernel
theorem dX11_keepIn_26 : decode cX11_keepIn 26 = .ok (.istore_n 3, 1) := by decide +kernel
theorem dX11_keepIn_27 : decode cX11_keepIn 27 = .ok (.aload_n 0, 1) := by decide +kernel
theorem dX11_keepIn_28 : decode cX11_keepIn 28 = .ok (.getfield 7, 3) := by decide +kernel
theorem dX11_keepIn_31 : decode cX11_keepIn 31 = .ok (.bipush 10, 2) := by decide +kernel
theorem dX11_keepIn_33 : decode cX11_keepIn 33 = .ok (.aload_n 0, 1) := by decide +kernel
theorem dX11_keepIn_34 : decode cX11_keepIn 34 = .ok (.getfield 7, 3) := by decide +kernel
theorem dX11_keepIn_37 : decode cX11_keepIn 37 = .ok (.bipush 10, 2) := by decide +kernel
theorem dX11_keepIn_39 : decode cX11_keepIn 39 = .ok (.iaload, 1) := by decide +kernel
theorem dX11_keepIn_40 : decode cX11_keepIn 40 = .ok (.iload_n 1, 1) := by decide +kernel
theorem dX11_keepIn_41 : decode cX11_keepIn 41 = .ok (.iload_n 2, 1) := by decide +kernel
theorem dX11_keepIn_42 : decode cX11_keepIn 42 = .ok (.invokestatic 204, 3) := by decide +kernel
theorem dX11_keepIn_45 : decode cX11_keepIn 45 = .ok (.iastore, 1) := by decide +kernel
theorem dX11_keepIn_46 : decode cX11_keepIn 46 = .ok (.iload_n 3, 1) := by decide +kernel
theorem dX11_keepIn_47 : decode cX11_keepIn 47 = .ok (.ireturn, 1) := by decide +kernel
set_option maxRecDepth 20000 in
theorem ggX11_move_X11_isHearer : GoodIn wsX11_move wsX11_isHearer := goodIn_r _ [7, 8, 9, 10, 6, 11, 26, 27, 28, 29, 30, 31, 32, 33, 34, 35, 36, 37, 38, 39, 40, 41, 42, 43, 44, 45, 46, 47, 48, 49, 50, 51, 52, 53, 54] (by decide +kernel) (by decide +kernel)
set_option maxRecDepth 20000 in
theorem gX11_move_X11_isHearer : GoodIn wsX11_move (wsV RX11 145 RX11 yX11_isHearer wsX11_isHearer) := goodIn_app (goodIn_of _ (by decide +kernel)) ggX11_move_X11_isHearer
set_option maxRecDepth 20000 in
theorem ggX11_move_X11_isCorner : GoodIn wsX11_move wsX11_isCorner := goodIn_r _ [15, 16, 9, 10, 6, 11, 26, 27, 28, 29, 30, 31, 32, 33, 34, 35, 36, 37, 38, 39, 40, 41, 42, 43, 44, 45, 46, 47, 48, 49, 50, 51, 52, 53, 54] (by decide +kernel) (by decide +kernel)
set_option maxRecDepth 20000 in
theorem gX11_move_X11_isCorner : GoodIn wsX11_move (wsV RX11 150 RX11 yX11_isCorner wsX11_isCorner) := goodIn_app (goodIn_of _ (by decide +kernel)) ggX11_move_X11_isCorner
set_option maxRecDepth 20000 in
theorem ggX11_move_X11_remember : GoodIn wsX11_move wsX11_remember := goodIn_r _ [20, 21, 22, 23, 24, 6, 25, 2, 26, 27, 28, 29, 30, 31, 32, 33, 34, 35, 36, 37, 38, 39, 40, 41, 42, 43, 44, 45, 46, 47, 48, 49, 50, 51, 52, 53, 54] (by decide +kernel) (by decide +kernel)
set_option maxRecDepth 20000 in
theorem gX11_move_X11_remember : GoodIn wsX11_move (wsV RX11 193 RX11 yX11_remember wsX11_remember) := goodIn_app (goodIn_of _ (by decide +kernel)) ggX11_move_X11_remember
theorem dX11_move_0 : decode cX11_move 0 = .ok (.aload_n 0, 1) := by decide +kernel
theorem dX11_move_1 : decode cX11_move 1 = .ok (.iload_n 1, 1) := by decide +kernel
theorem dX11_move_2 : decode cX11_move 2 = .ok (.invokevirtual 145, 3) := by decide +kernel
theorem dX11_move_5 : decode cX11_move 5 = .ok (.ifCond .eq 11, 3) := by decide +kernel
theorem dX11_move_8 : decode cX11_move 8 = .ok (.aload_n 0, 1) := by decide +kernel
theorem dX11_move_9 : decode cX11_move 9 = .ok (.iload_n 2, 1) := by decide +kernel
theorem dX11_move_10 : decode cX11_move 10 = .ok (.invokevirtual 150, 3) := by decide +kernel
theorem dX11_move_13 : decode cX11_move 13 = .ok (.ifCond .ne 6, 3) := by decide +kernel
theorem dX11_move_16 : decode cX11_move 16 = .ok (.ldc 149, 2) := by decide +kernel
theorem dX11_move_18 : decode cX11_move 18 = .ok (.ireturn, 1) := by decide +kernel
theorem dX11_move_19 : decode cX11_move 19 = .ok (.aload_n 0, 1) := by decide +kernel
theorem dX11_move_20 : decode cX11_move 20 = .ok (.invokevirtual 193, 3) := by decide +kernel
theorem dX11_move_23 : decode cX11_move 23 = .ok (.aload_n 0, 1) := by decide +kernel
theorem dX11_move_24 : decode cX11_move 24 = .ok (.getfield 7, 3) := by decide +kernel
theorem dX11_move_27 : decode cX11_move 27 = .ok (.iload_n 1, 1) := by decide +kernel
theorem dX11_move_28 : decode cX11_move 28 = .ok (.iaload, 1) := by decide +kernel
theorem dX11_move_29 : decode cX11_move 29 = .ok (.istore_n 3, 1) := by decide +kernel
theorem dX11_move_30 : decode cX11_move 30 = .ok (.aload_n 0, 1) := by decide +kernel
theorem dX11_move_31 : decode cX11_move 31 = .ok (.getfield 7, 3) := by decide +kernel
theorem dX11_move_34 : decode cX11_move 34 = .ok (.iload_n 1, 1) := by decide +kernel
theorem dX11_move_35 : decode cX11_move 35 = .ok (.iload_n 2, 1) := by decide +kernel
theorem dX11_move_36 : decode cX11_move 36 = .ok (.iastore, 1) := by decide +kernel
theorem dX11_move_37 : decode cX11_move 37 = .ok (.iload_n 3, 1) := by decide +kernel
theorem dX11_move_38 : decode cX11_move 38 = .ok (.ireturn, 1) := by decide +kernel
set_option maxRecDepth 20000 in
theorem ggX11_cold_X11_isCorner : GoodIn wsX11_cold wsX11_isCorner := goodIn_r _ [7, 8, 9, 10, 6, 11, 24, 25, 26, 27, 28, 29, 30, 31, 32, 33, 34, 35, 36, 37, 38, 39, 40, 41, 42, 43, 44, 45, 46, 47, 48, 49, 50, 51, 52] (by decide +kernel) (by decide +kernel)
set_option maxRecDepth 20000 in
theorem gX11_cold_X11_isCorner : GoodIn wsX11_cold (wsV RX11 150 RX11 yX11_isCorner wsX11_isCorner) := goodIn_app (goodIn_of _ (by decide +kernel)) ggX11_cold_X11_isCorner
set_option maxRecDepth 20000 in
theorem ggX11_cold_X11_remember : GoodIn wsX11_cold wsX11_remember := goodIn_r _ [15, 16, 17, 18, 19, 6, 20, 2, 24, 25, 26, 27, 28, 29, 30, 31, 32, 33, 34, 35, 36, 37, 38, 39, 40, 41, 42, 43, 44, 45, 46, 47, 48, 49, 50, 51, 52] (by decide +kernel) (by decide +kernel)
set_option maxRecDepth 20000 in
theorem gX11_cold_X11_remember : GoodIn wsX11_cold (wsV RX11 193 RX11 yX11_remember wsX11_remember) := goodIn_app (goodIn_of _ (by decide +kernel)) ggX11_cold_X11_remember
set_option maxRecDepth 20000 in
theorem ggX11_cold_X11_withOrNot : GoodIn wsX11_cold wsX11_withOrNot := goodIn_r _ [23] (by decide +kernel) (by decide +kernel)
set_option maxRecDepth 20000 in
theorem gX11_cold_X11_withOrNot : GoodIn wsX11_cold (va_wsS RX11 204 yX11_withOrNot wsX11_withOrNot) := goodIn_app (goodIn_of _ (by decide +kernel)) ggX11_cold_X11_withOrNot
theorem dX11_cold_0 : decode cX11_cold 0 = .ok (.aload_n 0, 1) := by decide +kernel
theorem dX11_cold_1 : decode cX11_cold 1 = .ok (.iload_n 1, 1) := by decide +kernel
theorem dX11_cold_2 : decode cX11_cold 2 = .ok (.invokevirtual 150, 3) := by decide +kernel
theorem dX11_cold_5 : decode cX11_cold 5 = .ok (.ifCond .ne 6, 3) := by decide +kernel
theorem dX11_cold_8 : decode cX11_cold 8 = .ok (.ldc 149, 2) := by decide +kernel
theorem dX11_cold_10 : decode cX11_cold 10 = .ok (.ireturn, 1) := by decide +kernel
theorem dX11_cold_11 : decode cX11_cold 11 = .ok (.aload_n 0, 1) := by decide +kernel
theorem dX11_cold_12 : decode cX11_cold 12 = .ok (.invokevirtual 193, 3) := by decide +kernel
theorem dX11_cold_15 : decode cX11_cold 15 = .ok (.aload_n 0, 1) := by decide +kernel
theorem dX11_cold_16 : decode cX11_cold 16 = .ok (.getfield 7, 3) := by decide +kernel
theorem dX11_cold_19 : decode cX11_cold 19 = .ok (.bipush 11, 2) := by decide +kernel
theorem dX11_cold_21 : decode cX11_cold 21 = .ok (.iaload, 1) := by decide +kernel
theorem dX11_cold_22 : decode cX11_cold 22 = .ok (.iload_n 1, 1) := by decide +kernel
theorem dX11_cold_23 : decode cX11_cold 23 = .ok (.ishr, 1) := by decide +kernel
theorem dX11_cold_24 : decode cX11_cold 24 = .ok (.iconst 1, 1) := by decide +kernel
theorem dX11_cold_25 : decode cX11_cold 25 = .ok (.iand, 1) := by decide +kernel
theorem dX11_cold_26 : decode cX11_cold 26 = .ok (.istore_n 3, 1) := by decide +kernel
theorem dX11_cold_27 : decode cX11_cold 27 = .ok (.aload_n 0, 1) := by decide +kernel
theorem dX11_cold_28 : decode cX11_cold 28 = .ok (.getfield 7, 3) := by decide +kernel
theorem dX11_cold_31 : decode cX11_cold 31 = .ok (.bipush 11, 2) := by decide +kernel
theorem dX11_cold_33 : decode cX11_cold 33 = .ok (.aload_n 0, 1) := by decide +kernel
theorem dX11_cold_34 : decode cX11_cold 34 = .ok (.getfield 7, 3) := by decide +kernel
theorem dX11_cold_37 : decode cX11_cold 37 = .ok (.bipush 11, 2) := by decide +kernel
theorem dX11_cold_39 : decode cX11_cold 39 = .ok (.iaload, 1) := by decide +kernel
theorem dX11_cold_40 : decode cX11_cold 40 = .ok (.iload_n 1, 1) := by decide +kernel
theorem dX11_cold_41 : decode cX11_cold 41 = .ok (.iload_n 2, 1) := by decide +kernel
theorem dX11_cold_42 : decode cX11_cold 42 = .ok (.invokestatic 204, 3) := by decide +kernel
theorem dX11_cold_45 : decode cX11_cold 45 = .ok (.iastore, 1) := by decide +kernel
theorem dX11_cold_46 : decode cX11_cold 46 = .ok (.iload_n 3, 1) := by decide +kernel
theorem dX11_cold_47 : decode cX11_cold 47 = .ok (.ireturn, 1) := by decide +kernel
theorem dX11_draw_0 : decode cX11_draw 0 = .ok (.aload_n 0, 1) := by decide +kernel
theorem dX11_draw_1 : decode cX11_draw 1 = .ok (.getfield 7, 3) := by decide +kernel
theorem dX11_draw_4 : decode cX11_draw 4 = .ok (.bipush 16, 2) := by decide +kernel
theorem dX11_draw_6 : decode cX11_draw 6 = .ok (.aload_n 0, 1) := by decide +kernel
theorem dX11_draw_7 : decode cX11_draw 7 = .ok (.getfield 7, 3) := by decide +kernel
theorem dX11_draw_10 : decode cX11_draw 10 = .ok (.bipush 16, 2) := by decide +kernel
theorem dX11_draw_12 : decode cX11_draw 12 = .ok (.iaload, 1) := by decide +kernel
theorem dX11_draw_13 : decode cX11_draw 13 = .ok (.i2l, 1) := by decide +kernel
theorem dX11_draw_14 : decode cX11_draw 14 = .ok (.ldc2_w 208, 3) := by decide +kernel
theorem dX11_draw_17 : decode cX11_draw 17 = .ok (.lmul, 1) := by decide +kernel
theorem dX11_draw_18 : decode cX11_draw 18 = .ok (.ldc2_w 210, 3) := by decide +kernel
theorem dX11_draw_21 : decode cX11_draw 21 = .ok (.ladd, 1) := by decide +kernel
theorem dX11_draw_22 : decode cX11_draw 22 = .ok (.ldc2_w 212, 3) := by decide +kernel
theorem dX11_draw_25 : decode cX11_draw 25 = .ok (.lrem, 1) := by decide +kernel
theorem dX11_draw_26 : decode cX11_draw 26 = .ok (.l2i, 1) := by decide +kernel
theorem dX11_draw_27 : decode cX11_draw 27 = .ok (.iastore, 1) := by decide +kernel
theorem dX11_draw_28 : decode cX11_draw 28 = .ok (.aload_n 0, 1) := by decide +kernel
theorem dX11_draw_29 : decode cX11_draw 29 = .ok (.getfield 7, 3) := by decide +kernel
theorem dX11_draw_32 : decode cX11_draw 32 = .ok (.bipush 16, 2) := by decide +kernel
theorem dX11_draw_34 : decode cX11_draw 34 = .ok (.iaload, 1) := by decide +kernel
theorem dX11_draw_35 : decode cX11_draw 35 = .ok (.ldc 214, 2) := by decide +kernel
theorem dX11_draw_37 : decode cX11_draw 37 = .ok (.idiv, 1) := by decide +kernel
theorem dX11_draw_38 : decode cX11_draw 38 = .ok (.iload_n 1, 1) := by decide +kernel
theorem dX11_draw_39 : decode cX11_draw 39 = .ok (.irem, 1) := by decide +kernel
theorem dX11_draw_40 : decode cX11_draw 40 = .ok (.ireturn, 1) := by decide +kernel
set_option maxRecDepth 20000 in
theorem ggX11_drift_X11_in : GoodIn wsX11_drift wsX11_in := goodIn_r _ [11] (by decide +kernel) (by decide +kernel)
set_option maxRecDepth 20000 in
theorem gX11_drift_X11_in : GoodIn wsX11_drift (va_wsS RX11 60 yX11_in wsX11_in) := goodIn_app (goodIn_of _ (by decide +kernel)) ggX11_drift_X11_in
set_option maxRecDepth 20000 in
theorem ggX11_drift_X11_remember : GoodIn wsX11_drift wsX11_remember := goodIn_r _ [15, 16, 17, 18, 19, 10, 20, 5, 74, 75, 76, 77, 78, 79, 80, 81, 82, 83, 84, 85, 86, 87, 88, 89, 90, 91, 92, 93, 94, 95, 96, 97, 98, 99, 100, 101, 102] (by decide +kernel) (by decide +kernel)
set_option maxRecDepth 20000 in
theorem gX11_drift_X11_remember : GoodIn wsX11_drift (wsV RX11 193 RX11 yX11_remember wsX11_remember) := goodIn_app (goodIn_of _ (by decide +kernel)) ggX11_drift_X11_remember
set_option maxRecDepth 20000 in
theorem ggX11_drift_X11_draw : GoodIn wsX11_drift wsX11_draw := goodIn_r _ [24, 5, 25, 26, 27, 28, 74, 75, 76, 77, 78, 79, 80, 81, 82, 83, 84, 85, 86, 87, 88, 89, 90, 91, 92, 93, 94, 95, 96, 97, 98, 99, 100, 101, 102] (by decide +kernel) (by decide +kernel)
set_option maxRecDepth 20000 in
theorem gX11_drift_X11_draw : GoodIn wsX11_drift (wsV RX11 217 RX11 yX11_draw wsX11_draw) := goodIn_app (goodIn_of _ (by decide +kernel)) ggX11_drift_X11_draw
set_option maxRecDepth 20000 in
theorem ggX11_drift_X11_roundNow : GoodIn wsX11_drift wsX11_roundNow := goodIn_r _ [32, 5, 33, 34, 35, 36, 10, 37, 38, 7, 39, 40, 41, 42, 43, 44, 45, 3, 46, 47, 48, 49, 50, 51, 52, 53, 54, 55, 56, 57, 58, 59, 60, 61, 62, 63, 64, 65, 66, 67, 68, 69, 74, 75, 76, 77, 78, 79, 80, 81, 82, 83, 84, 85, 86, 87, 88, 89, 90, 91, 92, 93, 94, 95, 96, 97, 98, 99, 100, 101, 102] (by decide +kernel) (by decide +kernel)
set_option maxRecDepth 20000 in
theorem gX11_drift_X11_roundNow : GoodIn wsX11_drift (wsV RX11 196 RX11 yX11_roundNow wsX11_roundNow) := goodIn_app (goodIn_of _ (by decide +kernel)) ggX11_drift_X11_roundNow
set_option maxRecDepth 20000 in
theorem ggX11_drift_X11_passMonth : GoodIn wsX11_drift wsX11_passMonth := goodIn_r _ [73, 5, 74, 75, 76, 77, 78, 79, 80, 81, 82, 83, 84, 85, 86, 87, 88, 89, 90, 91, 92, 93, 94, 95, 96, 97, 98, 99, 100, 101, 102] (by decide +kernel) (by decide +kernel)
set_option maxRecDepth 20000 in
theorem gX11_drift_X11_passMonth : GoodIn wsX11_drift (wsV RX11 201 RX11 yX11_passMonth wsX11_passMonth) := goodIn_app (goodIn_of _ (by decide +kernel)) ggX11_drift_X11_passMonth
theorem dX11_drift_0 : decode cX11_drift 0 = .ok (.iload_n 1, 1) := by decide +kernel
theorem dX11_drift_1 : decode cX11_drift 1 = .ok (.i2l, 1) := by decide +kernel
theorem dX11_drift_2 : decode cX11_drift 2 = .ok (.lconst 1, 1) := by decide +kernel
theorem dX11_drift_3 : decode cX11_drift 3 = .ok (.ldc2_w 215, 3) := by decide +kernel
theorem dX11_drift_6 : decode cX11_drift 6 = .ok (.invokestatic 60, 3) := by decide +kernel
theorem dX11_drift_9 : decode cX11_drift 9 = .ok (.ifCond .ne 6, 3) := by decide +kernel
theorem dX11_drift_12 : decode cX11_drift 12 = .ok (.ldc 64, 2) := by decide +kernel
theorem dX11_drift_14 : decode cX11_drift 14 = .ok (.ireturn, 1) := by decide +kernel
theorem dX11_drift_15 : decode cX11_drift 15 = .ok (.aload_n 0, 1) := by decide +kernel
theorem dX11_drift_16 : decode cX11_drift 16 = .ok (.getfield 126, 3) := by decide +kernel
theorem dX11_drift_19 : decode cX11_drift 19 = .ok (.ifCond .ne 6, 3) := by decide +kernel
theorem dX11_drift_22 : decode cX11_drift 22 = .ok (.ldc 200, 2) := by decide +kernel
theorem dX11_drift_24 : decode cX11_drift 24 = .ok (.ireturn, 1) := by decide +kernel
theorem dX11_drift_25 : decode cX11_drift 25 = .ok (.aload_n 0, 1) := by decide +kernel
theorem dX11_drift_26 : decode cX11_drift 26 = .ok (.getfield 7, 3) := by decide +kernel
theorem dX11_drift_29 : decode cX11_drift 29 = .ok (.bipush 12, 2) := by decide +kernel
theorem dX11_drift_31 : decode cX11_drift 31 = .ok (.iaload, 1) := by decide +kernel
theorem dX11_drift_32 : decode cX11_drift 32 = .ok (.sipush 9000, 3) := by decide +kernel
theorem dX11_drift_35 : decode cX11_drift 35 = .ok (.if_icmp .gt 16, 3) := by decide +kernel
theorem dX11_drift_38 : decode cX11_drift 38 = .ok (.aload_n 0, 1) := by decide +kernel
theorem dX11_drift_39 : decode cX11_drift 39 = .ok (.getfield 7, 3) := by decide +kernel
theorem dX11_drift_42 : decode cX11_drift 42 = .ok (.bipush 13, 2) := by decide +kernel
theorem dX11_drift_44 : decode cX11_drift 44 = .ok (.iaload, 1) := by decide +kernel
theorem dX11_drift_45 : decode cX11_drift 45 = .ok (.sipush 9000, 3) := by decide +kernel
theorem dX11_drift_48 : decode cX11_drift 48 = .ok (.if_icmp .le 6, 3) := by decide +kernel
theorem dX11_drift_51 : decode cX11_drift 51 = .ok (.ldc 68, 2) := by decide +kernel
theorem dX11_drift_53 : decode cX11_drift 53 = .ok (.ireturn, 1) := by decide +kernel
theorem dX11_drift_54 : decode cX11_drift 54 = .ok (.iconst 0, 1) := by decide +kernel
theorem dX11_drift_55 : decode cX11_drift 55 = .ok (.istore_n 2, 1) := by decide +kernel
theorem dX11_drift_56 : decode cX11_drift 56 = .ok (.iload_n 2, 1) := by decide +kernel
theorem dX11_drift_57 : decode cX11_drift 57 = .ok (.iload_n 1, 1) := by decide +kernel
theorem dX11_drift_58 : decode cX11_drift 58 = .ok (.if_icmp .ge 59, 3) := by decide +kernel
theorem dX11_drift_61 : decode cX11_drift 61 = .ok (.aload_n 0, 1) := by decide +kernel
theorem dX11_drift_62 : decode cX11_drift 62 = .ok (.invokevirtual 193, 3) := by decide +kernel
theorem dX11_drift_65 : decode cX11_drift 65 = .ok (.aload_n 0, 1) := by decide +kernel
theorem dX11_drift_66 : decode cX11_drift 66 = .ok (.getfield 123, 3) := by decide +kernel
theorem dX11_drift_69 : decode cX11_drift 69 = .ok (.ifCond .le 38, 3) := by decide +kernel
theorem dX11_drift_72 : decode cX11_drift 72 = .ok (.aload_n 0, 1) := by decide +kernel
theorem dX11_drift_73 : decode cX11_drift 73 = .ok (.sipush 256, 3) := by decide +kernel
theorem dX11_drift_76 : decode cX11_drift 76 = .ok (.invokevirtual 217, 3) := by decide +kernel
theorem dX11_drift_79 : decode cX11_drift 79 = .ok (.aload_n 0, 1) := by decide +kernel
theorem dX11_drift_80 : decode cX11_drift 80 = .ok (.getfield 126, 3) := by decide +kernel
theorem dX11_drift_83 : decode cX11_drift 83 = .ok (.iand, 1) := by decide +kernel
theorem dX11_drift_84 : decode cX11_drift 84 = .ok (.istore_n 3, 1) := by decide +kernel
theorem dX11_drift_85 : decode cX11_drift 85 = .ok (.aload_n 0, 1) := by decide +kernel
theorem dX11_drift_86 : decode cX11_drift 86 = .ok (.aload_n 0, 1) := by decide +kernel
theorem dX11_drift_87 : decode cX11_drift 87 = .ok (.getfield 123, 3) := by decide +kernel
theorem dX11_drift_90 : decode cX11_drift 90 = .ok (.invokevirtual 217, 3) := by decide +kernel
theorem dX11_drift_93 : decode cX11_drift 93 = .ok (.istore 4, 2) := by decide +kernel
theorem dX11_drift_95 : decode cX11_drift 95 = .ok (.aload_n 0, 1) := by decide +kernel
theorem dX11_drift_96 : decode cX11_drift 96 = .ok (.iload_n 3, 1) := by decide +kernel
theorem dX11_drift_97 : decode cX11_drift 97 = .ok (.iload 4, 2) := by decide +kernel
theorem dX11_drift_99 : decode cX11_drift 99 = .ok (.aload_n 0, 1) := by decide +kernel
theorem dX11_drift_100 : decode cX11_drift 100 = .ok (.iconst 2, 1) := by decide +kernel
theorem dX11_drift_101 : decode cX11_drift 101 = .ok (.invokevirtual 217, 3) := by decide +kernel
theorem dX11_drift_104 : decode cX11_drift 104 = .ok (.invokevirtual 196, 3) := by decide +kernel
theorem dX11_drift_107 : decode cX11_drift 107 = .ok (.aload_n 0, 1) := by decide +kernel
theorem dX11_drift_108 : decode cX11_drift 108 = .ok (.invokevirtual 201, 3) := by decide +kernel
theorem dX11_drift_111 : decode cX11_drift 111 = .ok (.iinc 2 1, 3) := by decide +kernel
theorem dX11_drift_114 : decode cX11_drift 114 = .ok (.goto (-58), 3) := by decide +kernel
theorem dX11_drift_117 : decode cX11_drift 117 = .ok (.aload_n 0, 1) := by decide +kernel
theorem dX11_drift_118 : decode cX11_drift 118 = .ok (.getfield 7, 3) := by decide +kernel
theorem dX11_drift_121 : decode cX11_drift 121 = .ok (.bipush 14, 2) := by decide +kernel
theorem dX11_drift_123 : decode cX11_drift 123 = .ok (.iaload, 1) := by decide +kernel
theorem dX11_drift_124 : decode cX11_drift 124 = .ok (.ireturn, 1) := by decide +kernel
set_option maxRecDepth 20000 in
theorem ggX11_undo_X11_in : GoodIn wsX11_undo wsX11_in := goodIn_r _ [9] (by decide +kernel) (by decide +kernel)
set_option maxRecDepth 20000 in
theorem gX11_undo_X11_in : GoodIn wsX11_undo (va_wsS RX11 60 yX11_in wsX11_in) := goodIn_app (goodIn_of _ (by decide +kernel)) ggX11_undo_X11_in
set_option maxRecDepth 20000 in
theorem ggX11_undo_X11_copy : GoodIn wsX11_undo wsX11_copy := goodIn_r _ [13, 5, 14, 15, 16, 17, 18, 19, 20, 21, 22, 23, 24, 25, 26, 27, 28, 29, 30, 31, 32, 33, 34, 35, 36, 37, 38, 39, 40, 41, 42] (by decide +kernel) (by decide +kernel)
set_option maxRecDepth 20000 in
theorem gX11_undo_X11_copy : GoodIn wsX11_undo (wsV RX11 183 RX11 yX11_copy wsX11_copy) := goodIn_app (goodIn_of _ (by decide +kernel)) ggX11_undo_X11_copy
theorem dX11_undo_0 : decode cX11_undo 0 = .ok (.iload_n 1, 1) := by decide +kernel
theorem dX11_undo_1 : decode cX11_undo 1 = .ok (.i2l, 1) := by decide +kernel
theorem dX11_undo_2 : decode cX11_undo 2 = .ok (.lconst 1, 1) := by decide +kernel
theorem dX11_undo_3 : decode cX11_undo 3 = .ok (.ldc2_w 220, 3) := by decide +kernel
theorem dX11_undo_6 : decode cX11_undo 6 = .ok (.invokestatic 60, 3) := by decide +kernel
theorem dX11_undo_9 : decode cX11_undo 9 = .ok (.ifCond .ne 6, 3) := by decide +kernel
theorem dX11_undo_12 : decode cX11_undo 12 = .ok (.ldc 64, 2) := by decide +kernel
theorem dX11_undo_14 : decode cX11_undo 14 = .ok (.ireturn, 1) := by decide +kernel
theorem dX11_undo_15 : decode cX11_undo 15 = .ok (.iload_n 1, 1) := by decide +kernel
theorem dX11_undo_16 : decode cX11_undo 16 = .ok (.aload_n 0, 1) := by decide +kernel
theorem dX11_undo_17 : decode cX11_undo 17 = .ok (.getfield 142, 3) := by decide +kernel
theorem dX11_undo_20 : decode cX11_undo 20 = .ok (.if_icmp .le 6, 3) := by decide +kernel
theorem dX11_undo_23 : decode cX11_undo 23 = .ok (.ldc 200, 2) := by decide +kernel
theorem dX11_undo_25 : decode cX11_undo 25 = .ok (.ireturn, 1) := by decide +kernel
theorem dX11_undo_26 : decode cX11_undo 26 = .ok (.aload_n 0, 1) := by decide +kernel
theorem dX11_undo_27 : decode cX11_undo 27 = .ok (.dup, 1) := by decide +kernel
theorem dX11_undo_28 : decode cX11_undo 28 = .ok (.getfield 142, 3) := by decide +kernel
theorem dX11_undo_31 : decode cX11_undo 31 = .ok (.iload_n 1, 1) := by decide +kernel
theorem dX11_undo_32 : decode cX11_undo 32 = .ok (.isub, 1) := by decide +kernel
theorem dX11_undo_33 : decode cX11_undo 33 = .ok (.putfield 142, 3) := by decide +kernel
theorem dX11_undo_36 : decode cX11_undo 36 = .ok (.aload_n 0, 1) := by decide +kernel
theorem dX11_undo_37 : decode cX11_undo 37 = .ok (.getfield 7, 3) := by decide +kernel
theorem dX11_undo_40 : decode cX11_undo 40 = .ok (.bipush 16, 2) := by decide +kernel
theorem dX11_undo_42 : decode cX11_undo 42 = .ok (.iaload, 1) := by decide +kernel
theorem dX11_undo_43 : decode cX11_undo 43 = .ok (.istore_n 2, 1) := by decide +kernel
theorem dX11_undo_44 : decode cX11_undo 44 = .ok (.aload_n 0, 1) := by decide +kernel
theorem dX11_undo_45 : decode cX11_undo 45 = .ok (.bipush 68, 2) := by decide +kernel
theorem dX11_undo_47 : decode cX11_undo 47 = .ok (.bipush 17, 2) := by decide +kernel
theorem dX11_undo_49 : decode cX11_undo 49 = .ok (.aload_n 0, 1) := by decide +kernel
theorem dX11_undo_50 : decode cX11_undo 50 = .ok (.getfield 142, 3) := by decide +kernel
theorem dX11_undo_53 : decode cX11_undo 53 = .ok (.imul, 1) := by decide +kernel
theorem dX11_undo_54 : decode cX11_undo 54 = .ok (.iadd, 1) := by decide +kernel
theorem dX11_undo_55 : decode cX11_undo 55 = .ok (.iconst 0, 1) := by decide +kernel
theorem dX11_undo_56 : decode cX11_undo 56 = .ok (.invokevirtual 183, 3) := by decide +kernel
theorem dX11_undo_59 : decode cX11_undo 59 = .ok (.aload_n 0, 1) := by decide +kernel
theorem dX11_undo_60 : decode cX11_undo 60 = .ok (.getfield 7, 3) := by decide +kernel
theorem dX11_undo_63 : decode cX11_undo 63 = .ok (.bipush 16, 2) := by decide +kernel
theorem dX11_undo_65 : decode cX11_undo 65 = .ok (.iload_n 2, 1) := by decide +kernel
theorem dX11_undo_66 : decode cX11_undo 66 = .ok (.iastore, 1) := by decide +kernel
theorem dX11_undo_67 : decode cX11_undo 67 = .ok (.aload_n 0, 1) := by decide +kernel
theorem dX11_undo_68 : decode cX11_undo 68 = .ok (.getfield 7, 3) := by decide +kernel
theorem dX11_undo_71 : decode cX11_undo 71 = .ok (.bipush 12, 2) := by decide +kernel
theorem dX11_undo_73 : decode cX11_undo 73 = .ok (.iaload, 1) := by decide +kernel
theorem dX11_undo_74 : decode cX11_undo 74 = .ok (.ireturn, 1) := by decide +kernel
set_option maxRecDepth 20000 in
theorem ggX11_would_X11_isDecree : GoodIn wsX11_would wsX11_isDecree := goodIn_r _ [10, 11, 67, 68, 69, 70, 71, 72, 73, 74, 75, 76, 77, 78, 79, 80, 81, 82, 83, 84, 85, 86, 87, 88, 89, 90, 91, 92, 93, 94, 95] (by decide +kernel) (by decide +kernel)
set_option maxRecDepth 20000 in
theorem gX11_would_X11_isDecree : GoodIn wsX11_would (wsV RX11 187 RX11 yX11_isDecree wsX11_isDecree) := goodIn_app (goodIn_of _ (by decide +kernel)) ggX11_would_X11_isDecree
set_option maxRecDepth 20000 in
theorem ggX11_would_X11_isCorner : GoodIn wsX11_would wsX11_isCorner := goodIn_r _ [15, 16, 17, 18, 9, 19, 67, 68, 69, 70, 71, 72, 73, 74, 75, 76, 77, 78, 79, 80, 81, 82, 83, 84, 85, 86, 87, 88, 89, 90, 91, 92, 93, 94, 95] (by decide +kernel) (by decide +kernel)
set_option maxRecDepth 20000 in
theorem gX11_would_X11_isCorner : GoodIn wsX11_would (wsV RX11 150 RX11 yX11_isCorner wsX11_isCorner) := goodIn_app (goodIn_of _ (by decide +kernel)) ggX11_would_X11_isCorner
set_option maxRecDepth 20000 in
theorem ggX11_would_X11_isWay : GoodIn wsX11_would wsX11_isWay := goodIn_r _ [22, 17, 18, 9, 19] (by decide +kernel) (by decide +kernel)
set_option maxRecDepth 20000 in
theorem gX11_would_X11_isWay : GoodIn wsX11_would (va_wsS RX11 190 yX11_isWay wsX11_isWay) := goodIn_app (goodIn_of _ (by decide +kernel)) ggX11_would_X11_isWay
set_option maxRecDepth 20000 in
theorem ggX11_would_X11_in : GoodIn wsX11_would wsX11_in := goodIn_r _ [19] (by decide +kernel) (by decide +kernel)
set_option maxRecDepth 20000 in
theorem gX11_would_X11_in : GoodIn wsX11_would (va_wsS RX11 60 yX11_in wsX11_in) := goodIn_app (goodIn_of _ (by decide +kernel)) ggX11_would_X11_in
set_option maxRecDepth 20000 in
theorem ggX11_would_X11_tryRound : GoodIn wsX11_would wsX11_tryRound := goodIn_r _ [26, 27, 28, 29, 30, 9, 31, 32, 33, 34, 35, 5, 4, 16, 36, 37, 38, 39, 40, 41, 42, 11, 43, 44, 45, 46, 47, 48, 49, 50, 51, 52, 53, 54, 55, 56, 57, 58, 59, 60, 61, 62, 63, 64, 65, 66, 67, 68, 69, 70, 71, 72, 73, 74, 75, 76, 77, 78, 79, 80, 81, 82, 83, 84, 85, 86, 87, 88, 89, 90, 91, 92, 93, 94, 95] (by decide +kernel) (by decide +kernel)
set_option maxRecDepth 20000 in
theorem gX11_would_X11_tryRound : GoodIn wsX11_would (wsV RX11 224 RX11 yX11_tryRound wsX11_tryRound) := goodIn_app (goodIn_of _ (by decide +kernel)) ggX11_would_X11_tryRound
theorem dX11_would_0 : decode cX11_would 0 = .ok (.aload_n 0, 1) := by decide +kernel
theorem dX11_would_1 : decode cX11_would 1 = .ok (.iload_n 1, 1) := by decide +kernel
theorem dX11_would_2 : decode cX11_would 2 = .ok (.invokevirtual 187, 3) := by decide +kernel
theorem dX11_would_5 : decode cX11_would 5 = .ok (.ifCond .eq 11, 3) := by decide +kernel
theorem dX11_would_8 : decode cX11_would 8 = .ok (.aload_n 0, 1) := by decide +kernel
theorem dX11_would_9 : decode cX11_would 9 = .ok (.iload_n 2, 1) := by decide +kernel
theorem dX11_would_10 : decode cX11_would 10 = .ok (.invokevirtual 150, 3) := by decide +kernel
theorem dX11_would_13 : decode cX11_would 13 = .ok (.ifCond .ne 6, 3) := by decide +kernel
theorem dX11_would_16 : decode cX11_would 16 = .ok (.ldc 149, 2) := by decide +kernel
theorem dX11_would_18 : decode cX11_would 18 = .ok (.ireturn, 1) := by decide +kernel
theorem dX11_would_19 : decode cX11_would 19 = .ok (.iload_n 3, 1) := by decide +kernel
theorem dX11_would_20 : decode cX11_would 20 = .ok (.invokestatic 190, 3) := by decide +kernel
theorem dX11_would_23 : decode cX11_would 23 = .ok (.ifCond .eq 16, 3) := by decide +kernel
theorem dX11_would_26 : decode cX11_would 26 = .ok (.iload 4, 2) := by decide +kernel
theorem dX11_would_28 : decode cX11_would 28 = .ok (.i2l, 1) := by decide +kernel
theorem dX11_would_29 : decode cX11_would 29 = .ok (.lconst 0, 1) := by decide +kernel
theorem dX11_would_30 : decode cX11_would 30 = .ok (.ldc2_w 222, 3) := by decide +kernel
theorem dX11_would_33 : decode cX11_would 33 = .ok (.invokestatic 60, 3) := by decide +kernel
theorem dX11_would_36 : decode cX11_would 36 = .ok (.ifCond .ne 6, 3) := by decide +kernel
theorem dX11_would_39 : decode cX11_would 39 = .ok (.ldc 64, 2) := by decide +kernel
theorem dX11_would_41 : decode cX11_would 41 = .ok (.ireturn, 1) := by decide +kernel
theorem dX11_would_42 : decode cX11_would 42 = .ok (.aload_n 0, 1) := by decide +kernel
theorem dX11_would_43 : decode cX11_would 43 = .ok (.iload_n 1, 1) := by decide +kernel
theorem dX11_would_44 : decode cX11_would 44 = .ok (.iload_n 2, 1) := by decide +kernel
theorem dX11_would_45 : decode cX11_would 45 = .ok (.iload_n 3, 1) := by decide +kernel
theorem dX11_would_46 : decode cX11_would 46 = .ok (.iconst 0, 1) := by decide +kernel
theorem dX11_would_47 : decode cX11_would 47 = .ok (.iconst 0, 1) := by decide +kernel
theorem dX11_would_48 : decode cX11_would 48 = .ok (.invokevirtual 224, 3) := by decide +kernel
theorem dX11_would_51 : decode cX11_would 51 = .ok (.istore 5, 2) := by decide +kernel
theorem dX11_would_53 : decode cX11_would 53 = .ok (.iload 4, 2) := by decide +kernel
theorem dX11_would_55 : decode cX11_would 55 = .ok (.ifCond .ne 8, 3) := by decide +kernel
theorem dX11_would_58 : decode cX11_would 58 = .ok (.iload 5, 2) := by decide +kernel
theorem dX11_would_60 : decode cX11_would 60 = .ok (.goto 20, 3) := by decide +kernel
theorem dX11_would_63 : decode cX11_would 63 = .ok (.iload 4, 2) := by decide +kernel
theorem dX11_would_65 : decode cX11_would 65 = .ok (.iconst 1, 1) := by decide +kernel
theorem dX11_would_66 : decode cX11_would 66 = .ok (.if_icmp .ne 10, 3) := by decide +kernel
theorem dX11_would_69 : decode cX11_would 69 = .ok (.aload_n 0, 1) := by decide +kernel
theorem dX11_would_70 : decode cX11_would 70 = .ok (.getfield 170, 3) := by decide +kernel
theorem dX11_would_73 : decode cX11_would 73 = .ok (.goto 7, 3) := by decide +kernel
theorem dX11_would_76 : decode cX11_would 76 = .ok (.aload_n 0, 1) := by decide +kernel
theorem dX11_would_77 : decode cX11_would 77 = .ok (.getfield 167, 3) := by decide +kernel
theorem dX11_would_80 : decode cX11_would 80 = .ok (.ireturn, 1) := by decide +kernel
set_option maxRecDepth 20000 in
theorem ggX11_isLawAllRound_X11_tryRound : GoodIn wsX11_isLawAllRound wsX11_tryRound := goodIn_r _ [7, 8, 9, 10, 11, 6, 12, 13, 14, 15, 16, 17, 1, 2, 18, 19, 20, 21, 22, 23, 24, 25, 26, 27, 28, 29, 30, 31, 32, 33, 34, 35, 36, 37, 38, 39, 40, 41, 42, 43, 44, 45, 46, 47, 48, 49, 50, 51, 52, 53, 54, 55, 56, 57, 58, 59, 60, 61, 62, 63, 64, 65, 66, 67, 68, 69, 70, 71, 72, 73, 74, 75, 76, 77, 78] (by decide +kernel) (by decide +kernel)
set_option maxRecDepth 20000 in
theorem gX11_isLawAllRound_X11_tryRound : GoodIn wsX11_isLawAllRound (wsV RX11 224 RX11 yX11_tryRound wsX11_tryRound) := goodIn_app (goodIn_of _ (by decide +kernel)) ggX11_isLawAllRound_X11_tryRound
theorem dX11_isLawAllRound_0 : decode cX11_isLawAllRound 0 = .ok (.aload_n 0, 1) := by decide +kernel
theorem dX11_isLawAllRound_1 : decode cX11_isLawAllRound 1 = .ok (.iload_n 1, 1) := by decide +kernel
theorem dX11_isLawAllRound_2 : decode cX11_isLawAllRound 2 = .ok (.iload_n 3, 1) := by decide +kernel
theorem dX11_isLawAllRound_3 : decode cX11_isLawAllRound 3 = .ok (.iload 4, 2) := by decide +kernel
theorem dX11_isLawAllRound_5 : decode cX11_isLawAllRound 5 = .ok (.iconst 0, 1) := by decide +kernel
theorem dX11_isLawAllRound_6 : decode cX11_isLawAllRound 6 = .ok (.iload 5, 2) := by decide +kernel
theorem dX11_isLawAllRound_8 : decode cX11_isLawAllRound 8 = .ok (.invokevirtual 224, 3) := by decide +kernel
theorem dX11_isLawAllRound_11 : decode cX11_isLawAllRound 11 = .ok (.istore 6, 2) := by decide +kernel
theorem dX11_isLawAllRound_13 : decode cX11_isLawAllRound 13 = .ok (.aload_n 0, 1) := by decide +kernel
theorem dX11_isLawAllRound_14 : decode cX11_isLawAllRound 14 = .ok (.getfield 170, 3) := by decide +kernel
theorem dX11_isLawAllRound_17 : decode cX11_isLawAllRound 17 = .ok (.iconst 1, 1) := by decide +kernel
theorem dX11_isLawAllRound_18 : decode cX11_isLawAllRound 18 = .ok (.aload_n 0, 1) := by decide +kernel
theorem dX11_isLawAllRound_19 : decode cX11_isLawAllRound 19 = .ok (.getfield 123, 3) := by decide +kernel
theorem dX11_isLawAllRound_22 : decode cX11_isLawAllRound 22 = .ok (.ishl, 1) := by decide +kernel
theorem dX11_isLawAllRound_23 : decode cX11_isLawAllRound 23 = .ok (.iconst 1, 1) := by decide +kernel
theorem dX11_isLawAllRound_24 : decode cX11_isLawAllRound 24 = .ok (.isub, 1) := by decide +kernel
theorem dX11_isLawAllRound_25 : decode cX11_isLawAllRound 25 = .ok (.if_icmp .ne 16, 3) := by decide +kernel
theorem dX11_isLawAllRound_28 : decode cX11_isLawAllRound 28 = .ok (.iload_n 2, 1) := by decide +kernel
theorem dX11_isLawAllRound_29 : decode cX11_isLawAllRound 29 = .ok (.iload 6, 2) := by decide +kernel
theorem dX11_isLawAllRound_31 : decode cX11_isLawAllRound 31 = .ok (.iconst (-1), 1) := by decide +kernel
theorem dX11_isLawAllRound_32 : decode cX11_isLawAllRound 32 = .ok (.ixor, 1) := by decide +kernel
theorem dX11_isLawAllRound_33 : decode cX11_isLawAllRound 33 = .ok (.iand, 1) := by decide +kernel
theorem dX11_isLawAllRound_34 : decode cX11_isLawAllRound 34 = .ok (.ifCond .ne 7, 3) := by decide +kernel
theorem dX11_isLawAllRound_37 : decode cX11_isLawAllRound 37 = .ok (.iconst 1, 1) := by decide +kernel
theorem dX11_isLawAllRound_38 : decode cX11_isLawAllRound 38 = .ok (.goto 4, 3) := by decide +kernel
theorem dX11_isLawAllRound_41 : decode cX11_isLawAllRound 41 = .ok (.iconst 0, 1) := by decide +kernel
theorem dX11_isLawAllRound_42 : decode cX11_isLawAllRound 42 = .ok (.ireturn, 1) := by decide +kernel
set_option maxRecDepth 20000 in
theorem ggX11_mayKeep_X11_ones : GoodIn wsX11_mayKeep wsX11_ones := goodIn_r _ [5] (by decide +kernel) (by decide +kernel)
set_option maxRecDepth 20000 in
theorem gX11_mayKeep_X11_ones : GoodIn wsX11_mayKeep (va_wsS RX11 163 yX11_ones wsX11_ones) := goodIn_app (goodIn_of _ (by decide +kernel)) ggX11_mayKeep_X11_ones
theorem dX11_mayKeep_0 : decode cX11_mayKeep 0 = .ok (.iload_n 1, 1) := by decide +kernel
theorem dX11_mayKeep_1 : decode cX11_mayKeep 1 = .ok (.invokestatic 163, 3) := by decide +kernel
theorem dX11_mayKeep_4 : decode cX11_mayKeep 4 = .ok (.iload_n 2, 1) := by decide +kernel
theorem dX11_mayKeep_5 : decode cX11_mayKeep 5 = .ok (.if_icmp .ne 19, 3) := by decide +kernel
theorem dX11_mayKeep_8 : decode cX11_mayKeep 8 = .ok (.iload_n 1, 1) := by decide +kernel
theorem dX11_mayKeep_9 : decode cX11_mayKeep 9 = .ok (.aload_n 0, 1) := by decide +kernel
theorem dX11_mayKeep_10 : decode cX11_mayKeep 10 = .ok (.getfield 7, 3) := by decide +kernel
theorem dX11_mayKeep_13 : decode cX11_mayKeep 13 = .ok (.bipush 10, 2) := by decide +kernel
theorem dX11_mayKeep_15 : decode cX11_mayKeep 15 = .ok (.iaload, 1) := by decide +kernel
theorem dX11_mayKeep_16 : decode cX11_mayKeep 16 = .ok (.iand, 1) := by decide +kernel
theorem dX11_mayKeep_17 : decode cX11_mayKeep 17 = .ok (.ifCond .ne 7, 3) := by decide +kernel
theorem dX11_mayKeep_20 : decode cX11_mayKeep 20 = .ok (.iconst 1, 1) := by decide +kernel
theorem dX11_mayKeep_21 : decode cX11_mayKeep 21 = .ok (.goto 4, 3) := by decide +kernel
theorem dX11_mayKeep_24 : decode cX11_mayKeep 24 = .ok (.iconst 0, 1) := by decide +kernel
theorem dX11_mayKeep_25 : decode cX11_mayKeep 25 = .ok (.ireturn, 1) := by decide +kernel
set_option maxRecDepth 20000 in
theorem ggX11_bestRound_X11_isDecree : GoodIn wsX11_bestRound wsX11_isDecree := goodIn_r _ [9, 10, 67, 68, 69, 70, 71, 72, 73, 74, 75, 76, 77, 78, 79, 80, 81, 82, 83, 84, 85, 86, 87, 88, 89, 90, 91, 92, 93, 94, 95] (by decide +kernel) (by decide +kernel)
set_option maxRecDepth 20000 in
theorem gX11_bestRound_X11_isDecree : GoodIn wsX11_bestRound (wsV RX11 187 RX11 yX11_isDecree wsX11_isDecree) := goodIn_app (goodIn_of _ (by decide +kernel)) ggX11_bestRound_X11_isDecree
set_option maxRecDepth 20000 in
theorem ggX11_bestRound_X11_in : GoodIn wsX11_bestRound wsX11_in := goodIn_r _ [13] (by decide +kernel) (by decide +kernel)
set_option maxRecDepth 20000 in
theorem gX11_bestRound_X11_in : GoodIn wsX11_bestRound (va_wsS RX11 60 yX11_in wsX11_in) := goodIn_app (goodIn_of _ (by decide +kernel)) ggX11_bestRound_X11_in
set_option maxRecDepth 20000 in
theorem ggX11_bestRound_X11_mayKeep : GoodIn wsX11_bestRound wsX11_mayKeep := goodIn_r _ [17, 18, 19, 20, 8, 21, 67, 68, 69, 70, 71, 72, 73, 74, 75, 76, 77, 78, 79, 80, 81, 82, 83, 84, 85, 86, 87, 88, 89, 90, 91, 92, 93, 94, 95] (by decide +kernel) (by decide +kernel)
set_option maxRecDepth 20000 in
theorem gX11_bestRound_X11_mayKeep : GoodIn wsX11_bestRound (wsV RX11 227 RX11 yX11_mayKeep wsX11_mayKeep) := goodIn_app (goodIn_of _ (by decide +kernel)) ggX11_bestRound_X11_mayKeep
set_option maxRecDepth 20000 in
theorem ggX11_bestRound_X11_isLawAllRound : GoodIn wsX11_bestRound wsX11_isLawAllRound := goodIn_r _ [25, 26, 4, 27, 28, 29, 8, 30, 18, 31, 32, 33, 34, 35, 36, 37, 38, 39, 40, 41, 42, 43, 44, 45, 46, 10, 47, 48, 49, 50, 51, 52, 53, 54, 55, 56, 3, 57, 58, 59, 60, 61, 62, 63, 19, 20, 21, 64, 65, 66, 67, 68, 69, 70, 71, 72, 73, 74, 75, 76, 77, 78, 79, 80, 81, 82, 83, 84, 85, 86, 87, 88, 89, 90, 91, 92, 93, 94, 95] (by decide +kernel) (by decide +kernel)
set_option maxRecDepth 20000 in
theorem gX11_bestRound_X11_isLawAllRound : GoodIn wsX11_bestRound (wsV RX11 230 RX11 yX11_isLawAllRound wsX11_isLawAllRound) := goodIn_app (goodIn_of _ (by decide +kernel)) ggX11_bestRound_X11_isLawAllRound
theorem dX11_bestRound_0 : decode cX11_bestRound 0 = .ok (.aload_n 0, 1) := by decide +kernel
theorem dX11_bestRound_1 : decode cX11_bestRound 1 = .ok (.iload_n 1, 1) := by decide +kernel
theorem dX11_bestRound_2 : decode cX11_bestRound 2 = .ok (.invokevirtual 187, 3) := by decide +kernel
theorem dX11_bestRound_5 : decode cX11_bestRound 5 = .ok (.ifCond .eq 11, 3) := by decide +kernel
theorem dX11_bestRound_8 : decode cX11_bestRound 8 = .ok (.aload_n 0, 1) := by decide +kernel
theorem dX11_bestRound_9 : decode cX11_bestRound 9 = .ok (.iload_n 2, 1) := by decide +kernel
theorem dX11_bestRound_10 : decode cX11_bestRound 10 = .ok (.invokevirtual 187, 3) := by decide +kernel
theorem dX11_bestRound_13 : decode cX11_bestRound 13 = .ok (.ifCond .ne 6, 3) := by decide +kernel
theorem dX11_bestRound_16 : decode cX11_bestRound 16 = .ok (.ldc 149, 2) := by decide +kernel
theorem dX11_bestRound_18 : decode cX11_bestRound 18 = .ok (.ireturn, 1) := by decide +kernel
theorem dX11_bestRound_19 : decode cX11_bestRound 19 = .ok (.iload_n 3, 1) := by decide +kernel
theorem dX11_bestRound_20 : decode cX11_bestRound 20 = .ok (.i2l, 1) := by decide +kernel
theorem dX11_bestRound_21 : decode cX11_bestRound 21 = .ok (.lconst 0, 1) := by decide +kernel
theorem dX11_bestRound_22 : decode cX11_bestRound 22 = .ok (.lconst 1, 1) := by decide +kernel
theorem dX11_bestRound_23 : decode cX11_bestRound 23 = .ok (.invokestatic 60, 3) := by decide +kernel
theorem dX11_bestRound_26 : decode cX11_bestRound 26 = .ok (.ifCond .ne 6, 3) := by decide +kernel
theorem dX11_bestRound_29 : decode cX11_bestRound 29 = .ok (.ldc 64, 2) := by decide +kernel
theorem dX11_bestRound_31 : decode cX11_bestRound 31 = .ok (.ireturn, 1) := by decide +kernel
theorem dX11_bestRound_32 : decode cX11_bestRound 32 = .ok (.iconst 0, 1) := by decide +kernel
theorem dX11_bestRound_33 : decode cX11_bestRound 33 = .ok (.istore 4, 2) := by decide +kernel
theorem dX11_bestRound_35 : decode cX11_bestRound 35 = .ok (.iload 4, 2) := by decide +kernel
theorem dX11_bestRound_37 : decode cX11_bestRound 37 = .ok (.iconst 3, 1) := by decide +kernel
theorem dX11_bestRound_38 : decode cX11_bestRound 38 = .ok (.if_icmp .ge 91, 3) := by decide +kernel
theorem dX11_bestRound_41 : decode cX11_bestRound 41 = .ok (.iconst 0, 1) := by decide +kernel
theorem dX11_bestRound_42 : decode cX11_bestRound 42 = .ok (.istore 5, 2) := by decide +kernel
theorem dX11_bestRound_44 : decode cX11_bestRound 44 = .ok (.iload 5, 2) := by decide +kernel
theorem dX11_bestRound_46 : decode cX11_bestRound 46 = .ok (.iconst 1, 1) := by decide +kernel
theorem dX11_bestRound_47 : decode cX11_bestRound 47 = .ok (.aload_n 0, 1) := by decide +kernel
theorem dX11_bestRound_48 : decode cX11_bestRound 48 = .ok (.getfield 129, 3) := by decide +kernel
theorem dX11_bestRound_51 : decode cX11_bestRound 51 = .ok (.ishl, 1) := by decide +kernel
theorem dX11_bestRound_52 : decode cX11_bestRound 52 = .ok (.if_icmp .ge 71, 3) := by decide +kernel
theorem dX11_bestRound_55 : decode cX11_bestRound 55 = .ok (.iconst 0, 1) := by decide +kernel
theorem dX11_bestRound_56 : decode cX11_bestRound 56 = .ok (.istore 6, 2) := by decide +kernel
theorem dX11_bestRound_58 : decode cX11_bestRound 58 = .ok (.iload 6, 2) := by decide +kernel
theorem dX11_bestRound_60 : decode cX11_bestRound 60 = .ok (.iconst 2, 1) := by decide +kernel
theorem dX11_bestRound_61 : decode cX11_bestRound 61 = .ok (.aload_n 0, 1) := by decide +kernel
theorem dX11_bestRound_62 : decode cX11_bestRound 62 = .ok (.getfield 123, 3) := by decide +kernel
theorem dX11_bestRound_65 : decode cX11_bestRound 65 = .ok (.imul, 1) := by decide +kernel
theorem dX11_bestRound_66 : decode cX11_bestRound 66 = .ok (.if_icmp .ge 51, 3) := by decide +kernel
theorem dX11_bestRound_69 : decode cX11_bestRound 69 = .ok (.aload_n 0, 1) := by decide +kernel
theorem dX11_bestRound_70 : decode cX11_bestRound 70 = .ok (.iload 5, 2) := by decide +kernel
theorem dX11_bestRound_72 : decode cX11_bestRound 72 = .ok (.iload 4, 2) := by decide +kernel
theorem dX11_bestRound_74 : decode cX11_bestRound 74 = .ok (.invokevirtual 227, 3) := by decide +kernel
theorem dX11_bestRound_77 : decode cX11_bestRound 77 = .ok (.ifCond .eq 34, 3) := by decide +kernel
theorem dX11_bestRound_80 : decode cX11_bestRound 80 = .ok (.aload_n 0, 1) := by decide +kernel
theorem dX11_bestRound_81 : decode cX11_bestRound 81 = .ok (.iload_n 1, 1) := by decide +kernel
theorem dX11_bestRound_82 : decode cX11_bestRound 82 = .ok (.iload_n 2, 1) := by decide +kernel
theorem dX11_bestRound_83 : decode cX11_bestRound 83 = .ok (.iload 6, 2) := by decide +kernel
theorem dX11_bestRound_85 : decode cX11_bestRound 85 = .ok (.iconst 2, 1) := by decide +kernel
theorem dX11_bestRound_86 : decode cX11_bestRound 86 = .ok (.idiv, 1) := by decide +kernel
theorem dX11_bestRound_87 : decode cX11_bestRound 87 = .ok (.iload 6, 2) := by decide +kernel
theorem dX11_bestRound_89 : decode cX11_bestRound 89 = .ok (.iconst 2, 1) := by decide +kernel
theorem dX11_bestRound_90 : decode cX11_bestRound 90 = .ok (.irem, 1) := by decide +kernel
theorem dX11_bestRound_91 : decode cX11_bestRound 91 = .ok (.iload 5, 2) := by decide +kernel
theorem dX11_bestRound_93 : decode cX11_bestRound 93 = .ok (.invokevirtual 230, 3) := by decide +kernel
theorem dX11_bestRound_96 : decode cX11_bestRound 96 = .ok (.ifCond .eq 15, 3) := by decide +kernel
theorem dX11_bestRound_99 : decode cX11_bestRound 99 = .ok (.iload_n 3, 1) := by decide +kernel
theorem dX11_bestRound_100 : decode cX11_bestRound 100 = .ok (.ifCond .ne 8, 3) := by decide +kernel
theorem dX11_bestRound_103 : decode cX11_bestRound 103 = .ok (.iload 6, 2) := by decide +kernel
theorem dX11_bestRound_105 : decode cX11_bestRound 105 = .ok (.goto 5, 3) := by decide +kernel
theorem dX11_bestRound_108 : decode cX11_bestRound 108 = .ok (.iload 5, 2) := by decide +kernel
theorem dX11_bestRound_110 : decode cX11_bestRound 110 = .ok (.ireturn, 1) := by decide +kernel
theorem dX11_bestRound_111 : decode cX11_bestRound 111 = .ok (.iinc 6 1, 3) := by decide +kernel
theorem dX11_bestRound_114 : decode cX11_bestRound 114 = .ok (.goto (-56), 3) := by decide +kernel
theorem dX11_bestRound_117 : decode cX11_bestRound 117 = .ok (.iinc 5 1, 3) := by decide +kernel
theorem dX11_bestRound_120 : decode cX11_bestRound 120 = .ok (.goto (-76), 3) := by decide +kernel
theorem dX11_bestRound_123 : decode cX11_bestRound 123 = .ok (.iinc 4 1, 3) := by decide +kernel
theorem dX11_bestRound_126 : decode cX11_bestRound 126 = .ok (.goto (-91), 3) := by decide +kernel
theorem dX11_bestRound_129 : decode cX11_bestRound 129 = .ok (.iconst (-1), 1) := by decide +kernel
theorem dX11_bestRound_130 : decode cX11_bestRound 130 = .ok (.ireturn, 1) := by decide +kernel
set_option maxRecDepth 20000 in
theorem ggX11_began_X11_isDecree : GoodIn wsX11_began wsX11_isDecree := goodIn_r _ [8, 3, 66, 67, 68, 69, 70, 71, 72, 73, 74, 75, 76, 77, 78, 79, 80, 81, 82, 83, 84, 85, 86, 87, 88, 89, 90, 91, 92, 93, 94] (by decide +kernel) (by decide +kernel)
set_option maxRecDepth 20000 in
theorem gX11_began_X11_isDecree : GoodIn wsX11_began (wsV RX11 187 RX11 yX11_isDecree wsX11_isDecree) := goodIn_app (goodIn_of _ (by decide +kernel)) ggX11_began_X11_isDecree
set_option maxRecDepth 20000 in
theorem ggX11_began_X11_isCorner : GoodIn wsX11_began wsX11_isCorner := goodIn_r _ [12, 13, 14, 15, 7, 16, 66, 67, 68, 69, 70, 71, 72, 73, 74, 75, 76, 77, 78, 79, 80, 81, 82, 83, 84, 85, 86, 87, 88, 89, 90, 91, 92, 93, 94] (by decide +kernel) (by decide +kernel)
set_option maxRecDepth 20000 in
theorem gX11_began_X11_isCorner : GoodIn wsX11_began (wsV RX11 150 RX11 yX11_isCorner wsX11_isCorner) := goodIn_app (goodIn_of _ (by decide +kernel)) ggX11_began_X11_isCorner
set_option maxRecDepth 20000 in
theorem ggX11_began_X11_isWay : GoodIn wsX11_began wsX11_isWay := goodIn_r _ [19, 14, 15, 7, 16] (by decide +kernel) (by decide +kernel)
set_option maxRecDepth 20000 in
theorem gX11_began_X11_isWay : GoodIn wsX11_began (va_wsS RX11 190 yX11_isWay wsX11_isWay) := goodIn_app (goodIn_of _ (by decide +kernel)) ggX11_began_X11_isWay
set_option maxRecDepth 20000 in
theorem ggX11_began_X11_tryRound : GoodIn wsX11_began wsX11_tryRound := goodIn_r _ [23, 24, 25, 26, 27, 7, 28, 29, 30, 31, 32, 33, 34, 13, 35, 36, 37, 38, 39, 40, 41, 3, 42, 43, 44, 45, 46, 47, 48, 49, 50, 51, 52, 53, 54, 55, 56, 57, 58, 59, 60, 61, 62, 63, 64, 65, 66, 67, 68, 69, 70, 71, 72, 73, 74, 75, 76, 77, 78, 79, 80, 81, 82, 83, 84, 85, 86, 87, 88, 89, 90, 91, 92, 93, 94] (by decide +kernel) (by decide +kernel)
set_option maxRecDepth 20000 in
theorem gX11_began_X11_tryRound : GoodIn wsX11_began (wsV RX11 224 RX11 yX11_tryRound wsX11_tryRound) := goodIn_app (goodIn_of _ (by decide +kernel)) ggX11_began_X11_tryRound
theorem dX11_began_0 : decode cX11_began 0 = .ok (.aload_n 0, 1) := by decide +kernel
theorem dX11_began_1 : decode cX11_began 1 = .ok (.iload_n 1, 1) := by decide +kernel
theorem dX11_began_2 : decode cX11_began 2 = .ok (.invokevirtual 187, 3) := by decide +kernel
theorem dX11_began_5 : decode cX11_began 5 = .ok (.ifCond .eq 11, 3) := by decide +kernel
theorem dX11_began_8 : decode cX11_began 8 = .ok (.aload_n 0, 1) := by decide +kernel
theorem dX11_began_9 : decode cX11_began 9 = .ok (.iload_n 2, 1) := by decide +kernel
theorem dX11_began_10 : decode cX11_began 10 = .ok (.invokevirtual 150, 3) := by decide +kernel
theorem dX11_began_13 : decode cX11_began 13 = .ok (.ifCond .ne 6, 3) := by decide +kernel
theorem dX11_began_16 : decode cX11_began 16 = .ok (.ldc 149, 2) := by decide +kernel
theorem dX11_began_18 : decode cX11_began 18 = .ok (.ireturn, 1) := by decide +kernel
theorem dX11_began_19 : decode cX11_began 19 = .ok (.iload_n 3, 1) := by decide +kernel
theorem dX11_began_20 : decode cX11_began 20 = .ok (.invokestatic 190, 3) := by decide +kernel
theorem dX11_began_23 : decode cX11_began 23 = .ok (.ifCond .ne 6, 3) := by decide +kernel
theorem dX11_began_26 : decode cX11_began 26 = .ok (.ldc 64, 2) := by decide +kernel
theorem dX11_began_28 : decode cX11_began 28 = .ok (.ireturn, 1) := by decide +kernel
theorem dX11_began_29 : decode cX11_began 29 = .ok (.iconst 0, 1) := by decide +kernel
theorem dX11_began_30 : decode cX11_began 30 = .ok (.istore 5, 2) := by decide +kernel
theorem dX11_began_32 : decode cX11_began 32 = .ok (.iconst (-1), 1) := by decide +kernel
theorem dX11_began_33 : decode cX11_began 33 = .ok (.istore 6, 2) := by decide +kernel
theorem dX11_began_35 : decode cX11_began 35 = .ok (.aload_n 0, 1) := by decide +kernel
theorem dX11_began_36 : decode cX11_began 36 = .ok (.getfield 126, 3) := by decide +kernel
theorem dX11_began_39 : decode cX11_began 39 = .ok (.istore 7, 2) := by decide +kernel
theorem dX11_began_41 : decode cX11_began 41 = .ok (.iconst 0, 1) := by decide +kernel
theorem dX11_began_42 : decode cX11_began 42 = .ok (.istore 8, 2) := by decide +kernel
theorem dX11_began_44 : decode cX11_began 44 = .ok (.iload 8, 2) := by decide +kernel
theorem dX11_began_46 : decode cX11_began 46 = .ok (.aload_n 0, 1) := by decide +kernel
theorem dX11_began_47 : decode cX11_began 47 = .ok (.getfield 126, 3) := by decide +kernel
theorem dX11_began_50 : decode cX11_began 50 = .ok (.if_icmp .gt 58, 3) := by decide +kernel
theorem dX11_began_53 : decode cX11_began 53 = .ok (.aload_n 0, 1) := by decide +kernel
theorem dX11_began_54 : decode cX11_began 54 = .ok (.iload 8, 2) := by decide +kernel
theorem dX11_began_56 : decode cX11_began 56 = .ok (.invokevirtual 187, 3) := by decide +kernel
theorem dX11_began_59 : decode cX11_began 59 = .ok (.ifCond .eq 43, 3) := by decide +kernel
theorem dX11_began_62 : decode cX11_began 62 = .ok (.aload_n 0, 1) := by decide +kernel
theorem dX11_began_63 : decode cX11_began 63 = .ok (.iload 8, 2) := by decide +kernel
theorem dX11_began_65 : decode cX11_began 65 = .ok (.iload_n 2, 1) := by decide +kernel
theorem dX11_began_66 : decode cX11_began 66 = .ok (.iload_n 3, 1) := by decide +kernel
theorem dX11_began_67 : decode cX11_began 67 = .ok (.iconst 0, 1) := by decide +kernel
theorem dX11_began_68 : decode cX11_began 68 = .ok (.iconst 0, 1) := by decide +kernel
theorem dX11_began_69 : decode cX11_began 69 = .ok (.invokevirtual 224, 3) := by decide +kernel
theorem dX11_began_72 : decode cX11_began 72 = .ok (.iload_n 1, 1) := by decide +kernel
theorem dX11_began_73 : decode cX11_began 73 = .ok (.if_icmp .ne 29, 3) := by decide +kernel
theorem dX11_began_76 : decode cX11_began 76 = .ok (.iload 5, 2) := by decide +kernel
theorem dX11_began_78 : decode cX11_began 78 = .ok (.iload 4, 2) := by decide +kernel
theorem dX11_began_80 : decode cX11_began 80 = .ok (.if_icmp .ne 8, 3) := by decide +kernel
theorem dX11_began_83 : decode cX11_began 83 = .ok (.iload 8, 2) := by decide +kernel
theorem dX11_began_85 : decode cX11_began 85 = .ok (.goto 5, 3) := by decide +kernel
theorem dX11_began_88 : decode cX11_began 88 = .ok (.iload 6, 2) := by decide +kernel
theorem dX11_began_90 : decode cX11_began 90 = .ok (.istore 6, 2) := by decide +kernel
theorem dX11_began_92 : decode cX11_began 92 = .ok (.iload 7, 2) := by decide +kernel
theorem dX11_began_94 : decode cX11_began 94 = .ok (.iload 8, 2) := by decide +kernel
theorem dX11_began_96 : decode cX11_began 96 = .ok (.iand, 1) := by decide +kernel
theorem dX11_began_97 : decode cX11_began 97 = .ok (.istore 7, 2) := by decide +kernel
theorem dX11_began_99 : decode cX11_began 99 = .ok (.iinc 5 1, 3) := by decide +kernel
theorem dX11_began_102 : decode cX11_began 102 = .ok (.iinc 8 1, 3) := by decide +kernel
theorem dX11_began_105 : decode cX11_began 105 = .ok (.goto (-61), 3) := by decide +kernel
theorem dX11_began_108 : decode cX11_began 108 = .ok (.iload 4, 2) := by decide +kernel
theorem dX11_began_110 : decode cX11_began 110 = .ok (.iconst (-1), 1) := by decide +kernel
theorem dX11_began_111 : decode cX11_began 111 = .ok (.if_icmp .ne 8, 3) := by decide +kernel
theorem dX11_began_114 : decode cX11_began 114 = .ok (.iload 5, 2) := by decide +kernel
theorem dX11_began_116 : decode cX11_began 116 = .ok (.goto 26, 3) := by decide +kernel
theorem dX11_began_119 : decode cX11_began 119 = .ok (.iload 4, 2) := by decide +kernel
theorem dX11_began_121 : decode cX11_began 121 = .ok (.bipush (-2), 2) := by decide +kernel
theorem dX11_began_123 : decode cX11_began 123 = .ok (.if_icmp .ne 17, 3) := by decide +kernel
theorem dX11_began_126 : decode cX11_began 126 = .ok (.iload 5, 2) := by decide +kernel
theorem dX11_began_128 : decode cX11_began 128 = .ok (.ifCond .ne 7, 3) := by decide +kernel
theorem dX11_began_131 : decode cX11_began 131 = .ok (.iconst 0, 1) := by decide +kernel
theorem dX11_began_132 : decode cX11_began 132 = .ok (.goto 10, 3) := by decide +kernel
theorem dX11_began_135 : decode cX11_began 135 = .ok (.iload 7, 2) := by decide +kernel
theorem dX11_began_137 : decode cX11_began 137 = .ok (.goto 5, 3) := by decide +kernel
theorem dX11_began_140 : decode cX11_began 140 = .ok (.iload 6, 2) := by decide +kernel
theorem dX11_began_142 : decode cX11_began 142 = .ok (.ireturn, 1) := by decide +kernel
set_option maxRecDepth 20000 in
theorem ggX11_canPass_X11_isDecree : GoodIn wsX11_canPass wsX11_isDecree := goodIn_r _ [6, 1, 31, 32, 33, 34, 35, 36, 37, 38, 39, 40, 41, 42, 43, 44, 45, 46, 47, 48, 49, 50, 51, 52, 53, 54, 55, 56, 57, 58, 59] (by decide +kernel) (by decide +kernel)
set_option maxRecDepth 20000 in
theorem gX11_canPass_X11_isDecree : GoodIn wsX11_canPass (wsV RX11 187 RX11 yX11_isDecree wsX11_isDecree) := goodIn_app (goodIn_of _ (by decide +kernel)) ggX11_canPass_X11_isDecree
set_option maxRecDepth 20000 in
theorem ggX11_canPass_X11_speakers : GoodIn wsX11_canPass wsX11_speakers := goodIn_r _ [10, 11, 12, 13, 14, 5, 15, 16, 17, 18, 19, 20, 21, 22, 23, 24, 25, 26, 27, 31, 32, 33, 34, 35, 36, 37, 38, 39, 40, 41, 42, 43, 44, 45, 46, 47, 48, 49, 50, 51, 52, 53, 54, 55, 56, 57, 58, 59] (by decide +kernel) (by decide +kernel)
set_option maxRecDepth 20000 in
theorem gX11_canPass_X11_speakers : GoodIn wsX11_canPass (wsV RX11 159 RX11 yX11_speakers wsX11_speakers) := goodIn_app (goodIn_of _ (by decide +kernel)) ggX11_canPass_X11_speakers
set_option maxRecDepth 20000 in
theorem ggX11_canPass_X11_ones : GoodIn wsX11_canPass wsX11_ones := goodIn_r _ [30] (by decide +kernel) (by decide +kernel)
set_option maxRecDepth 20000 in
theorem gX11_canPass_X11_ones : GoodIn wsX11_canPass (va_wsS RX11 163 yX11_ones wsX11_ones) := goodIn_app (goodIn_of _ (by decide +kernel)) ggX11_canPass_X11_ones
theorem dX11_canPass_0 : decode cX11_canPass 0 = .ok (.iconst 0, 1) := by decide +kernel
theorem dX11_canPass_1 : decode cX11_canPass 1 = .ok (.istore_n 2, 1) := by decide +kernel
theorem dX11_canPass_2 : decode cX11_canPass 2 = .ok (.iconst 0, 1) := by decide +kernel
theorem dX11_canPass_3 : decode cX11_canPass 3 = .ok (.istore_n 3, 1) := by decide +kernel
theorem dX11_canPass_4 : decode cX11_canPass 4 = .ok (.iload_n 3, 1) := by decide +kernel
theorem dX11_canPass_5 : decode cX11_canPass 5 = .ok (.aload_n 0, 1) := by decide +kernel
theorem dX11_canPass_6 : decode cX11_canPass 6 = .ok (.getfield 126, 3) := by decide +kernel
theorem dX11_canPass_9 : decode cX11_canPass 9 = .ok (.if_icmp .gt 44, 3) := by decide +kernel
theorem dX11_canPass_12 : decode cX11_canPass 12 = .ok (.iload_n 2, 1) := by decide +kernel
theorem dX11_canPass_13 : decode cX11_canPass 13 = .ok (.ifCond .ne 40, 3) := by decide +kernel
theorem dX11_canPass_16 : decode cX11_canPass 16 = .ok (.aload_n 0, 1) := by decide +kernel
theorem dX11_canPass_17 : decode cX11_canPass 17 = .ok (.iload_n 3, 1) := by decide +kernel
theorem dX11_canPass_18 : decode cX11_canPass 18 = .ok (.invokevirtual 187, 3) := by decide +kernel
theorem dX11_canPass_21 : decode cX11_canPass 21 = .ok (.ifCond .eq 24, 3) := by decide +kernel
theorem dX11_canPass_24 : decode cX11_canPass 24 = .ok (.aload_n 0, 1) := by decide +kernel
theorem dX11_canPass_25 : decode cX11_canPass 25 = .ok (.iconst 0, 1) := by decide +kernel
theorem dX11_canPass_26 : decode cX11_canPass 26 = .ok (.iload_n 1, 1) := by decide +kernel
theorem dX11_canPass_27 : decode cX11_canPass 27 = .ok (.iload_n 3, 1) := by decide +kernel
theorem dX11_canPass_28 : decode cX11_canPass 28 = .ok (.iconst 0, 1) := by decide +kernel
theorem dX11_canPass_29 : decode cX11_canPass 29 = .ok (.invokevirtual 159, 3) := by decide +kernel
theorem dX11_canPass_32 : decode cX11_canPass 32 = .ok (.invokestatic 163, 3) := by decide +kernel
theorem dX11_canPass_35 : decode cX11_canPass 35 = .ok (.iconst 2, 1) := by decide +kernel
theorem dX11_canPass_36 : decode cX11_canPass 36 = .ok (.irem, 1) := by decide +kernel
theorem dX11_canPass_37 : decode cX11_canPass 37 = .ok (.iconst 1, 1) := by decide +kernel
theorem dX11_canPass_38 : decode cX11_canPass 38 = .ok (.if_icmp .ne 7, 3) := by decide +kernel
theorem dX11_canPass_41 : decode cX11_canPass 41 = .ok (.iconst 1, 1) := by decide +kernel
theorem dX11_canPass_42 : decode cX11_canPass 42 = .ok (.goto 4, 3) := by decide +kernel
theorem dX11_canPass_45 : decode cX11_canPass 45 = .ok (.iconst 0, 1) := by decide +kernel
theorem dX11_canPass_46 : decode cX11_canPass 46 = .ok (.istore_n 2, 1) := by decide +kernel
theorem dX11_canPass_47 : decode cX11_canPass 47 = .ok (.iinc 3 1, 3) := by decide +kernel
theorem dX11_canPass_50 : decode cX11_canPass 50 = .ok (.goto (-46), 3) := by decide +kernel
theorem dX11_canPass_53 : decode cX11_canPass 53 = .ok (.iload_n 2, 1) := by decide +kernel
theorem dX11_canPass_54 : decode cX11_canPass 54 = .ok (.ireturn, 1) := by decide +kernel
set_option maxRecDepth 20000 in
theorem ggX11_passed_X11_canPass : GoodIn wsX11_passed wsX11_canPass := goodIn_r _ [6, 7, 8, 9, 10, 5, 11, 12, 13, 14, 15, 16, 17, 18, 19, 20, 21, 22, 23, 24, 25, 26, 27, 28, 29, 30, 31, 32, 33, 34, 35, 36, 37, 38, 39, 40, 41, 42, 43, 44, 45, 46, 47, 48, 49, 50, 51, 52, 53, 54, 55, 56, 57, 58, 59, 60, 61, 62, 63, 64] (by decide +kernel) (by decide +kernel)
set_option maxRecDepth 20000 in
theorem gX11_passed_X11_canPass : GoodIn wsX11_passed (wsV RX11 234 RX11 yX11_canPass wsX11_canPass) := goodIn_app (goodIn_of _ (by decide +kernel)) ggX11_passed_X11_canPass
set_option maxRecDepth 20000 in
theorem ggX11_passed_X11_one : GoodIn wsX11_passed wsX11_one := goodIn_r _ [24] (by decide +kernel) (by decide +kernel)
set_option maxRecDepth 20000 in
theorem gX11_passed_X11_one : GoodIn wsX11_passed (va_wsS RX11 132 yX11_one wsX11_one) := goodIn_app (goodIn_of _ (by decide +kernel)) ggX11_passed_X11_one
theorem dX11_passed_0 : decode cX11_passed 0 = .ok (.iconst 0, 1) := by decide +kernel
theorem dX11_passed_1 : decode cX11_passed 1 = .ok (.istore_n 1, 1) := by decide +kernel
theorem dX11_passed_2 : decode cX11_passed 2 = .ok (.iconst 0, 1) := by decide +kernel
theorem dX11_passed_3 : decode cX11_passed 3 = .ok (.istore_n 2, 1) := by decide +kernel
theorem dX11_passed_4 : decode cX11_passed 4 = .ok (.iload_n 2, 1) := by decide +kernel
theorem dX11_passed_5 : decode cX11_passed 5 = .ok (.aload_n 0, 1) := by decide +kernel
theorem dX11_passed_6 : decode cX11_passed 6 = .ok (.getfield 123, 3) := by decide +kernel
theorem dX11_passed_9 : decode cX11_passed 9 = .ok (.if_icmp .ge 22, 3) := by decide +kernel
theorem dX11_passed_12 : decode cX11_passed 12 = .ok (.iload_n 1, 1) := by decide +kernel
theorem dX11_passed_13 : decode cX11_passed 13 = .ok (.aload_n 0, 1) := by decide +kernel
theorem dX11_passed_14 : decode cX11_passed 14 = .ok (.iload_n 2, 1) := by decide +kernel
theorem dX11_passed_15 : decode cX11_passed 15 = .ok (.invokevirtual 234, 3) := by decide +kernel
theorem dX11_passed_18 : decode cX11_passed 18 = .ok (.invokestatic 132, 3) := by decide +kernel
theorem dX11_passed_21 : decode cX11_passed 21 = .ok (.iload_n 2, 1) := by decide +kernel
theorem dX11_passed_22 : decode cX11_passed 22 = .ok (.ishl, 1) := by decide +kernel
theorem dX11_passed_23 : decode cX11_passed 23 = .ok (.ior, 1) := by decide +kernel
theorem dX11_passed_24 : decode cX11_passed 24 = .ok (.istore_n 1, 1) := by decide +kernel
theorem dX11_passed_25 : decode cX11_passed 25 = .ok (.iinc 2 1, 3) := by decide +kernel
theorem dX11_passed_28 : decode cX11_passed 28 = .ok (.goto (-24), 3) := by decide +kernel
theorem dX11_passed_31 : decode cX11_passed 31 = .ok (.iload_n 1, 1) := by decide +kernel
theorem dX11_passed_32 : decode cX11_passed 32 = .ok (.ireturn, 1) := by decide +kernel
set_option maxRecDepth 20000 in
theorem ggX11_beerOf_X11_has : GoodIn wsX11_beerOf wsX11_has := goodIn_r _ [6] (by decide +kernel) (by decide +kernel)
set_option maxRecDepth 20000 in
theorem gX11_beerOf_X11_has : GoodIn wsX11_beerOf (va_wsS RX11 54 yX11_has wsX11_has) := goodIn_app (goodIn_of _ (by decide +kernel)) ggX11_beerOf_X11_has
theorem dX11_beerOf_0 : decode cX11_beerOf 0 = .ok (.iconst 0, 1) := by decide +kernel
theorem dX11_beerOf_1 : decode cX11_beerOf 1 = .ok (.istore_n 2, 1) := by decide +kernel
theorem dX11_beerOf_2 : decode cX11_beerOf 2 = .ok (.iconst 0, 1) := by decide +kernel
theorem dX11_beerOf_3 : decode cX11_beerOf 3 = .ok (.istore_n 3, 1) := by decide +kernel
theorem dX11_beerOf_4 : decode cX11_beerOf 4 = .ok (.iload_n 3, 1) := by decide +kernel
theorem dX11_beerOf_5 : decode cX11_beerOf 5 = .ok (.aload_n 0, 1) := by decide +kernel
theorem dX11_beerOf_6 : decode cX11_beerOf 6 = .ok (.getfield 123, 3) := by decide +kernel
theorem dX11_beerOf_9 : decode cX11_beerOf 9 = .ok (.if_icmp .ge 30, 3) := by decide +kernel
theorem dX11_beerOf_12 : decode cX11_beerOf 12 = .ok (.iload_n 2, 1) := by decide +kernel
theorem dX11_beerOf_13 : decode cX11_beerOf 13 = .ok (.iload_n 1, 1) := by decide +kernel
theorem dX11_beerOf_14 : decode cX11_beerOf 14 = .ok (.iload_n 3, 1) := by decide +kernel
theorem dX11_beerOf_15 : decode cX11_beerOf 15 = .ok (.invokestatic 54, 3) := by decide +kernel
theorem dX11_beerOf_18 : decode cX11_beerOf 18 = .ok (.ifCond .eq 12, 3) := by decide +kernel
theorem dX11_beerOf_21 : decode cX11_beerOf 21 = .ok (.aload_n 0, 1) := by decide +kernel
theorem dX11_beerOf_22 : decode cX11_beerOf 22 = .ok (.getfield 17, 3) := by decide +kernel
theorem dX11_beerOf_25 : decode cX11_beerOf 25 = .ok (.iload_n 3, 1) := by decide +kernel
theorem dX11_beerOf_26 : decode cX11_beerOf 26 = .ok (.iaload, 1) := by decide +kernel
theorem dX11_beerOf_27 : decode cX11_beerOf 27 = .ok (.goto 4, 3) := by decide +kernel
theorem dX11_beerOf_30 : decode cX11_beerOf 30 = .ok (.iconst 0, 1) := by decide +kernel
theorem dX11_beerOf_31 : decode cX11_beerOf 31 = .ok (.iadd, 1) := by decide +kernel
theorem dX11_beerOf_32 : decode cX11_beerOf 32 = .ok (.istore_n 2, 1) := by decide +kernel
theorem dX11_beerOf_33 : decode cX11_beerOf 33 = .ok (.iinc 3 1, 3) := by decide +kernel
theorem dX11_beerOf_36 : decode cX11_beerOf 36 = .ok (.goto (-32), 3) := by decide +kernel
theorem dX11_beerOf_39 : decode cX11_beerOf 39 = .ok (.iload_n 2, 1) := by decide +kernel
theorem dX11_beerOf_40 : decode cX11_beerOf 40 = .ok (.ireturn, 1) := by decide +kernel
set_option maxRecDepth 20000 in
theorem ggX11_hired_X11_isDecree : GoodIn wsX11_hired wsX11_isDecree := goodIn_r _ [10, 11, 72, 73, 74, 75, 76, 77, 78, 79, 80, 81, 82, 83, 84, 85, 86, 87, 88, 89, 90, 91, 92, 93, 94, 95, 96, 97, 98, 99, 100] (by decide +kernel) (by decide +kernel)
set_option maxRecDepth 20000 in
theorem gX11_hired_X11_isDecree : GoodIn wsX11_hired (wsV RX11 187 RX11 yX11_isDecree wsX11_isDecree) := goodIn_app (goodIn_of _ (by decide +kernel)) ggX11_hired_X11_isDecree
set_option maxRecDepth 20000 in
theorem ggX11_hired_X11_isCorner : GoodIn wsX11_hired wsX11_isCorner := goodIn_r _ [15, 4, 16, 17, 9, 18, 72, 73, 74, 75, 76, 77, 78, 79, 80, 81, 82, 83, 84, 85, 86, 87, 88, 89, 90, 91, 92, 93, 94, 95, 96, 97, 98, 99, 100] (by decide +kernel) (by decide +kernel)
set_option maxRecDepth 20000 in
theorem gX11_hired_X11_isCorner : GoodIn wsX11_hired (wsV RX11 150 RX11 yX11_isCorner wsX11_isCorner) := goodIn_app (goodIn_of _ (by decide +kernel)) ggX11_hired_X11_isCorner
set_option maxRecDepth 20000 in
theorem ggX11_hired_X11_isWay : GoodIn wsX11_hired wsX11_isWay := goodIn_r _ [21, 16, 17, 9, 18] (by decide +kernel) (by decide +kernel)
set_option maxRecDepth 20000 in
theorem gX11_hired_X11_isWay : GoodIn wsX11_hired (va_wsS RX11 190 yX11_isWay wsX11_isWay) := goodIn_app (goodIn_of _ (by decide +kernel)) ggX11_hired_X11_isWay
set_option maxRecDepth 20000 in
theorem ggX11_hired_X11_in : GoodIn wsX11_hired wsX11_in := goodIn_r _ [18] (by decide +kernel) (by decide +kernel)
set_option maxRecDepth 20000 in
theorem gX11_hired_X11_in : GoodIn wsX11_hired (va_wsS RX11 60 yX11_in wsX11_in) := goodIn_app (goodIn_of _ (by decide +kernel)) ggX11_hired_X11_in
set_option maxRecDepth 20000 in
theorem ggX11_hired_X11_beerOf : GoodIn wsX11_hired wsX11_beerOf := goodIn_r _ [25, 4, 26, 27, 28, 9, 29, 72, 73, 74, 75, 76, 77, 78, 79, 80, 81, 82, 83, 84, 85, 86, 87, 88, 89, 90, 91, 92, 93, 94, 95, 96, 97, 98, 99, 100] (by decide +kernel) (by decide +kernel)
set_option maxRecDepth 20000 in
theorem gX11_hired_X11_beerOf : GoodIn wsX11_hired (wsV RX11 238 RX11 yX11_beerOf wsX11_beerOf) := goodIn_app (goodIn_of _ (by decide +kernel)) ggX11_hired_X11_beerOf
set_option maxRecDepth 20000 in
theorem ggX11_hired_X11_tryRound : GoodIn wsX11_hired wsX11_tryRound := goodIn_r _ [33, 34, 35, 36, 37, 9, 38, 39, 40, 41, 42, 43, 5, 4, 27, 28, 29, 44, 45, 46, 47, 11, 48, 49, 50, 51, 52, 53, 54, 55, 56, 57, 58, 59, 60, 61, 62, 63, 64, 65, 66, 67, 68, 69, 70, 71, 72, 73, 74, 75, 76, 77, 78, 79, 80, 81, 82, 83, 84, 85, 86, 87, 88, 89, 90, 91, 92, 93, 94, 95, 96, 97, 98, 99, 100] (by decide +kernel) (by decide +kernel)
set_option maxRecDepth 20000 in
theorem gX11_hired_X11_tryRound : GoodIn wsX11_hired (wsV RX11 224 RX11 yX11_tryRound wsX11_tryRound) := goodIn_app (goodIn_of _ (by decide +kernel)) ggX11_hired_X11_tryRound
theorem dX11_hired_0 : decode cX11_hired 0 = .ok (.aload_n 0, 1) := by decide +kernel
theorem dX11_hired_1 : decode cX11_hired 1 = .ok (.iload_n 1, 1) := by decide +kernel
theorem dX11_hired_2 : decode cX11_hired 2 = .ok (.invokevirtual 187, 3) := by decide +kernel
theorem dX11_hired_5 : decode cX11_hired 5 = .ok (.ifCond .eq 11, 3) := by decide +kernel
theorem dX11_hired_8 : decode cX11_hired 8 = .ok (.aload_n 0, 1) := by decide +kernel
theorem dX11_hired_9 : decode cX11_hired 9 = .ok (.iload_n 2, 1) := by decide +kernel
theorem dX11_hired_10 : decode cX11_hired 10 = .ok (.invokevirtual 150, 3) := by decide +kernel
theorem dX11_hired_13 : decode cX11_hired 13 = .ok (.ifCond .ne 6, 3) := by decide +kernel
theorem dX11_hired_16 : decode cX11_hired 16 = .ok (.ldc 149, 2) := by decide +kernel
theorem dX11_hired_18 : decode cX11_hired 18 = .ok (.ireturn, 1) := by decide +kernel
theorem dX11_hired_19 : decode cX11_hired 19 = .ok (.iload_n 3, 1) := by decide +kernel
theorem dX11_hired_20 : decode cX11_hired 20 = .ok (.invokestatic 190, 3) := by decide +kernel
theorem dX11_hired_23 : decode cX11_hired 23 = .ok (.ifCond .eq 14, 3) := by decide +kernel
theorem dX11_hired_26 : decode cX11_hired 26 = .ok (.iload 4, 2) := by decide +kernel
theorem dX11_hired_28 : decode cX11_hired 28 = .ok (.i2l, 1) := by decide +kernel
theorem dX11_hired_29 : decode cX11_hired 29 = .ok (.lconst 0, 1) := by decide +kernel
theorem dX11_hired_30 : decode cX11_hired 30 = .ok (.lconst 1, 1) := by decide +kernel
theorem dX11_hired_31 : decode cX11_hired 31 = .ok (.invokestatic 60, 3) := by decide +kernel
theorem dX11_hired_34 : decode cX11_hired 34 = .ok (.ifCond .ne 6, 3) := by decide +kernel
theorem dX11_hired_37 : decode cX11_hired 37 = .ok (.ldc 64, 2) := by decide +kernel
theorem dX11_hired_39 : decode cX11_hired 39 = .ok (.ireturn, 1) := by decide +kernel
theorem dX11_hired_40 : decode cX11_hired 40 = .ok (.iconst (-1), 1) := by decide +kernel
theorem dX11_hired_41 : decode cX11_hired 41 = .ok (.istore 5, 2) := by decide +kernel
theorem dX11_hired_43 : decode cX11_hired 43 = .ok (.ldc 237, 2) := by decide +kernel
theorem dX11_hired_45 : decode cX11_hired 45 = .ok (.istore 6, 2) := by decide +kernel
theorem dX11_hired_47 : decode cX11_hired 47 = .ok (.iconst 0, 1) := by decide +kernel
theorem dX11_hired_48 : decode cX11_hired 48 = .ok (.istore 7, 2) := by decide +kernel
theorem dX11_hired_50 : decode cX11_hired 50 = .ok (.iload 7, 2) := by decide +kernel
theorem dX11_hired_52 : decode cX11_hired 52 = .ok (.iconst 1, 1) := by decide +kernel
theorem dX11_hired_53 : decode cX11_hired 53 = .ok (.aload_n 0, 1) := by decide +kernel
theorem dX11_hired_54 : decode cX11_hired 54 = .ok (.getfield 123, 3) := by decide +kernel
theorem dX11_hired_57 : decode cX11_hired 57 = .ok (.ishl, 1) := by decide +kernel
theorem dX11_hired_58 : decode cX11_hired 58 = .ok (.if_icmp .ge 86, 3) := by decide +kernel
theorem dX11_hired_61 : decode cX11_hired 61 = .ok (.aload_n 0, 1) := by decide +kernel
theorem dX11_hired_62 : decode cX11_hired 62 = .ok (.iload 7, 2) := by decide +kernel
theorem dX11_hired_64 : decode cX11_hired 64 = .ok (.invokevirtual 238, 3) := by decide +kernel
theorem dX11_hired_67 : decode cX11_hired 67 = .ok (.istore 8, 2) := by decide +kernel
theorem dX11_hired_69 : decode cX11_hired 69 = .ok (.iload 8, 2) := by decide +kernel
theorem dX11_hired_71 : decode cX11_hired 71 = .ok (.iload 6, 2) := by decide +kernel
theorem dX11_hired_73 : decode cX11_hired 73 = .ok (.if_icmp .ge 65, 3) := by decide +kernel
theorem dX11_hired_76 : decode cX11_hired 76 = .ok (.aload_n 0, 1) := by decide +kernel
theorem dX11_hired_77 : decode cX11_hired 77 = .ok (.iload_n 1, 1) := by decide +kernel
theorem dX11_hired_78 : decode cX11_hired 78 = .ok (.iload_n 2, 1) := by decide +kernel
theorem dX11_hired_79 : decode cX11_hired 79 = .ok (.iload_n 3, 1) := by decide +kernel
theorem dX11_hired_80 : decode cX11_hired 80 = .ok (.iload 7, 2) := by decide +kernel
theorem dX11_hired_82 : decode cX11_hired 82 = .ok (.iconst 0, 1) := by decide +kernel
theorem dX11_hired_83 : decode cX11_hired 83 = .ok (.invokevirtual 224, 3) := by decide +kernel
theorem dX11_hired_86 : decode cX11_hired 86 = .ok (.istore 9, 2) := by decide +kernel
theorem dX11_hired_88 : decode cX11_hired 88 = .ok (.aload_n 0, 1) := by decide +kernel
theorem dX11_hired_89 : decode cX11_hired 89 = .ok (.getfield 170, 3) := by decide +kernel
theorem dX11_hired_92 : decode cX11_hired 92 = .ok (.iconst 1, 1) := by decide +kernel
theorem dX11_hired_93 : decode cX11_hired 93 = .ok (.aload_n 0, 1) := by decide +kernel
theorem dX11_hired_94 : decode cX11_hired 94 = .ok (.getfield 123, 3) := by decide +kernel
theorem dX11_hired_97 : decode cX11_hired 97 = .ok (.ishl, 1) := by decide +kernel
theorem dX11_hired_98 : decode cX11_hired 98 = .ok (.iconst 1, 1) := by decide +kernel
theorem dX11_hired_99 : decode cX11_hired 99 = .ok (.isub, 1) := by decide +kernel
theorem dX11_hired_100 : decode cX11_hired 100 = .ok (.if_icmp .ne 7, 3) := by decide +kernel
theorem dX11_hired_103 : decode cX11_hired 103 = .ok (.iconst 1, 1) := by decide +kernel
theorem dX11_hired_104 : decode cX11_hired 104 = .ok (.goto 4, 3) := by decide +kernel
theorem dX11_hired_107 : decode cX11_hired 107 = .ok (.iconst 0, 1) := by decide +kernel
theorem dX11_hired_108 : decode cX11_hired 108 = .ok (.istore 10, 2) := by decide +kernel
theorem dX11_hired_110 : decode cX11_hired 110 = .ok (.iload 10, 2) := by decide +kernel
theorem dX11_hired_112 : decode cX11_hired 112 = .ok (.ifCond .eq 8, 3) := by decide +kernel
theorem dX11_hired_115 : decode cX11_hired 115 = .ok (.iload 7, 2) := by decide +kernel
theorem dX11_hired_117 : decode cX11_hired 117 = .ok (.goto 5, 3) := by decide +kernel
theorem dX11_hired_120 : decode cX11_hired 120 = .ok (.iload 5, 2) := by decide +kernel
theorem dX11_hired_122 : decode cX11_hired 122 = .ok (.istore 5, 2) := by decide +kernel
theorem dX11_hired_124 : decode cX11_hired 124 = .ok (.iload 10, 2) := by decide +kernel
theorem dX11_hired_126 : decode cX11_hired 126 = .ok (.ifCond .eq 8, 3) := by decide +kernel
theorem dX11_hired_129 : decode cX11_hired 129 = .ok (.iload 8, 2) := by decide +kernel
theorem dX11_hired_131 : decode cX11_hired 131 = .ok (.goto 5, 3) := by decide +kernel
theorem dX11_hired_134 : decode cX11_hired 134 = .ok (.iload 6, 2) := by decide +kernel
theorem dX11_hired_136 : decode cX11_hired 136 = .ok (.istore 6, 2) := by decide +kernel
theorem dX11_hired_138 : decode cX11_hired 138 = .ok (.iinc 7 1, 3) := by decide +kernel
theorem dX11_hired_141 : decode cX11_hired 141 = .ok (.goto (-91), 3) := by decide +kernel
theorem dX11_hired_144 : decode cX11_hired 144 = .ok (.iload 5, 2) := by decide +kernel
theorem dX11_hired_146 : decode cX11_hired 146 = .ok (.iconst (-1), 1) := by decide +kernel
theorem dX11_hired_147 : decode cX11_hired 147 = .ok (.if_icmp .eq 9, 3) := by decide +kernel
theorem dX11_hired_150 : decode cX11_hired 150 = .ok (.iload 4, 2) := by decide +kernel
theorem dX11_hired_152 : decode cX11_hired 152 = .ok (.iconst 1, 1) := by decide +kernel
theorem dX11_hired_153 : decode cX11_hired 153 = .ok (.if_icmp .ne 8, 3) := by decide +kernel
theorem dX11_hired_156 : decode cX11_hired 156 = .ok (.iload 5, 2) := by decide +kernel
theorem dX11_hired_158 : decode cX11_hired 158 = .ok (.goto 5, 3) := by decide +kernel
theorem dX11_hired_161 : decode cX11_hired 161 = .ok (.iload 6, 2) := by decide +kernel
theorem dX11_hired_163 : decode cX11_hired 163 = .ok (.ireturn, 1) := by decide +kernel
set_option maxRecDepth 20000 in
theorem ggX11_spoilt_X11_isDecree : GoodIn wsX11_spoilt wsX11_isDecree := goodIn_r _ [10, 11, 66, 67, 68, 69, 70, 71, 72, 73, 74, 75, 76, 77, 78, 79, 80, 81, 82, 83, 84, 85, 86, 87, 88, 89, 90, 91, 92, 93, 94] (by decide +kernel) (by decide +kernel)
set_option maxRecDepth 20000 in
theorem gX11_spoilt_X11_isDecree : GoodIn wsX11_spoilt (wsV RX11 187 RX11 yX11_isDecree wsX11_isDecree) := goodIn_app (goodIn_of _ (by decide +kernel)) ggX11_spoilt_X11_isDecree
set_option maxRecDepth 20000 in
theorem ggX11_spoilt_X11_isCorner : GoodIn wsX11_spoilt wsX11_isCorner := goodIn_r _ [15, 16, 17, 18, 9, 19, 66, 67, 68, 69, 70, 71, 72, 73, 74, 75, 76, 77, 78, 79, 80, 81, 82, 83, 84, 85, 86, 87, 88, 89, 90, 91, 92, 93, 94] (by decide +kernel) (by decide +kernel)
set_option maxRecDepth 20000 in
theorem gX11_spoilt_X11_isCorner : GoodIn wsX11_spoilt (wsV RX11 150 RX11 yX11_isCorner wsX11_isCorner) := goodIn_app (goodIn_of _ (by decide +kernel)) ggX11_spoilt_X11_isCorner
set_option maxRecDepth 20000 in
theorem ggX11_spoilt_X11_isWay : GoodIn wsX11_spoilt wsX11_isWay := goodIn_r _ [22, 17, 18, 9, 19] (by decide +kernel) (by decide +kernel)
set_option maxRecDepth 20000 in
theorem gX11_spoilt_X11_isWay : GoodIn wsX11_spoilt (va_wsS RX11 190 yX11_isWay wsX11_isWay) := goodIn_app (goodIn_of _ (by decide +kernel)) ggX11_spoilt_X11_isWay
set_option maxRecDepth 20000 in
theorem ggX11_spoilt_X11_in : GoodIn wsX11_spoilt wsX11_in := goodIn_r _ [19] (by decide +kernel) (by decide +kernel)
set_option maxRecDepth 20000 in
theorem gX11_spoilt_X11_in : GoodIn wsX11_spoilt (va_wsS RX11 60 yX11_in wsX11_in) := goodIn_app (goodIn_of _ (by decide +kernel)) ggX11_spoilt_X11_in
set_option maxRecDepth 20000 in
theorem ggX11_spoilt_X11_tryRound : GoodIn wsX11_spoilt wsX11_tryRound := goodIn_r _ [26, 5, 27, 28, 29, 9, 30, 31, 32, 33, 34, 35, 3, 16, 36, 37, 38, 39, 40, 41, 42, 11, 43, 44, 45, 46, 47, 48, 49, 50, 51, 52, 4, 53, 54, 55, 56, 57, 58, 59, 60, 61, 62, 63, 64, 65, 66, 67, 68, 69, 70, 71, 72, 73, 74, 75, 76, 77, 78, 79, 80, 81, 82, 83, 84, 85, 86, 87, 88, 89, 90, 91, 92, 93, 94] (by decide +kernel) (by decide +kernel)
set_option maxRecDepth 20000 in
theorem gX11_spoilt_X11_tryRound : GoodIn wsX11_spoilt (wsV RX11 224 RX11 yX11_tryRound wsX11_tryRound) := goodIn_app (goodIn_of _ (by decide +kernel)) ggX11_spoilt_X11_tryRound
set_option maxRecDepth 20000 in
theorem ggX11_spoilt_X11_ones : GoodIn wsX11_spoilt wsX11_ones := goodIn_r _ [62] (by decide +kernel) (by decide +kernel)
set_option maxRecDepth 20000 in
theorem gX11_spoilt_X11_ones : GoodIn wsX11_spoilt (va_wsS RX11 163 yX11_ones wsX11_ones) := goodIn_app (goodIn_of _ (by decide +kernel)) ggX11_spoilt_X11_ones
set_option maxRecDepth 20000 in
theorem ggX11_spoilt_X11_has : GoodIn wsX11_spoilt wsX11_has := goodIn_r _ [38] (by decide +kernel) (by decide +kernel)
set_option maxRecDepth 20000 in
theorem gX11_spoilt_X11_has : GoodIn wsX11_spoilt (va_wsS RX11 54 yX11_has wsX11_has) := goodIn_app (goodIn_of _ (by decide +kernel)) ggX11_spoilt_X11_has
theorem dX11_spoilt_0 : decode cX11_spoilt 0 = .ok (.aload_n 0, 1) := by decide +kernel
theorem dX11_spoilt_1 : decode cX11_spoilt 1 = .ok (.iload_n 1, 1) := by decide +kernel
theorem dX11_spoilt_2 : decode cX11_spoilt 2 = .ok (.invokevirtual 187, 3) := by decide +kernel
theorem dX11_spoilt_5 : decode cX11_spoilt 5 = .ok (.ifCond .eq 11, 3) := by decide +kernel
theorem dX11_spoilt_8 : decode cX11_spoilt 8 = .ok (.aload_n 0, 1) := by decide +kernel
theorem dX11_spoilt_9 : decode cX11_spoilt 9 = .ok (.iload_n 2, 1) := by decide +kernel
theorem dX11_spoilt_10 : decode cX11_spoilt 10 = .ok (.invokevirtual 150, 3) := by decide +kernel
theorem dX11_spoilt_13 : decode cX11_spoilt 13 = .ok (.ifCond .ne 6, 3) := by decide +kernel
theorem dX11_spoilt_16 : decode cX11_spoilt 16 = .ok (.ldc 149, 2) := by decide +kernel
theorem dX11_spoilt_18 : decode cX11_spoilt 18 = .ok (.ireturn, 1) := by decide +kernel
theorem dX11_spoilt_19 : decode cX11_spoilt 19 = .ok (.iload_n 3, 1) := by decide +kernel
theorem dX11_spoilt_20 : decode cX11_spoilt 20 = .ok (.invokestatic 190, 3) := by decide +kernel
theorem dX11_spoilt_23 : decode cX11_spoilt 23 = .ok (.ifCond .eq 14, 3) := by decide +kernel
theorem dX11_spoilt_26 : decode cX11_spoilt 26 = .ok (.iload 4, 2) := by decide +kernel
theorem dX11_spoilt_28 : decode cX11_spoilt 28 = .ok (.i2l, 1) := by decide +kernel
theorem dX11_spoilt_29 : decode cX11_spoilt 29 = .ok (.lconst 0, 1) := by decide +kernel
theorem dX11_spoilt_30 : decode cX11_spoilt 30 = .ok (.lconst 1, 1) := by decide +kernel
theorem dX11_spoilt_31 : decode cX11_spoilt 31 = .ok (.invokestatic 60, 3) := by decide +kernel
theorem dX11_spoilt_34 : decode cX11_spoilt 34 = .ok (.ifCond .ne 6, 3) := by decide +kernel
theorem dX11_spoilt_37 : decode cX11_spoilt 37 = .ok (.ldc 64, 2) := by decide +kernel
theorem dX11_spoilt_39 : decode cX11_spoilt 39 = .ok (.ireturn, 1) := by decide +kernel
theorem dX11_spoilt_40 : decode cX11_spoilt 40 = .ok (.iconst (-1), 1) := by decide +kernel
theorem dX11_spoilt_41 : decode cX11_spoilt 41 = .ok (.istore 5, 2) := by decide +kernel
theorem dX11_spoilt_43 : decode cX11_spoilt 43 = .ok (.aload_n 0, 1) := by decide +kernel
theorem dX11_spoilt_44 : decode cX11_spoilt 44 = .ok (.iload_n 1, 1) := by decide +kernel
theorem dX11_spoilt_45 : decode cX11_spoilt 45 = .ok (.iload_n 2, 1) := by decide +kernel
theorem dX11_spoilt_46 : decode cX11_spoilt 46 = .ok (.iload_n 3, 1) := by decide +kernel
theorem dX11_spoilt_47 : decode cX11_spoilt 47 = .ok (.iconst 0, 1) := by decide +kernel
theorem dX11_spoilt_48 : decode cX11_spoilt 48 = .ok (.iconst 0, 1) := by decide +kernel
theorem dX11_spoilt_49 : decode cX11_spoilt 49 = .ok (.invokevirtual 224, 3) := by decide +kernel
theorem dX11_spoilt_52 : decode cX11_spoilt 52 = .ok (.istore 6, 2) := by decide +kernel
theorem dX11_spoilt_54 : decode cX11_spoilt 54 = .ok (.aload_n 0, 1) := by decide +kernel
theorem dX11_spoilt_55 : decode cX11_spoilt 55 = .ok (.getfield 170, 3) := by decide +kernel
theorem dX11_spoilt_58 : decode cX11_spoilt 58 = .ok (.invokestatic 163, 3) := by decide +kernel
theorem dX11_spoilt_61 : decode cX11_spoilt 61 = .ok (.istore 7, 2) := by decide +kernel
theorem dX11_spoilt_63 : decode cX11_spoilt 63 = .ok (.iconst 0, 1) := by decide +kernel
theorem dX11_spoilt_64 : decode cX11_spoilt 64 = .ok (.istore 8, 2) := by decide +kernel
theorem dX11_spoilt_66 : decode cX11_spoilt 66 = .ok (.iload 8, 2) := by decide +kernel
theorem dX11_spoilt_68 : decode cX11_spoilt 68 = .ok (.aload_n 0, 1) := by decide +kernel
theorem dX11_spoilt_69 : decode cX11_spoilt 69 = .ok (.getfield 129, 3) := by decide +kernel
theorem dX11_spoilt_72 : decode cX11_spoilt 72 = .ok (.if_icmp .ge 85, 3) := by decide +kernel
theorem dX11_spoilt_75 : decode cX11_spoilt 75 = .ok (.aload_n 0, 1) := by decide +kernel
theorem dX11_spoilt_76 : decode cX11_spoilt 76 = .ok (.getfield 7, 3) := by decide +kernel
theorem dX11_spoilt_79 : decode cX11_spoilt 79 = .ok (.bipush 10, 2) := by decide +kernel
theorem dX11_spoilt_81 : decode cX11_spoilt 81 = .ok (.iaload, 1) := by decide +kernel
theorem dX11_spoilt_82 : decode cX11_spoilt 82 = .ok (.iload 8, 2) := by decide +kernel
theorem dX11_spoilt_84 : decode cX11_spoilt 84 = .ok (.invokestatic 54, 3) := by decide +kernel
theorem dX11_spoilt_87 : decode cX11_spoilt 87 = .ok (.ifCond .ne 64, 3) := by decide +kernel
theorem dX11_spoilt_90 : decode cX11_spoilt 90 = .ok (.aload_n 0, 1) := by decide +kernel
theorem dX11_spoilt_91 : decode cX11_spoilt 91 = .ok (.iload_n 1, 1) := by decide +kernel
theorem dX11_spoilt_92 : decode cX11_spoilt 92 = .ok (.iload_n 2, 1) := by decide +kernel
theorem dX11_spoilt_93 : decode cX11_spoilt 93 = .ok (.iload_n 3, 1) := by decide +kernel
theorem dX11_spoilt_94 : decode cX11_spoilt 94 = .ok (.iconst 0, 1) := by decide +kernel
theorem dX11_spoilt_95 : decode cX11_spoilt 95 = .ok (.iconst 1, 1) := by decide +kernel
theorem dX11_spoilt_96 : decode cX11_spoilt 96 = .ok (.iload 8, 2) := by decide +kernel
theorem dX11_spoilt_98 : decode cX11_spoilt 98 = .ok (.ishl, 1) := by decide +kernel
theorem dX11_spoilt_99 : decode cX11_spoilt 99 = .ok (.invokevirtual 224, 3) := by decide +kernel
theorem dX11_spoilt_102 : decode cX11_spoilt 102 = .ok (.istore 6, 2) := by decide +kernel
theorem dX11_spoilt_104 : decode cX11_spoilt 104 = .ok (.aload_n 0, 1) := by decide +kernel
theorem dX11_spoilt_105 : decode cX11_spoilt 105 = .ok (.getfield 170, 3) := by decide +kernel
theorem dX11_spoilt_108 : decode cX11_spoilt 108 = .ok (.invokestatic 163, 3) := by decide +kernel
theorem dX11_spoilt_111 : decode cX11_spoilt 111 = .ok (.iload 7, 2) := by decide +kernel
theorem dX11_spoilt_113 : decode cX11_spoilt 113 = .ok (.if_icmp .ge 8, 3) := by decide +kernel
theorem dX11_spoilt_116 : decode cX11_spoilt 116 = .ok (.iload 8, 2) := by decide +kernel
theorem dX11_spoilt_118 : decode cX11_spoilt 118 = .ok (.goto 5, 3) := by decide +kernel
theorem dX11_spoilt_121 : decode cX11_spoilt 121 = .ok (.iload 5, 2) := by decide +kernel
theorem dX11_spoilt_123 : decode cX11_spoilt 123 = .ok (.istore 5, 2) := by decide +kernel
theorem dX11_spoilt_125 : decode cX11_spoilt 125 = .ok (.aload_n 0, 1) := by decide +kernel
theorem dX11_spoilt_126 : decode cX11_spoilt 126 = .ok (.getfield 170, 3) := by decide +kernel
theorem dX11_spoilt_129 : decode cX11_spoilt 129 = .ok (.invokestatic 163, 3) := by decide +kernel
theorem dX11_spoilt_132 : decode cX11_spoilt 132 = .ok (.iload 7, 2) := by decide +kernel
theorem dX11_spoilt_134 : decode cX11_spoilt 134 = .ok (.if_icmp .ge 13, 3) := by decide +kernel
theorem dX11_spoilt_137 : decode cX11_spoilt 137 = .ok (.aload_n 0, 1) := by decide +kernel
theorem dX11_spoilt_138 : decode cX11_spoilt 138 = .ok (.getfield 170, 3) := by decide +kernel
theorem dX11_spoilt_141 : decode cX11_spoilt 141 = .ok (.invokestatic 163, 3) := by decide +kernel
theorem dX11_spoilt_144 : decode cX11_spoilt 144 = .ok (.goto 5, 3) := by decide +kernel
theorem dX11_spoilt_147 : decode cX11_spoilt 147 = .ok (.iload 7, 2) := by decide +kernel
theorem dX11_spoilt_149 : decode cX11_spoilt 149 = .ok (.istore 7, 2) := by decide +kernel
theorem dX11_spoilt_151 : decode cX11_spoilt 151 = .ok (.iinc 8 1, 3) := by decide +kernel
theorem dX11_spoilt_154 : decode cX11_spoilt 154 = .ok (.goto (-88), 3) := by decide +kernel
theorem dX11_spoilt_157 : decode cX11_spoilt 157 = .ok (.iload 4, 2) := by decide +kernel
theorem dX11_spoilt_159 : decode cX11_spoilt 159 = .ok (.ifCond .ne 8, 3) := by decide +kernel
theorem dX11_spoilt_162 : decode cX11_spoilt 162 = .ok (.iload 7, 2) := by decide +kernel
theorem dX11_spoilt_164 : decode cX11_spoilt 164 = .ok (.goto 5, 3) := by decide +kernel
theorem dX11_spoilt_167 : decode cX11_spoilt 167 = .ok (.iload 5, 2) := by decide +kernel
theorem dX11_spoilt_169 : decode cX11_spoilt 169 = .ok (.ireturn, 1) := by decide +kernel
set_option maxRecDepth 20000 in
theorem ggX11_odds_X11_in : GoodIn wsX11_odds wsX11_in := goodIn_r _ [9] (by decide +kernel) (by decide +kernel)
set_option maxRecDepth 20000 in
theorem gX11_odds_X11_in : GoodIn wsX11_odds (va_wsS RX11 60 yX11_in wsX11_in) := goodIn_app (goodIn_of _ (by decide +kernel)) ggX11_odds_X11_in
theorem dX11_odds_0 : decode cX11_odds 0 = .ok (.iload_n 1, 1) := by decide +kernel
theorem dX11_odds_1 : decode cX11_odds 1 = .ok (.i2l, 1) := by decide +kernel
theorem dX11_odds_2 : decode cX11_odds 2 = .ok (.lconst 0, 1) := by decide +kernel
theorem dX11_odds_3 : decode cX11_odds 3 = .ok (.ldc2_w 241, 3) := by decide +kernel
theorem dX11_odds_6 : decode cX11_odds 6 = .ok (.invokestatic 60, 3) := by decide +kernel
theorem dX11_odds_9 : decode cX11_odds 9 = .ok (.ifCond .eq 15, 3) := by decide +kernel
theorem dX11_odds_12 : decode cX11_odds 12 = .ok (.iload_n 2, 1) := by decide +kernel
theorem dX11_odds_13 : decode cX11_odds 13 = .ok (.i2l, 1) := by decide +kernel
theorem dX11_odds_14 : decode cX11_odds 14 = .ok (.lconst 0, 1) := by decide +kernel
theorem dX11_odds_15 : decode cX11_odds 15 = .ok (.ldc2_w 243, 3) := by decide +kernel
theorem dX11_odds_18 : decode cX11_odds 18 = .ok (.invokestatic 60, 3) := by decide +kernel
theorem dX11_odds_21 : decode cX11_odds 21 = .ok (.ifCond .ne 6, 3) := by decide +kernel
theorem dX11_odds_24 : decode cX11_odds 24 = .ok (.ldc 64, 2) := by decide +kernel
theorem dX11_odds_26 : decode cX11_odds 26 = .ok (.ireturn, 1) := by decide +kernel
theorem dX11_odds_27 : decode cX11_odds 27 = .ok (.ldc2_w 245, 3) := by decide +kernel
theorem dX11_odds_30 : decode cX11_odds 30 = .ok (.lstore_n 3, 1) := by decide +kernel
theorem dX11_odds_31 : decode cX11_odds 31 = .ok (.iconst 0, 1) := by decide +kernel
theorem dX11_odds_32 : decode cX11_odds 32 = .ok (.istore 5, 2) := by decide +kernel
theorem dX11_odds_34 : decode cX11_odds 34 = .ok (.iload 5, 2) := by decide +kernel
theorem dX11_odds_36 : decode cX11_odds 36 = .ok (.iload_n 1, 1) := by decide +kernel
theorem dX11_odds_37 : decode cX11_odds 37 = .ok (.aload_n 0, 1) := by decide +kernel
theorem dX11_odds_38 : decode cX11_odds 38 = .ok (.getfield 123, 3) := by decide +kernel
theorem dX11_odds_41 : decode cX11_odds 41 = .ok (.imul, 1) := by decide +kernel
theorem dX11_odds_42 : decode cX11_odds 42 = .ok (.if_icmp .ge 21, 3) := by decide +kernel
theorem dX11_odds_45 : decode cX11_odds 45 = .ok (.lload_n 3, 1) := by decide +kernel
theorem dX11_odds_46 : decode cX11_odds 46 = .ok (.bipush 100, 2) := by decide +kernel
theorem dX11_odds_48 : decode cX11_odds 48 = .ok (.iload_n 2, 1) := by decide +kernel
theorem dX11_odds_49 : decode cX11_odds 49 = .ok (.isub, 1) := by decide +kernel
theorem dX11_odds_50 : decode cX11_odds 50 = .ok (.i2l, 1) := by decide +kernel
theorem dX11_odds_51 : decode cX11_odds 51 = .ok (.lmul, 1) := by decide +kernel
theorem dX11_odds_52 : decode cX11_odds 52 = .ok (.ldc2_w 243, 3) := by decide +kernel
theorem dX11_odds_55 : decode cX11_odds 55 = .ok (.ldiv, 1) := by decide +kernel
theorem dX11_odds_56 : decode cX11_odds 56 = .ok (.lstore_n 3, 1) := by decide +kernel
theorem dX11_odds_57 : decode cX11_odds 57 = .ok (.iinc 5 1, 3) := by decide +kernel
theorem dX11_odds_60 : decode cX11_odds 60 = .ok (.goto (-26), 3) := by decide +kernel
theorem dX11_odds_63 : decode cX11_odds 63 = .ok (.lload_n 3, 1) := by decide +kernel
theorem dX11_odds_64 : decode cX11_odds 64 = .ok (.l2i, 1) := by decide +kernel
theorem dX11_odds_65 : decode cX11_odds 65 = .ok (.ireturn, 1) := by decide +kernel
set_option maxRecDepth 20000 in
theorem ggX11_see_X11_isDecree : GoodIn wsX11_see wsX11_isDecree := goodIn_r _ [13, 14, 23, 24, 25, 26, 27, 28, 29, 30, 31, 32, 33, 34, 35, 36, 37, 38, 39, 40, 41, 42, 43, 44, 45, 46, 47, 48, 49, 50, 51] (by decide +kernel) (by decide +kernel)
set_option maxRecDepth 20000 in
theorem gX11_see_X11_isDecree : GoodIn wsX11_see (wsV RX11 187 RX11 yX11_isDecree wsX11_isDecree) := goodIn_app (goodIn_of _ (by decide +kernel)) ggX11_see_X11_isDecree
set_option maxRecDepth 20000 in
theorem ggX11_see_X11_isCorner : GoodIn wsX11_see wsX11_isCorner := goodIn_r _ [18, 19, 20, 21, 12, 22, 23, 24, 25, 26, 27, 28, 29, 30, 31, 32, 33, 34, 35, 36, 37, 38, 39, 40, 41, 42, 43, 44, 45, 46, 47, 48, 49, 50, 51] (by decide +kernel) (by decide +kernel)
set_option maxRecDepth 20000 in
theorem gX11_see_X11_isCorner : GoodIn wsX11_see (wsV RX11 150 RX11 yX11_isCorner wsX11_isCorner) := goodIn_app (goodIn_of _ (by decide +kernel)) ggX11_see_X11_isCorner
set_option maxRecDepth 20000 in
theorem ggX11_see_X11_in : GoodIn wsX11_see wsX11_in := goodIn_r _ [22] (by decide +kernel) (by decide +kernel)
set_option maxRecDepth 20000 in
theorem gX11_see_X11_in : GoodIn wsX11_see (va_wsS RX11 60 yX11_in wsX11_in) := goodIn_app (goodIn_of _ (by decide +kernel)) ggX11_see_X11_in
theorem dX11_see_0 : decode cX11_see 0 = .ok (.aload_n 0, 1) := by decide +kernel
theorem dX11_see_1 : decode cX11_see 1 = .ok (.iload_n 1, 1) := by decide +kernel
theorem dX11_see_2 : decode cX11_see 2 = .ok (.invokevirtual 187, 3) := by decide +kernel
theorem dX11_see_5 : decode cX11_see 5 = .ok (.ifCond .eq 11, 3) := by decide +kernel
theorem dX11_see_8 : decode cX11_see 8 = .ok (.aload_n 0, 1) := by decide +kernel
theorem dX11_see_9 : decode cX11_see 9 = .ok (.iload_n 2, 1) := by decide +kernel
theorem dX11_see_10 : decode cX11_see 10 = .ok (.invokevirtual 150, 3) := by decide +kernel
theorem dX11_see_13 : decode cX11_see 13 = .ok (.ifCond .ne 6, 3) := by decide +kernel
theorem dX11_see_16 : decode cX11_see 16 = .ok (.ldc 149, 2) := by decide +kernel
theorem dX11_see_18 : decode cX11_see 18 = .ok (.ireturn, 1) := by decide +kernel
theorem dX11_see_19 : decode cX11_see 19 = .ok (.iload_n 3, 1) := by decide +kernel
theorem dX11_see_20 : decode cX11_see 20 = .ok (.i2l, 1) := by decide +kernel
theorem dX11_see_21 : decode cX11_see 21 = .ok (.lconst 0, 1) := by decide +kernel
theorem dX11_see_22 : decode cX11_see 22 = .ok (.ldc2_w 247, 3) := by decide +kernel
theorem dX11_see_25 : decode cX11_see 25 = .ok (.invokestatic 60, 3) := by decide +kernel
theorem dX11_see_28 : decode cX11_see 28 = .ok (.ifCond .ne 6, 3) := by decide +kernel
theorem dX11_see_31 : decode cX11_see 31 = .ok (.ldc 64, 2) := by decide +kernel
theorem dX11_see_33 : decode cX11_see 33 = .ok (.ireturn, 1) := by decide +kernel
theorem dX11_see_34 : decode cX11_see 34 = .ok (.aload_n 0, 1) := by decide +kernel
theorem dX11_see_35 : decode cX11_see 35 = .ok (.getfield 136, 3) := by decide +kernel
theorem dX11_see_38 : decode cX11_see 38 = .ok (.bipush 6, 2) := by decide +kernel
theorem dX11_see_40 : decode cX11_see 40 = .ok (.if_icmp .ne 6, 3) := by decide +kernel
theorem dX11_see_43 : decode cX11_see 43 = .ok (.ldc 68, 2) := by decide +kernel
theorem dX11_see_45 : decode cX11_see 45 = .ok (.ireturn, 1) := by decide +kernel
theorem dX11_see_46 : decode cX11_see 46 = .ok (.aload_n 0, 1) := by decide +kernel
theorem dX11_see_47 : decode cX11_see 47 = .ok (.getfield 39, 3) := by decide +kernel
theorem dX11_see_50 : decode cX11_see 50 = .ok (.aload_n 0, 1) := by decide +kernel
theorem dX11_see_51 : decode cX11_see 51 = .ok (.getfield 136, 3) := by decide +kernel
theorem dX11_see_54 : decode cX11_see 54 = .ok (.iload_n 1, 1) := by decide +kernel
theorem dX11_see_55 : decode cX11_see 55 = .ok (.iastore, 1) := by decide +kernel
theorem dX11_see_56 : decode cX11_see 56 = .ok (.aload_n 0, 1) := by decide +kernel
theorem dX11_see_57 : decode cX11_see 57 = .ok (.getfield 42, 3) := by decide +kernel
theorem dX11_see_60 : decode cX11_see 60 = .ok (.aload_n 0, 1) := by decide +kernel
theorem dX11_see_61 : decode cX11_see 61 = .ok (.getfield 136, 3) := by decide +kernel
theorem dX11_see_64 : decode cX11_see 64 = .ok (.iload_n 2, 1) := by decide +kernel
theorem dX11_see_65 : decode cX11_see 65 = .ok (.iastore, 1) := by decide +kernel
theorem dX11_see_66 : decode cX11_see 66 = .ok (.aload_n 0, 1) := by decide +kernel
theorem dX11_see_67 : decode cX11_see 67 = .ok (.getfield 45, 3) := by decide +kernel
theorem dX11_see_70 : decode cX11_see 70 = .ok (.aload_n 0, 1) := by decide +kernel
theorem dX11_see_71 : decode cX11_see 71 = .ok (.getfield 136, 3) := by decide +kernel
theorem dX11_see_74 : decode cX11_see 74 = .ok (.iload_n 3, 1) := by decide +kernel
theorem dX11_see_75 : decode cX11_see 75 = .ok (.iastore, 1) := by decide +kernel
theorem dX11_see_76 : decode cX11_see 76 = .ok (.aload_n 0, 1) := by decide +kernel
theorem dX11_see_77 : decode cX11_see 77 = .ok (.dup, 1) := by decide +kernel
theorem dX11_see_78 : decode cX11_see 78 = .ok (.getfield 136, 3) := by decide +kernel
theorem dX11_see_81 : decode cX11_see 81 = .ok (.iconst 1, 1) := by decide +kernel
theorem dX11_see_82 : decode cX11_see 82 = .ok (.iadd, 1) := by decide +kernel
theorem dX11_see_83 : decode cX11_see 83 = .ok (.putfield 136, 3) := by decide +kernel
theorem dX11_see_86 : decode cX11_see 86 = .ok (.aload_n 0, 1) := by decide +kernel
theorem dX11_see_87 : decode cX11_see 87 = .ok (.getfield 136, 3) := by decide +kernel
theorem dX11_see_90 : decode cX11_see 90 = .ok (.ireturn, 1) := by decide +kernel
set_option maxRecDepth 20000 in
theorem ggX11_isAsSeen_X11_copy : GoodIn wsX11_isAsSeen wsX11_copy := goodIn_r _ [10, 1, 34, 35, 36, 37, 38, 39, 40, 41, 42, 43, 44, 45, 46, 47, 48, 49, 50, 51, 52, 53, 54, 55, 56, 57, 58, 59, 60, 61, 62] (by decide +kernel) (by decide +kernel)
set_option maxRecDepth 20000 in
theorem gX11_isAsSeen_X11_copy : GoodIn wsX11_isAsSeen (wsV RX11 183 RX11 yX11_copy wsX11_copy) := goodIn_app (goodIn_of _ (by decide +kernel)) ggX11_isAsSeen_X11_copy
set_option maxRecDepth 20000 in
theorem ggX11_isAsSeen_X11_speakers : GoodIn wsX11_isAsSeen wsX11_speakers := goodIn_r _ [14, 1, 15, 16, 17, 9, 18, 19, 20, 21, 22, 23, 24, 25, 26, 27, 28, 29, 30, 34, 35, 36, 37, 38, 39, 40, 41, 42, 43, 44, 45, 46, 47, 48, 49, 50, 51, 52, 53, 54, 55, 56, 57, 58, 59, 60, 61, 62] (by decide +kernel) (by decide +kernel)
set_option maxRecDepth 20000 in
theorem gX11_isAsSeen_X11_speakers : GoodIn wsX11_isAsSeen (wsV RX11 159 RX11 yX11_speakers wsX11_speakers) := goodIn_app (goodIn_of _ (by decide +kernel)) ggX11_isAsSeen_X11_speakers
set_option maxRecDepth 20000 in
theorem ggX11_isAsSeen_X11_ones : GoodIn wsX11_isAsSeen wsX11_ones := goodIn_r _ [33] (by decide +kernel) (by decide +kernel)
set_option maxRecDepth 20000 in
theorem gX11_isAsSeen_X11_ones : GoodIn wsX11_isAsSeen (va_wsS RX11 163 yX11_ones wsX11_ones) := goodIn_app (goodIn_of _ (by decide +kernel)) ggX11_isAsSeen_X11_ones
theorem dX11_isAsSeen_0 : decode cX11_isAsSeen 0 = .ok (.aload_n 0, 1) := by decide +kernel
theorem dX11_isAsSeen_1 : decode cX11_isAsSeen 1 = .ok (.iconst 0, 1) := by decide +kernel
theorem dX11_isAsSeen_2 : decode cX11_isAsSeen 2 = .ok (.bipush 17, 2) := by decide +kernel
theorem dX11_isAsSeen_4 : decode cX11_isAsSeen 4 = .ok (.invokevirtual 183, 3) := by decide +kernel
theorem dX11_isAsSeen_7 : decode cX11_isAsSeen 7 = .ok (.aload_n 0, 1) := by decide +kernel
theorem dX11_isAsSeen_8 : decode cX11_isAsSeen 8 = .ok (.getfield 7, 3) := by decide +kernel
theorem dX11_isAsSeen_11 : decode cX11_isAsSeen 11 = .ok (.bipush 27, 2) := by decide +kernel
theorem dX11_isAsSeen_13 : decode cX11_isAsSeen 13 = .ok (.dup2, 1) := by decide +kernel
theorem dX11_isAsSeen_14 : decode cX11_isAsSeen 14 = .ok (.iaload, 1) := by decide +kernel
theorem dX11_isAsSeen_15 : decode cX11_isAsSeen 15 = .ok (.iload_n 1, 1) := by decide +kernel
theorem dX11_isAsSeen_16 : decode cX11_isAsSeen 16 = .ok (.ior, 1) := by decide +kernel
theorem dX11_isAsSeen_17 : decode cX11_isAsSeen 17 = .ok (.iastore, 1) := by decide +kernel
theorem dX11_isAsSeen_18 : decode cX11_isAsSeen 18 = .ok (.iconst 1, 1) := by decide +kernel
theorem dX11_isAsSeen_19 : decode cX11_isAsSeen 19 = .ok (.istore_n 2, 1) := by decide +kernel
theorem dX11_isAsSeen_20 : decode cX11_isAsSeen 20 = .ok (.iconst 0, 1) := by decide +kernel
theorem dX11_isAsSeen_21 : decode cX11_isAsSeen 21 = .ok (.istore_n 3, 1) := by decide +kernel
theorem dX11_isAsSeen_22 : decode cX11_isAsSeen 22 = .ok (.iload_n 3, 1) := by decide +kernel
theorem dX11_isAsSeen_23 : decode cX11_isAsSeen 23 = .ok (.aload_n 0, 1) := by decide +kernel
theorem dX11_isAsSeen_24 : decode cX11_isAsSeen 24 = .ok (.getfield 136, 3) := by decide +kernel
theorem dX11_isAsSeen_27 : decode cX11_isAsSeen 27 = .ok (.if_icmp .ge 50, 3) := by decide +kernel
theorem dX11_isAsSeen_30 : decode cX11_isAsSeen 30 = .ok (.iload_n 2, 1) := by decide +kernel
theorem dX11_isAsSeen_31 : decode cX11_isAsSeen 31 = .ok (.ifCond .eq 46, 3) := by decide +kernel
theorem dX11_isAsSeen_34 : decode cX11_isAsSeen 34 = .ok (.aload_n 0, 1) := by decide +kernel
theorem dX11_isAsSeen_35 : decode cX11_isAsSeen 35 = .ok (.bipush 17, 2) := by decide +kernel
theorem dX11_isAsSeen_37 : decode cX11_isAsSeen 37 = .ok (.aload_n 0, 1) := by decide +kernel
theorem dX11_isAsSeen_38 : decode cX11_isAsSeen 38 = .ok (.getfield 42, 3) := by decide +kernel
theorem dX11_isAsSeen_41 : decode cX11_isAsSeen 41 = .ok (.iload_n 3, 1) := by decide +kernel
theorem dX11_isAsSeen_42 : decode cX11_isAsSeen 42 = .ok (.iaload, 1) := by decide +kernel
theorem dX11_isAsSeen_43 : decode cX11_isAsSeen 43 = .ok (.aload_n 0, 1) := by decide +kernel
theorem dX11_isAsSeen_44 : decode cX11_isAsSeen 44 = .ok (.getfield 39, 3) := by decide +kernel
theorem dX11_isAsSeen_47 : decode cX11_isAsSeen 47 = .ok (.iload_n 3, 1) := by decide +kernel
theorem dX11_isAsSeen_48 : decode cX11_isAsSeen 48 = .ok (.iaload, 1) := by decide +kernel
theorem dX11_isAsSeen_49 : decode cX11_isAsSeen 49 = .ok (.iconst 0, 1) := by decide +kernel
theorem dX11_isAsSeen_50 : decode cX11_isAsSeen 50 = .ok (.invokevirtual 159, 3) := by decide +kernel
theorem dX11_isAsSeen_53 : decode cX11_isAsSeen 53 = .ok (.invokestatic 163, 3) := by decide +kernel
theorem dX11_isAsSeen_56 : decode cX11_isAsSeen 56 = .ok (.aload_n 0, 1) := by decide +kernel
theorem dX11_isAsSeen_57 : decode cX11_isAsSeen 57 = .ok (.getfield 45, 3) := by decide +kernel
theorem dX11_isAsSeen_60 : decode cX11_isAsSeen 60 = .ok (.iload_n 3, 1) := by decide +kernel
theorem dX11_isAsSeen_61 : decode cX11_isAsSeen 61 = .ok (.iaload, 1) := by decide +kernel
theorem dX11_isAsSeen_62 : decode cX11_isAsSeen 62 = .ok (.if_icmp .ne 7, 3) := by decide +kernel
theorem dX11_isAsSeen_65 : decode cX11_isAsSeen 65 = .ok (.iconst 1, 1) := by decide +kernel
theorem dX11_isAsSeen_66 : decode cX11_isAsSeen 66 = .ok (.goto 4, 3) := by decide +kernel
theorem dX11_isAsSeen_69 : decode cX11_isAsSeen 69 = .ok (.iconst 0, 1) := by decide +kernel
theorem dX11_isAsSeen_70 : decode cX11_isAsSeen 70 = .ok (.istore_n 2, 1) := by decide +kernel
theorem dX11_isAsSeen_71 : decode cX11_isAsSeen 71 = .ok (.iinc 3 1, 3) := by decide +kernel
theorem dX11_isAsSeen_74 : decode cX11_isAsSeen 74 = .ok (.goto (-52), 3) := by decide +kernel
theorem dX11_isAsSeen_77 : decode cX11_isAsSeen 77 = .ok (.iload_n 2, 1) := by decide +kernel
theorem dX11_isAsSeen_78 : decode cX11_isAsSeen 78 = .ok (.ireturn, 1) := by decide +kernel
theorem dX11_look_0 : decode cX11_look 0 = .ok (.iconst (-1), 1) := by decide +kernel
theorem dX11_look_1 : decode cX11_look 1 = .ok (.istore_n 2, 1) := by decide +kernel
theorem dX11_look_2 : decode cX11_look 2 = .ok (.iload_n 1, 1) := by decide +kernel
theorem dX11_look_3 : decode cX11_look 3 = .ok (.istore_n 3, 1) := by decide +kernel
theorem dX11_look_4 : decode cX11_look 4 = .ok (.iconst 0, 1) := by decide +kernel
theorem dX11_look_5 : decode cX11_look 5 = .ok (.istore 4, 2) := by decide +kernel
theorem dX11_look_7 : decode cX11_look 7 = .ok (.iload 4, 2) := by decide +kernel
theorem dX11_look_9 : decode cX11_look 9 = .ok (.aload_n 0, 1) := by decide +kernel
theorem dX11_look_10 : decode cX11_look 10 = .ok (.getfield 129, 3) := by decide +kernel
theorem dX11_look_13 : decode cX11_look 13 = .ok (.if_icmp .ge 75, 3) := by decide +kernel
theorem dX11_look_16 : decode cX11_look 16 = .ok (.aload_n 0, 1) := by decide +kernel
theorem dX11_look_17 : decode cX11_look 17 = .ok (.getfield 48, 3) := by decide +kernel
theorem dX11_look_20 : decode cX11_look 20 = .ok (.iload 4, 2) := by decide +kernel
theorem dX11_look_22 : decode cX11_look 22 = .ok (.iaload, 1) := by decide +kernel
theorem dX11_look_23 : decode cX11_look 23 = .ok (.iload_n 1, 1) := by decide +kernel
theorem dX11_look_24 : decode cX11_look 24 = .ok (.aload_n 0, 1) := by decide +kernel
theorem dX11_look_25 : decode cX11_look 25 = .ok (.getfield 48, 3) := by decide +kernel
theorem dX11_look_28 : decode cX11_look 28 = .ok (.iload 4, 2) := by decide +kernel
theorem dX11_look_30 : decode cX11_look 30 = .ok (.iaload, 1) := by decide +kernel
theorem dX11_look_31 : decode cX11_look 31 = .ok (.isub, 1) := by decide +kernel
theorem dX11_look_32 : decode cX11_look 32 = .ok (.if_icmp .le 13, 3) := by decide +kernel
theorem dX11_look_35 : decode cX11_look 35 = .ok (.aload_n 0, 1) := by decide +kernel
theorem dX11_look_36 : decode cX11_look 36 = .ok (.getfield 48, 3) := by decide +kernel
theorem dX11_look_39 : decode cX11_look 39 = .ok (.iload 4, 2) := by decide +kernel
theorem dX11_look_41 : decode cX11_look 41 = .ok (.iaload, 1) := by decide +kernel
theorem dX11_look_42 : decode cX11_look 42 = .ok (.goto 12, 3) := by decide +kernel
theorem dX11_look_45 : decode cX11_look 45 = .ok (.iload_n 1, 1) := by decide +kernel
theorem dX11_look_46 : decode cX11_look 46 = .ok (.aload_n 0, 1) := by decide +kernel
theorem dX11_look_47 : decode cX11_look 47 = .ok (.getfield 48, 3) := by decide +kernel
theorem dX11_look_50 : decode cX11_look 50 = .ok (.iload 4, 2) := by decide +kernel
theorem dX11_look_52 : decode cX11_look 52 = .ok (.iaload, 1) := by decide +kernel
theorem dX11_look_53 : decode cX11_look 53 = .ok (.isub, 1) := by decide +kernel
theorem dX11_look_54 : decode cX11_look 54 = .ok (.istore 5, 2) := by decide +kernel
theorem dX11_look_56 : decode cX11_look 56 = .ok (.iload 5, 2) := by decide +kernel
theorem dX11_look_58 : decode cX11_look 58 = .ok (.iload_n 3, 1) := by decide +kernel
theorem dX11_look_59 : decode cX11_look 59 = .ok (.if_icmp .ge 8, 3) := by decide +kernel
theorem dX11_look_62 : decode cX11_look 62 = .ok (.iload 4, 2) := by decide +kernel
theorem dX11_look_64 : decode cX11_look 64 = .ok (.goto 4, 3) := by decide +kernel
theorem dX11_look_67 : decode cX11_look 67 = .ok (.iload_n 2, 1) := by decide +kernel
theorem dX11_look_68 : decode cX11_look 68 = .ok (.istore_n 2, 1) := by decide +kernel
theorem dX11_look_69 : decode cX11_look 69 = .ok (.iload 5, 2) := by decide +kernel
theorem dX11_look_71 : decode cX11_look 71 = .ok (.iload_n 3, 1) := by decide +kernel
theorem dX11_look_72 : decode cX11_look 72 = .ok (.if_icmp .ge 8, 3) := by decide +kernel
theorem dX11_look_75 : decode cX11_look 75 = .ok (.iload 5, 2) := by decide +kernel
theorem dX11_look_77 : decode cX11_look 77 = .ok (.goto 4, 3) := by decide +kernel
theorem dX11_look_80 : decode cX11_look 80 = .ok (.iload_n 3, 1) := by decide +kernel
theorem dX11_look_81 : decode cX11_look 81 = .ok (.istore_n 3, 1) := by decide +kernel
theorem dX11_look_82 : decode cX11_look 82 = .ok (.iinc 4 1, 3) := by decide +kernel
theorem dX11_look_85 : decode cX11_look 85 = .ok (.goto (-78), 3) := by decide +kernel
theorem dX11_look_88 : decode cX11_look 88 = .ok (.iload_n 2, 1) := by decide +kernel
theorem dX11_look_89 : decode cX11_look 89 = .ok (.ireturn, 1) := by decide +kernel
theorem dX11_addTo_0 : decode cX11_addTo 0 = .ok (.iconst 0, 1) := by decide +kernel
theorem dX11_addTo_1 : decode cX11_addTo 1 = .ok (.istore_n 2, 1) := by decide +kernel
theorem dX11_addTo_2 : decode cX11_addTo 2 = .ok (.iload_n 2, 1) := by decide +kernel
theorem dX11_addTo_3 : decode cX11_addTo 3 = .ok (.bipush 9, 2) := by decide +kernel
theorem dX11_addTo_5 : decode cX11_addTo 5 = .ok (.if_icmp .ge 23, 3) := by decide +kernel
theorem dX11_addTo_8 : decode cX11_addTo 8 = .ok (.aload_n 0, 1) := by decide +kernel
theorem dX11_addTo_9 : decode cX11_addTo 9 = .ok (.getfield 48, 3) := by decide +kernel
theorem dX11_addTo_12 : decode cX11_addTo 12 = .ok (.iload_n 2, 1) := by decide +kernel
theorem dX11_addTo_13 : decode cX11_addTo 13 = .ok (.dup2, 1) := by decide +kernel
theorem dX11_addTo_14 : decode cX11_addTo 14 = .ok (.iaload, 1) := by decide +kernel
theorem dX11_addTo_15 : decode cX11_addTo 15 = .ok (.iload_n 1, 1) := by decide +kernel
theorem dX11_addTo_16 : decode cX11_addTo 16 = .ok (.iload_n 2, 1) := by decide +kernel
theorem dX11_addTo_17 : decode cX11_addTo 17 = .ok (.ishr, 1) := by decide +kernel
theorem dX11_addTo_18 : decode cX11_addTo 18 = .ok (.iconst 1, 1) := by decide +kernel
theorem dX11_addTo_19 : decode cX11_addTo 19 = .ok (.iand, 1) := by decide +kernel
theorem dX11_addTo_20 : decode cX11_addTo 20 = .ok (.iadd, 1) := by decide +kernel
theorem dX11_addTo_21 : decode cX11_addTo 21 = .ok (.iastore, 1) := by decide +kernel
theorem dX11_addTo_22 : decode cX11_addTo 22 = .ok (.iinc 2 1, 3) := by decide +kernel
theorem dX11_addTo_25 : decode cX11_addTo 25 = .ok (.goto (-23), 3) := by decide +kernel
theorem dX11_addTo_28 : decode cX11_addTo 28 = .ok (.return_, 1) := by decide +kernel
set_option maxRecDepth 20000 in
theorem ggX11_behind_X11_mayKeep : GoodIn wsX11_behind wsX11_mayKeep := goodIn_r _ [7, 8, 9, 10, 6, 11, 51, 52, 53, 54, 55, 56, 57, 58, 59, 60, 61, 62, 63, 64, 65, 66, 67, 68, 69, 70, 71, 72, 73, 74, 75, 76, 77, 78, 79] (by decide +kernel) (by decide +kernel)
set_option maxRecDepth 20000 in
theorem gX11_behind_X11_mayKeep : GoodIn wsX11_behind (wsV RX11 227 RX11 yX11_mayKeep wsX11_mayKeep) := goodIn_app (goodIn_of _ (by decide +kernel)) ggX11_behind_X11_mayKeep
set_option maxRecDepth 20000 in
theorem ggX11_behind_X11_isAsSeen : GoodIn wsX11_behind wsX11_isAsSeen := goodIn_r _ [15, 8, 16, 17, 18, 19, 20, 21, 22, 6, 23, 24, 25, 26, 27, 28, 29, 30, 31, 2, 32, 33, 34, 35, 36, 37, 38, 39, 40, 41, 42, 9, 10, 11, 51, 52, 53, 54, 55, 56, 57, 58, 59, 60, 61, 62, 63, 64, 65, 66, 67, 68, 69, 70, 71, 72, 73, 74, 75, 76, 77, 78, 79] (by decide +kernel) (by decide +kernel)
set_option maxRecDepth 20000 in
theorem gX11_behind_X11_isAsSeen : GoodIn wsX11_behind (wsV RX11 249 RX11 yX11_isAsSeen wsX11_isAsSeen) := goodIn_app (goodIn_of _ (by decide +kernel)) ggX11_behind_X11_isAsSeen
set_option maxRecDepth 20000 in
theorem ggX11_behind_X11_addTo : GoodIn wsX11_behind wsX11_addTo := goodIn_r _ [46, 1, 51, 52, 53, 54, 55, 56, 57, 58, 59, 60, 61, 62, 63, 64, 65, 66, 67, 68, 69, 70, 71, 72, 73, 74, 75, 76, 77, 78, 79] (by decide +kernel) (by decide +kernel)
set_option maxRecDepth 20000 in
theorem gX11_behind_X11_addTo : GoodIn wsX11_behind (wsV RX11 252 RX11 yX11_addTo wsX11_addTo) := goodIn_app (goodIn_of _ (by decide +kernel)) ggX11_behind_X11_addTo
set_option maxRecDepth 20000 in
theorem ggX11_behind_X11_look : GoodIn wsX11_behind wsX11_look := goodIn_r _ [50, 2, 1, 51, 52, 53, 54, 55, 56, 57, 58, 59, 60, 61, 62, 63, 64, 65, 66, 67, 68, 69, 70, 71, 72, 73, 74, 75, 76, 77, 78, 79] (by decide +kernel) (by decide +kernel)
set_option maxRecDepth 20000 in
theorem gX11_behind_X11_look : GoodIn wsX11_behind (wsV RX11 255 RX11 yX11_look wsX11_look) := goodIn_app (goodIn_of _ (by decide +kernel)) ggX11_behind_X11_look
theorem dX11_behind_0 : decode cX11_behind 0 = .ok (.iconst 0, 1) := by decide +kernel
theorem dX11_behind_1 : decode cX11_behind 1 = .ok (.istore_n 2, 1) := by decide +kernel
theorem dX11_behind_2 : decode cX11_behind 2 = .ok (.iconst (-1), 1) := by decide +kernel
theorem dX11_behind_3 : decode cX11_behind 3 = .ok (.istore_n 3, 1) := by decide +kernel
theorem dX11_behind_4 : decode cX11_behind 4 = .ok (.iconst 0, 1) := by decide +kernel
theorem dX11_behind_5 : decode cX11_behind 5 = .ok (.istore 4, 2) := by decide +kernel
theorem dX11_behind_7 : decode cX11_behind 7 = .ok (.iload 4, 2) := by decide +kernel
theorem dX11_behind_9 : decode cX11_behind 9 = .ok (.bipush 9, 2) := by decide +kernel
theorem dX11_behind_11 : decode cX11_behind 11 = .ok (.if_icmp .ge 17, 3) := by decide +kernel
theorem dX11_behind_14 : decode cX11_behind 14 = .ok (.aload_n 0, 1) := by decide +kernel
theorem dX11_behind_15 : decode cX11_behind 15 = .ok (.getfield 48, 3) := by decide +kernel
theorem dX11_behind_18 : decode cX11_behind 18 = .ok (.iload 4, 2) := by decide +kernel
theorem dX11_behind_20 : decode cX11_behind 20 = .ok (.iconst 0, 1) := by decide +kernel
theorem dX11_behind_21 : decode cX11_behind 21 = .ok (.iastore, 1) := by decide +kernel
theorem dX11_behind_22 : decode cX11_behind 22 = .ok (.iinc 4 1, 3) := by decide +kernel
theorem dX11_behind_25 : decode cX11_behind 25 = .ok (.goto (-18), 3) := by decide +kernel
theorem dX11_behind_28 : decode cX11_behind 28 = .ok (.iconst 0, 1) := by decide +kernel
theorem dX11_behind_29 : decode cX11_behind 29 = .ok (.istore 4, 2) := by decide +kernel
theorem dX11_behind_31 : decode cX11_behind 31 = .ok (.iload 4, 2) := by decide +kernel
theorem dX11_behind_33 : decode cX11_behind 33 = .ok (.iconst 3, 1) := by decide +kernel
theorem dX11_behind_34 : decode cX11_behind 34 = .ok (.if_icmp .ge 70, 3) := by decide +kernel
theorem dX11_behind_37 : decode cX11_behind 37 = .ok (.iconst 0, 1) := by decide +kernel
theorem dX11_behind_38 : decode cX11_behind 38 = .ok (.istore 5, 2) := by decide +kernel
theorem dX11_behind_40 : decode cX11_behind 40 = .ok (.iload 5, 2) := by decide +kernel
theorem dX11_behind_42 : decode cX11_behind 42 = .ok (.iconst 1, 1) := by decide +kernel
theorem dX11_behind_43 : decode cX11_behind 43 = .ok (.aload_n 0, 1) := by decide +kernel
theorem dX11_behind_44 : decode cX11_behind 44 = .ok (.getfield 129, 3) := by decide +kernel
theorem dX11_behind_47 : decode cX11_behind 47 = .ok (.ishl, 1) := by decide +kernel
theorem dX11_behind_48 : decode cX11_behind 48 = .ok (.if_icmp .ge 50, 3) := by decide +kernel
theorem dX11_behind_51 : decode cX11_behind 51 = .ok (.aload_n 0, 1) := by decide +kernel
theorem dX11_behind_52 : decode cX11_behind 52 = .ok (.iload 5, 2) := by decide +kernel
theorem dX11_behind_54 : decode cX11_behind 54 = .ok (.iload 4, 2) := by decide +kernel
theorem dX11_behind_56 : decode cX11_behind 56 = .ok (.invokevirtual 227, 3) := by decide +kernel
theorem dX11_behind_59 : decode cX11_behind 59 = .ok (.ifCond .eq 33, 3) := by decide +kernel
theorem dX11_behind_62 : decode cX11_behind 62 = .ok (.aload_n 0, 1) := by decide +kernel
theorem dX11_behind_63 : decode cX11_behind 63 = .ok (.iload 5, 2) := by decide +kernel
theorem dX11_behind_65 : decode cX11_behind 65 = .ok (.invokevirtual 249, 3) := by decide +kernel
theorem dX11_behind_68 : decode cX11_behind 68 = .ok (.ifCond .eq 24, 3) := by decide +kernel
theorem dX11_behind_71 : decode cX11_behind 71 = .ok (.iload_n 2, 1) := by decide +kernel
theorem dX11_behind_72 : decode cX11_behind 72 = .ok (.iload_n 1, 1) := by decide +kernel
theorem dX11_behind_73 : decode cX11_behind 73 = .ok (.if_icmp .ne 8, 3) := by decide +kernel
theorem dX11_behind_76 : decode cX11_behind 76 = .ok (.iload 5, 2) := by decide +kernel
theorem dX11_behind_78 : decode cX11_behind 78 = .ok (.goto 4, 3) := by decide +kernel
theorem dX11_behind_81 : decode cX11_behind 81 = .ok (.iload_n 3, 1) := by decide +kernel
theorem dX11_behind_82 : decode cX11_behind 82 = .ok (.istore_n 3, 1) := by decide +kernel
theorem dX11_behind_83 : decode cX11_behind 83 = .ok (.iinc 2 1, 3) := by decide +kernel
theorem dX11_behind_86 : decode cX11_behind 86 = .ok (.aload_n 0, 1) := by decide +kernel
theorem dX11_behind_87 : decode cX11_behind 87 = .ok (.iload 5, 2) := by decide +kernel
theorem dX11_behind_89 : decode cX11_behind 89 = .ok (.invokevirtual 252, 3) := by decide +kernel
theorem dX11_behind_92 : decode cX11_behind 92 = .ok (.iinc 5 1, 3) := by decide +kernel
theorem dX11_behind_95 : decode cX11_behind 95 = .ok (.goto (-55), 3) := by decide +kernel
theorem dX11_behind_98 : decode cX11_behind 98 = .ok (.iinc 4 1, 3) := by decide +kernel
theorem dX11_behind_101 : decode cX11_behind 101 = .ok (.goto (-70), 3) := by decide +kernel
theorem dX11_behind_104 : decode cX11_behind 104 = .ok (.iload_n 1, 1) := by decide +kernel
theorem dX11_behind_105 : decode cX11_behind 105 = .ok (.iconst (-1), 1) := by decide +kernel
theorem dX11_behind_106 : decode cX11_behind 106 = .ok (.if_icmp .ne 7, 3) := by decide +kernel
theorem dX11_behind_109 : decode cX11_behind 109 = .ok (.iload_n 2, 1) := by decide +kernel
theorem dX11_behind_110 : decode cX11_behind 110 = .ok (.goto 18, 3) := by decide +kernel
theorem dX11_behind_113 : decode cX11_behind 113 = .ok (.iload_n 1, 1) := by decide +kernel
theorem dX11_behind_114 : decode cX11_behind 114 = .ok (.bipush (-2), 2) := by decide +kernel
theorem dX11_behind_116 : decode cX11_behind 116 = .ok (.if_icmp .ne 11, 3) := by decide +kernel
theorem dX11_behind_119 : decode cX11_behind 119 = .ok (.aload_n 0, 1) := by decide +kernel
theorem dX11_behind_120 : decode cX11_behind 120 = .ok (.iload_n 2, 1) := by decide +kernel
theorem dX11_behind_121 : decode cX11_behind 121 = .ok (.invokevirtual 255, 3) := by decide +kernel
theorem dX11_behind_124 : decode cX11_behind 124 = .ok (.goto 4, 3) := by decide +kernel
theorem dX11_behind_127 : decode cX11_behind 127 = .ok (.iload_n 3, 1) := by decide +kernel
theorem dX11_behind_128 : decode cX11_behind 128 = .ok (.ireturn, 1) := by decide +kernel
set_option maxRecDepth 20000 in
theorem ggX11_write_X11_in : GoodIn wsX11_write wsX11_in := goodIn_r _ [9] (by decide +kernel) (by decide +kernel)
set_option maxRecDepth 20000 in
theorem gX11_write_X11_in : GoodIn wsX11_write (va_wsS RX11 60 yX11_in wsX11_in) := goodIn_app (goodIn_of _ (by decide +kernel)) ggX11_write_X11_in
theorem dX11_write_0 : decode cX11_write 0 = .ok (.iload_n 1, 1) := by decide +kernel
theorem dX11_write_1 : decode cX11_write 1 = .ok (.i2l, 1) := by decide +kernel
theorem dX11_write_2 : decode cX11_write 2 = .ok (.lconst 0, 1) := by decide +kernel
theorem dX11_write_3 : decode cX11_write 3 = .ok (.ldc2_w 58, 3) := by decide +kernel
theorem dX11_write_6 : decode cX11_write 6 = .ok (.invokestatic 60, 3) := by decide +kernel
theorem dX11_write_9 : decode cX11_write 9 = .ok (.ifCond .ne 6, 3) := by decide +kernel
theorem dX11_write_12 : decode cX11_write 12 = .ok (.ldc 64, 2) := by decide +kernel
theorem dX11_write_14 : decode cX11_write 14 = .ok (.ireturn, 1) := by decide +kernel
theorem dX11_write_15 : decode cX11_write 15 = .ok (.aload_n 0, 1) := by decide +kernel
theorem dX11_write_16 : decode cX11_write 16 = .ok (.getfield 139, 3) := by decide +kernel
theorem dX11_write_19 : decode cX11_write 19 = .ok (.bipush 20, 2) := by decide +kernel
theorem dX11_write_21 : decode cX11_write 21 = .ok (.if_icmp .ne 6, 3) := by decide +kernel
theorem dX11_write_24 : decode cX11_write 24 = .ok (.ldc 68, 2) := by decide +kernel
theorem dX11_write_26 : decode cX11_write 26 = .ok (.ireturn, 1) := by decide +kernel
theorem dX11_write_27 : decode cX11_write 27 = .ok (.aload_n 0, 1) := by decide +kernel
theorem dX11_write_28 : decode cX11_write 28 = .ok (.getfield 51, 3) := by decide +kernel
theorem dX11_write_31 : decode cX11_write 31 = .ok (.aload_n 0, 1) := by decide +kernel
theorem dX11_write_32 : decode cX11_write 32 = .ok (.getfield 139, 3) := by decide +kernel
theorem dX11_write_35 : decode cX11_write 35 = .ok (.iload_n 1, 1) := by decide +kernel
theorem dX11_write_36 : decode cX11_write 36 = .ok (.iastore, 1) := by decide +kernel
theorem dX11_write_37 : decode cX11_write 37 = .ok (.aload_n 0, 1) := by decide +kernel
theorem dX11_write_38 : decode cX11_write 38 = .ok (.dup, 1) := by decide +kernel
theorem dX11_write_39 : decode cX11_write 39 = .ok (.getfield 139, 3) := by decide +kernel
theorem dX11_write_42 : decode cX11_write 42 = .ok (.iconst 1, 1) := by decide +kernel
theorem dX11_write_43 : decode cX11_write 43 = .ok (.iadd, 1) := by decide +kernel
theorem dX11_write_44 : decode cX11_write 44 = .ok (.putfield 139, 3) := by decide +kernel
theorem dX11_write_47 : decode cX11_write 47 = .ok (.aload_n 0, 1) := by decide +kernel
theorem dX11_write_48 : decode cX11_write 48 = .ok (.getfield 139, 3) := by decide +kernel
theorem dX11_write_51 : decode cX11_write 51 = .ok (.ireturn, 1) := by decide +kernel
theorem dX11_judge_0 : decode cX11_judge 0 = .ok (.iconst 0, 1) := by decide +kernel
theorem dX11_judge_1 : decode cX11_judge 1 = .ok (.istore_n 1, 1) := by decide +kernel
theorem dX11_judge_2 : decode cX11_judge 2 = .ok (.iload_n 1, 1) := by decide +kernel
theorem dX11_judge_3 : decode cX11_judge 3 = .ok (.aload_n 0, 1) := by decide +kernel
theorem dX11_judge_4 : decode cX11_judge 4 = .ok (.getfield 139, 3) := by decide +kernel
theorem dX11_judge_7 : decode cX11_judge 7 = .ok (.if_icmp .ge 27, 3) := by decide +kernel
theorem dX11_judge_10 : decode cX11_judge 10 = .ok (.aload_n 0, 1) := by decide +kernel
theorem dX11_judge_11 : decode cX11_judge 11 = .ok (.getfield 51, 3) := by decide +kernel
theorem dX11_judge_14 : decode cX11_judge 14 = .ok (.iload_n 1, 1) := by decide +kernel
theorem dX11_judge_15 : decode cX11_judge 15 = .ok (.iaload, 1) := by decide +kernel
theorem dX11_judge_16 : decode cX11_judge 16 = .ok (.aload_n 0, 1) := by decide +kernel
theorem dX11_judge_17 : decode cX11_judge 17 = .ok (.getfield 7, 3) := by decide +kernel
theorem dX11_judge_20 : decode cX11_judge 20 = .ok (.bipush 14, 2) := by decide +kernel
theorem dX11_judge_22 : decode cX11_judge 22 = .ok (.iaload, 1) := by decide +kernel
theorem dX11_judge_23 : decode cX11_judge 23 = .ok (.if_icmp .eq 5, 3) := by decide +kernel
theorem dX11_judge_26 : decode cX11_judge 26 = .ok (.iload_n 1, 1) := by decide +kernel
theorem dX11_judge_27 : decode cX11_judge 27 = .ok (.ireturn, 1) := by decide +kernel
theorem dX11_judge_28 : decode cX11_judge 28 = .ok (.iinc 1 1, 3) := by decide +kernel
theorem dX11_judge_31 : decode cX11_judge 31 = .ok (.goto (-29), 3) := by decide +kernel
theorem dX11_judge_34 : decode cX11_judge 34 = .ok (.iconst (-1), 1) := by decide +kernel
theorem dX11_judge_35 : decode cX11_judge 35 = .ok (.ireturn, 1) := by decide +kernel
theorem dX11_tear_0 : decode cX11_tear 0 = .ok (.aload_n 0, 1) := by decide +kernel
theorem dX11_tear_1 : decode cX11_tear 1 = .ok (.getfield 136, 3) := by decide +kernel
theorem dX11_tear_4 : decode cX11_tear 4 = .ok (.aload_n 0, 1) := by decide +kernel
theorem dX11_tear_5 : decode cX11_tear 5 = .ok (.getfield 139, 3) := by decide +kernel
theorem dX11_tear_8 : decode cX11_tear 8 = .ok (.iadd, 1) := by decide +kernel
theorem dX11_tear_9 : decode cX11_tear 9 = .ok (.istore_n 1, 1) := by decide +kernel
theorem dX11_tear_10 : decode cX11_tear 10 = .ok (.aload_n 0, 1) := by decide +kernel
theorem dX11_tear_11 : decode cX11_tear 11 = .ok (.iconst 0, 1) := by decide +kernel
theorem dX11_tear_12 : decode cX11_tear 12 = .ok (.putfield 136, 3) := by decide +kernel
theorem dX11_tear_15 : decode cX11_tear 15 = .ok (.aload_n 0, 1) := by decide +kernel
theorem dX11_tear_16 : decode cX11_tear 16 = .ok (.iconst 0, 1) := by decide +kernel
theorem dX11_tear_17 : decode cX11_tear 17 = .ok (.putfield 139, 3) := by decide +kernel
theorem dX11_tear_20 : decode cX11_tear 20 = .ok (.iload_n 1, 1) := by decide +kernel
theorem dX11_tear_21 : decode cX11_tear 21 = .ok (.ireturn, 1) := by decide +kernel
theorem dX11_seed_0 : decode cX11_seed 0 = .ok (.iload_n 1, 1) := by decide +kernel
theorem dX11_seed_1 : decode cX11_seed 1 = .ok (.ifCond .ge 6, 3) := by decide +kernel
theorem dX11_seed_4 : decode cX11_seed 4 = .ok (.ldc 64, 2) := by decide +kernel
theorem dX11_seed_6 : decode cX11_seed 6 = .ok (.ireturn, 1) := by decide +kernel
theorem dX11_seed_7 : decode cX11_seed 7 = .ok (.aload_n 0, 1) := by decide +kernel
theorem dX11_seed_8 : decode cX11_seed 8 = .ok (.getfield 7, 3) := by decide +kernel
theorem dX11_seed_11 : decode cX11_seed 11 = .ok (.bipush 16, 2) := by decide +kernel
theorem dX11_seed_13 : decode cX11_seed 13 = .ok (.iaload, 1) := by decide +kernel
theorem dX11_seed_14 : decode cX11_seed 14 = .ok (.istore_n 2, 1) := by decide +kernel
theorem dX11_seed_15 : decode cX11_seed 15 = .ok (.aload_n 0, 1) := by decide +kernel
theorem dX11_seed_16 : decode cX11_seed 16 = .ok (.getfield 7, 3) := by decide +kernel
theorem dX11_seed_19 : decode cX11_seed 19 = .ok (.bipush 16, 2) := by decide +kernel
theorem dX11_seed_21 : decode cX11_seed 21 = .ok (.iload_n 1, 1) := by decide +kernel
theorem dX11_seed_22 : decode cX11_seed 22 = .ok (.iastore, 1) := by decide +kernel
theorem dX11_seed_23 : decode cX11_seed 23 = .ok (.iload_n 2, 1) := by decide +kernel
theorem dX11_seed_24 : decode cX11_seed 24 = .ok (.ireturn, 1) := by decide +kernel
set_option maxRecDepth 20000 in
theorem ggX11_keep_X11_in : GoodIn wsX11_keep wsX11_in := goodIn_r _ [7] (by decide +kernel) (by decide +kernel)
set_option maxRecDepth 20000 in
theorem gX11_keep_X11_in : GoodIn wsX11_keep (va_wsS RX11 60 yX11_in wsX11_in) := goodIn_app (goodIn_of _ (by decide +kernel)) ggX11_keep_X11_in
set_option maxRecDepth 20000 in
theorem ggX11_keep_X11_copy : GoodIn wsX11_keep wsX11_copy := goodIn_r _ [11, 12, 13, 14, 15, 16, 17, 18, 19, 20, 21, 22, 23, 24, 25, 26, 27, 28, 29, 30, 31, 32, 33, 34, 35, 36, 37, 38, 39, 40, 41] (by decide +kernel) (by decide +kernel)
set_option maxRecDepth 20000 in
theorem gX11_keep_X11_copy : GoodIn wsX11_keep (wsV RX11 183 RX11 yX11_copy wsX11_copy) := goodIn_app (goodIn_of _ (by decide +kernel)) ggX11_keep_X11_copy
theorem dX11_keep_0 : decode cX11_keep 0 = .ok (.iload_n 1, 1) := by decide +kernel
theorem dX11_keep_1 : decode cX11_keep 1 = .ok (.i2l, 1) := by decide +kernel
theorem dX11_keep_2 : decode cX11_keep 2 = .ok (.lconst 0, 1) := by decide +kernel
theorem dX11_keep_3 : decode cX11_keep 3 = .ok (.lconst 1, 1) := by decide +kernel
theorem dX11_keep_4 : decode cX11_keep 4 = .ok (.invokestatic 60, 3) := by decide +kernel
theorem dX11_keep_7 : decode cX11_keep 7 = .ok (.ifCond .ne 6, 3) := by decide +kernel
theorem dX11_keep_10 : decode cX11_keep 10 = .ok (.ldc 149, 2) := by decide +kernel
theorem dX11_keep_12 : decode cX11_keep 12 = .ok (.ireturn, 1) := by decide +kernel
theorem dX11_keep_13 : decode cX11_keep 13 = .ok (.aload_n 0, 1) := by decide +kernel
theorem dX11_keep_14 : decode cX11_keep 14 = .ok (.iconst 0, 1) := by decide +kernel
theorem dX11_keep_15 : decode cX11_keep 15 = .ok (.bipush 34, 2) := by decide +kernel
theorem dX11_keep_17 : decode cX11_keep 17 = .ok (.bipush 17, 2) := by decide +kernel
theorem dX11_keep_19 : decode cX11_keep 19 = .ok (.iload_n 1, 1) := by decide +kernel
theorem dX11_keep_20 : decode cX11_keep 20 = .ok (.imul, 1) := by decide +kernel
theorem dX11_keep_21 : decode cX11_keep 21 = .ok (.iadd, 1) := by decide +kernel
theorem dX11_keep_22 : decode cX11_keep 22 = .ok (.invokevirtual 183, 3) := by decide +kernel
theorem dX11_keep_25 : decode cX11_keep 25 = .ok (.aload_n 0, 1) := by decide +kernel
theorem dX11_keep_26 : decode cX11_keep 26 = .ok (.getfield 13, 3) := by decide +kernel
theorem dX11_keep_29 : decode cX11_keep 29 = .ok (.iload_n 1, 1) := by decide +kernel
theorem dX11_keep_30 : decode cX11_keep 30 = .ok (.iconst 1, 1) := by decide +kernel
theorem dX11_keep_31 : decode cX11_keep 31 = .ok (.bastore, 1) := by decide +kernel
theorem dX11_keep_32 : decode cX11_keep 32 = .ok (.aload_n 0, 1) := by decide +kernel
theorem dX11_keep_33 : decode cX11_keep 33 = .ok (.iconst 0, 1) := by decide +kernel
theorem dX11_keep_34 : decode cX11_keep 34 = .ok (.putfield 142, 3) := by decide +kernel
theorem dX11_keep_37 : decode cX11_keep 37 = .ok (.iconst 1, 1) := by decide +kernel
theorem dX11_keep_38 : decode cX11_keep 38 = .ok (.ireturn, 1) := by decide +kernel
set_option maxRecDepth 20000 in
theorem ggX11_goBack_X11_in : GoodIn wsX11_goBack wsX11_in := goodIn_r _ [8] (by decide +kernel) (by decide +kernel)
set_option maxRecDepth 20000 in
theorem gX11_goBack_X11_in : GoodIn wsX11_goBack (va_wsS RX11 60 yX11_in wsX11_in) := goodIn_app (goodIn_of _ (by decide +kernel)) ggX11_goBack_X11_in
set_option maxRecDepth 20000 in
theorem ggX11_goBack_X11_copy : GoodIn wsX11_goBack wsX11_copy := goodIn_r _ [12, 13, 14, 15, 16, 17, 18, 19, 20, 21, 22, 23, 24, 25, 26, 27, 28, 29, 30, 31, 32, 33, 34, 35, 36, 37, 38, 39, 40, 41, 42] (by decide +kernel) (by decide +kernel)
set_option maxRecDepth 20000 in
theorem gX11_goBack_X11_copy : GoodIn wsX11_goBack (wsV RX11 183 RX11 yX11_copy wsX11_copy) := goodIn_app (goodIn_of _ (by decide +kernel)) ggX11_goBack_X11_copy
theorem dX11_goBack_0 : decode cX11_goBack 0 = .ok (.iload_n 1, 1) := by decide +kernel
theorem dX11_goBack_1 : decode cX11_goBack 1 = .ok (.i2l, 1) := by decide +kernel
theorem dX11_goBack_2 : decode cX11_goBack 2 = .ok (.lconst 0, 1) := by decide +kernel
theorem dX11_goBack_3 : decode cX11_goBack 3 = .ok (.lconst 1, 1) := by decide +kernel
theorem dX11_goBack_4 : decode cX11_goBack 4 = .ok (.invokestatic 60, 3) := by decide +kernel
theorem dX11_goBack_7 : decode cX11_goBack 7 = .ok (.ifCond .ne 6, 3) := by decide +kernel
theorem dX11_goBack_10 : decode cX11_goBack 10 = .ok (.ldc 149, 2) := by decide +kernel
theorem dX11_goBack_12 : decode cX11_goBack 12 = .ok (.ireturn, 1) := by decide +kernel
theorem dX11_goBack_13 : decode cX11_goBack 13 = .ok (.aload_n 0, 1) := by decide +kernel
theorem dX11_goBack_14 : decode cX11_goBack 14 = .ok (.getfield 13, 3) := by decide +kernel
theorem dX11_goBack_17 : decode cX11_goBack 17 = .ok (.iload_n 1, 1) := by decide +kernel
theorem dX11_goBack_18 : decode cX11_goBack 18 = .ok (.baload, 1) := by decide +kernel
theorem dX11_goBack_19 : decode cX11_goBack 19 = .ok (.ifCond .ne 6, 3) := by decide +kernel
theorem dX11_goBack_22 : decode cX11_goBack 22 = .ok (.ldc 200, 2) := by decide +kernel
theorem dX11_goBack_24 : decode cX11_goBack 24 = .ok (.ireturn, 1) := by decide +kernel
theorem dX11_goBack_25 : decode cX11_goBack 25 = .ok (.aload_n 0, 1) := by decide +kernel
theorem dX11_goBack_26 : decode cX11_goBack 26 = .ok (.bipush 34, 2) := by decide +kernel
theorem dX11_goBack_28 : decode cX11_goBack 28 = .ok (.bipush 17, 2) := by decide +kernel
theorem dX11_goBack_30 : decode cX11_goBack 30 = .ok (.iload_n 1, 1) := by decide +kernel
theorem dX11_goBack_31 : decode cX11_goBack 31 = .ok (.imul, 1) := by decide +kernel
theorem dX11_goBack_32 : decode cX11_goBack 32 = .ok (.iadd, 1) := by decide +kernel
theorem dX11_goBack_33 : decode cX11_goBack 33 = .ok (.iconst 0, 1) := by decide +kernel
theorem dX11_goBack_34 : decode cX11_goBack 34 = .ok (.invokevirtual 183, 3) := by decide +kernel
