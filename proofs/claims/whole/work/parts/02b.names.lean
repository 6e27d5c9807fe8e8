theorem dX3_remember_41 : decode cX3_remember 41 = .ok (.getfield 22, 3) := by decide +kernel
theorem dX3_remember_44 : decode cX3_remember 44 = .ok (.iconst 1, 1) := by decide +kernel
theorem dX3_remember_45 : decode cX3_remember 45 = .ok (.iadd, 1) := by decide +kernel
theorem dX3_remember_46 : decode cX3_remember 46 = .ok (.bipush 30, 2) := by decide +kernel
theorem dX3_remember_48 : decode cX3_remember 48 = .ok (.if_icmp .ge 12, 3) := by decide +kernel
theorem dX3_remember_51 : decode cX3_remember 51 = .ok (.aload_n 0, 1) := by decide +kernel
theorem dX3_remember_52 : decode cX3_remember 52 = .ok (.getfield 22, 3) := by decide +kernel
theorem dX3_remember_55 : decode cX3_remember 55 = .ok (.iconst 1, 1) := by decide +kernel
theorem dX3_remember_56 : decode cX3_remember 56 = .ok (.iadd, 1) := by decide +kernel
theorem dX3_remember_57 : decode cX3_remember 57 = .ok (.goto 4, 3) := by decide +kernel
theorem dX3_remember_60 : decode cX3_remember 60 = .ok (.iconst 0, 1) := by decide +kernel
theorem dX3_remember_61 : decode cX3_remember 61 = .ok (.putfield 22, 3) := by decide +kernel
theorem dX3_remember_64 : decode cX3_remember 64 = .ok (.aload_n 0, 1) := by decide +kernel
theorem dX3_remember_65 : decode cX3_remember 65 = .ok (.aload_n 0, 1) := by decide +kernel
theorem dX3_remember_66 : decode cX3_remember 66 = .ok (.getfield 18, 3) := by decide +kernel
theorem dX3_remember_69 : decode cX3_remember 69 = .ok (.iconst 1, 1) := by decide +kernel
theorem dX3_remember_70 : decode cX3_remember 70 = .ok (.iadd, 1) := by decide +kernel
theorem dX3_remember_71 : decode cX3_remember 71 = .ok (.bipush 30, 2) := by decide +kernel
theorem dX3_remember_73 : decode cX3_remember 73 = .ok (.invokestatic 29, 3) := by decide +kernel
theorem dX3_remember_76 : decode cX3_remember 76 = .ok (.putfield 18, 3) := by decide +kernel
theorem dX3_remember_79 : decode cX3_remember 79 = .ok (.return_, 1) := by decide +kernel
set_option maxRecDepth 20000 in
theorem ggX3_takeBack_X6_become : GoodIn wsX3_takeBack wsX6_become := goodIn_r _ [8, 9, 10, 11, 12, 13, 14, 15, 16, 17, 18, 19, 23, 24, 25, 26, 27, 28, 29, 30] (by decide +kernel) (by decide +kernel)
set_option maxRecDepth 20000 in
theorem gX3_takeBack_X6_become : GoodIn wsX3_takeBack (wsV RX3 25 RX6 yX6_become wsX6_become) := goodIn_app (goodIn_of _ (by decide +kernel)) ggX3_takeBack_X6_become
theorem dX3_takeBack_0 : decode cX3_takeBack 0 = .ok (.aload_n 0, 1) := by decide +kernel
theorem dX3_takeBack_1 : decode cX3_takeBack 1 = .ok (.getfield 22, 3) := by decide +kernel
theorem dX3_takeBack_4 : decode cX3_takeBack 4 = .ok (.iload_n 1, 1) := by decide +kernel
theorem dX3_takeBack_5 : decode cX3_takeBack 5 = .ok (.isub, 1) := by decide +kernel
theorem dX3_takeBack_6 : decode cX3_takeBack 6 = .ok (.ifCond .ge 15, 3) := by decide +kernel
theorem dX3_takeBack_9 : decode cX3_takeBack 9 = .ok (.aload_n 0, 1) := by decide +kernel
theorem dX3_takeBack_10 : decode cX3_takeBack 10 = .ok (.getfield 22, 3) := by decide +kernel
theorem dX3_takeBack_13 : decode cX3_takeBack 13 = .ok (.iload_n 1, 1) := by decide +kernel
theorem dX3_takeBack_14 : decode cX3_takeBack 14 = .ok (.isub, 1) := by decide +kernel
theorem dX3_takeBack_15 : decode cX3_takeBack 15 = .ok (.bipush 30, 2) := by decide +kernel
theorem dX3_takeBack_17 : decode cX3_takeBack 17 = .ok (.iadd, 1) := by decide +kernel
theorem dX3_takeBack_18 : decode cX3_takeBack 18 = .ok (.goto 9, 3) := by decide +kernel
theorem dX3_takeBack_21 : decode cX3_takeBack 21 = .ok (.aload_n 0, 1) := by decide +kernel
theorem dX3_takeBack_22 : decode cX3_takeBack 22 = .ok (.getfield 22, 3) := by decide +kernel
theorem dX3_takeBack_25 : decode cX3_takeBack 25 = .ok (.iload_n 1, 1) := by decide +kernel
theorem dX3_takeBack_26 : decode cX3_takeBack 26 = .ok (.isub, 1) := by decide +kernel
theorem dX3_takeBack_27 : decode cX3_takeBack 27 = .ok (.istore_n 3, 1) := by decide +kernel
theorem dX3_takeBack_28 : decode cX3_takeBack 28 = .ok (.iload_n 3, 1) := by decide +kernel
theorem dX3_takeBack_29 : decode cX3_takeBack 29 = .ok (.ifCond .lt 12, 3) := by decide +kernel
theorem dX3_takeBack_32 : decode cX3_takeBack 32 = .ok (.iload_n 3, 1) := by decide +kernel
theorem dX3_takeBack_33 : decode cX3_takeBack 33 = .ok (.aload_n 0, 1) := by decide +kernel
theorem dX3_takeBack_34 : decode cX3_takeBack 34 = .ok (.getfield 11, 3) := by decide +kernel
theorem dX3_takeBack_37 : decode cX3_takeBack 37 = .ok (.arraylength, 1) := by decide +kernel
theorem dX3_takeBack_38 : decode cX3_takeBack 38 = .ok (.if_icmp .lt 4, 3) := by decide +kernel
theorem dX3_takeBack_41 : decode cX3_takeBack 41 = .ok (.return_, 1) := by decide +kernel
theorem dX3_takeBack_42 : decode cX3_takeBack 42 = .ok (.aload_n 0, 1) := by decide +kernel
theorem dX3_takeBack_43 : decode cX3_takeBack 43 = .ok (.getfield 11, 3) := by decide +kernel
theorem dX3_takeBack_46 : decode cX3_takeBack 46 = .ok (.iload_n 3, 1) := by decide +kernel
theorem dX3_takeBack_47 : decode cX3_takeBack 47 = .ok (.aaload, 1) := by decide +kernel
theorem dX3_takeBack_48 : decode cX3_takeBack 48 = .ok (.astore 4, 2) := by decide +kernel
theorem dX3_takeBack_50 : decode cX3_takeBack 50 = .ok (.aload 4, 2) := by decide +kernel
theorem dX3_takeBack_52 : decode cX3_takeBack 52 = .ok (.ifnull 9, 3) := by decide +kernel
theorem dX3_takeBack_55 : decode cX3_takeBack 55 = .ok (.aload_n 2, 1) := by decide +kernel
theorem dX3_takeBack_56 : decode cX3_takeBack 56 = .ok (.aload 4, 2) := by decide +kernel
theorem dX3_takeBack_58 : decode cX3_takeBack 58 = .ok (.invokevirtual 25, 3) := by decide +kernel
theorem dX3_takeBack_61 : decode cX3_takeBack 61 = .ok (.aload_n 0, 1) := by decide +kernel
theorem dX3_takeBack_62 : decode cX3_takeBack 62 = .ok (.iload_n 3, 1) := by decide +kernel
theorem dX3_takeBack_63 : decode cX3_takeBack 63 = .ok (.putfield 22, 3) := by decide +kernel
theorem dX3_takeBack_66 : decode cX3_takeBack 66 = .ok (.aload_n 0, 1) := by decide +kernel
theorem dX3_takeBack_67 : decode cX3_takeBack 67 = .ok (.dup, 1) := by decide +kernel
theorem dX3_takeBack_68 : decode cX3_takeBack 68 = .ok (.getfield 18, 3) := by decide +kernel
theorem dX3_takeBack_71 : decode cX3_takeBack 71 = .ok (.iload_n 1, 1) := by decide +kernel
theorem dX3_takeBack_72 : decode cX3_takeBack 72 = .ok (.isub, 1) := by decide +kernel
theorem dX3_takeBack_73 : decode cX3_takeBack 73 = .ok (.putfield 18, 3) := by decide +kernel
theorem dX3_takeBack_76 : decode cX3_takeBack 76 = .ok (.return_, 1) := by decide +kernel
set_option maxRecDepth 20000 in
theorem ggX4_init_X5_init : GoodIn wsX4_init wsX5_init := goodIn_r _ [11, 12, 2, 3, 13, 14, 15, 16, 17, 18, 19, 20] (by decide +kernel) (by decide +kernel)
set_option maxRecDepth 20000 in
theorem gX4_init_X5_init : GoodIn wsX4_init (wsX5_init) := ggX4_init_X5_init
theorem dX4_init_0 : decode cX4_init 0 = .ok (.aload_n 0, 1) := by decide +kernel
theorem dX4_init_1 : decode cX4_init 1 = .ok (.invokespecial 3, 3) := by decide +kernel
theorem dX4_init_4 : decode cX4_init 4 = .ok (.aload_n 0, 1) := by decide +kernel
theorem dX4_init_5 : decode cX4_init 5 = .ok (.new 9, 3) := by decide +kernel
theorem dX4_init_8 : decode cX4_init 8 = .ok (.dup, 1) := by decide +kernel
theorem dX4_init_9 : decode cX4_init 9 = .ok (.sipush 230, 3) := by decide +kernel
theorem dX4_init_12 : decode cX4_init 12 = .ok (.invokespecial 11, 3) := by decide +kernel
theorem dX4_init_15 : decode cX4_init 15 = .ok (.putfield 14, 3) := by decide +kernel
theorem dX4_init_18 : decode cX4_init 18 = .ok (.aload_n 0, 1) := by decide +kernel
theorem dX4_init_19 : decode cX4_init 19 = .ok (.iconst (-1), 1) := by decide +kernel
theorem dX4_init_20 : decode cX4_init 20 = .ok (.putfield 20, 3) := by decide +kernel
theorem dX4_init_23 : decode cX4_init 23 = .ok (.return_, 1) := by decide +kernel
set_option maxRecDepth 20000 in
theorem ggX4_readInto_X7_clear : GoodIn wsX4_readInto wsX7_clear := goodIn_r _ [9, 10, 11, 12, 13, 91, 92, 93, 94, 95, 96, 97, 98] (by decide +kernel) (by decide +kernel)
set_option maxRecDepth 20000 in
theorem gX4_readInto_X7_clear : GoodIn wsX4_readInto (wsV RX4 30 RX7 yX7_clear wsX7_clear) := goodIn_app (goodIn_of _ (by decide +kernel)) ggX4_readInto_X7_clear
set_option maxRecDepth 20000 in
theorem ggX4_readInto_X4_skipBlanks : GoodIn wsX4_readInto wsX4_skipBlanks := goodIn_r _ [18, 1, 19, 20, 21, 17, 22, 4, 23, 24, 25, 26, 27, 28, 29, 85, 86, 87, 88, 89, 90] (by decide +kernel) (by decide +kernel)
set_option maxRecDepth 20000 in
theorem gX4_readInto_X4_skipBlanks : GoodIn wsX4_readInto (wsV RX4 35 RX4 yX4_skipBlanks wsX4_skipBlanks) := goodIn_app (goodIn_of _ (by decide +kernel)) ggX4_readInto_X4_skipBlanks
set_option maxRecDepth 20000 in
theorem ggX4_readInto_X4_readClause : GoodIn wsX4_readInto wsX4_readClause := goodIn_r _ [33, 1, 19, 20, 21, 17, 22, 4, 23, 24, 25, 26, 27, 28, 29, 34, 35, 36, 37, 38, 39, 8, 40, 10, 41, 42, 43, 44, 2, 3, 45, 46, 47, 48, 49, 50, 51, 52, 14, 15, 16, 18, 53, 54, 55, 56, 57, 58, 59, 60, 61, 62, 63, 64, 65, 66, 67, 68, 11, 13, 69, 70, 71, 72, 73, 74, 75, 76, 77, 78, 79, 80, 81, 82, 12, 83, 84, 85, 86, 87, 88, 89, 90, 91, 92, 93, 94, 95, 96, 97, 98] (by decide +kernel) (by decide +kernel)
set_option maxRecDepth 20000 in
theorem gX4_readInto_X4_readClause : GoodIn wsX4_readInto (wsV RX4 41 RX4 yX4_readClause wsX4_readClause) := goodIn_app (goodIn_of _ (by decide +kernel)) ggX4_readInto_X4_readClause
theorem dX4_readInto_0 : decode cX4_readInto 0 = .ok (.aload_n 0, 1) := by decide +kernel
theorem dX4_readInto_1 : decode cX4_readInto 1 = .ok (.iconst 0, 1) := by decide +kernel
theorem dX4_readInto_2 : decode cX4_readInto 2 = .ok (.putfield 24, 3) := by decide +kernel
theorem dX4_readInto_5 : decode cX4_readInto 5 = .ok (.aload_n 0, 1) := by decide +kernel
theorem dX4_readInto_6 : decode cX4_readInto 6 = .ok (.iconst 0, 1) := by decide +kernel
theorem dX4_readInto_7 : decode cX4_readInto 7 = .ok (.putfield 27, 3) := by decide +kernel
theorem dX4_readInto_10 : decode cX4_readInto 10 = .ok (.aload_n 0, 1) := by decide +kernel
theorem dX4_readInto_11 : decode cX4_readInto 11 = .ok (.iconst (-1), 1) := by decide +kernel
theorem dX4_readInto_12 : decode cX4_readInto 12 = .ok (.putfield 20, 3) := by decide +kernel
theorem dX4_readInto_15 : decode cX4_readInto 15 = .ok (.aload_n 1, 1) := by decide +kernel
theorem dX4_readInto_16 : decode cX4_readInto 16 = .ok (.invokevirtual 30, 3) := by decide +kernel
theorem dX4_readInto_19 : decode cX4_readInto 19 = .ok (.aload_n 0, 1) := by decide +kernel
theorem dX4_readInto_20 : decode cX4_readInto 20 = .ok (.invokevirtual 35, 3) := by decide +kernel
theorem dX4_readInto_23 : decode cX4_readInto 23 = .ok (.iconst 0, 1) := by decide +kernel
theorem dX4_readInto_24 : decode cX4_readInto 24 = .ok (.istore_n 2, 1) := by decide +kernel
theorem dX4_readInto_25 : decode cX4_readInto 25 = .ok (.iload_n 2, 1) := by decide +kernel
theorem dX4_readInto_26 : decode cX4_readInto 26 = .ok (.sipush 230, 3) := by decide +kernel
theorem dX4_readInto_29 : decode cX4_readInto 29 = .ok (.if_icmp .ge 39, 3) := by decide +kernel
theorem dX4_readInto_32 : decode cX4_readInto 32 = .ok (.aload_n 0, 1) := by decide +kernel
theorem dX4_readInto_33 : decode cX4_readInto 33 = .ok (.getfield 24, 3) := by decide +kernel
theorem dX4_readInto_36 : decode cX4_readInto 36 = .ok (.aload_n 0, 1) := by decide +kernel
theorem dX4_readInto_37 : decode cX4_readInto 37 = .ok (.getfield 14, 3) := by decide +kernel
theorem dX4_readInto_40 : decode cX4_readInto 40 = .ok (.getfield 38, 3) := by decide +kernel
theorem dX4_readInto_43 : decode cX4_readInto 43 = .ok (.if_icmp .ge 25, 3) := by decide +kernel
theorem dX4_readInto_46 : decode cX4_readInto 46 = .ok (.aload_n 0, 1) := by decide +kernel
theorem dX4_readInto_47 : decode cX4_readInto 47 = .ok (.getfield 27, 3) := by decide +kernel
theorem dX4_readInto_50 : decode cX4_readInto 50 = .ok (.ifCond .ne 18, 3) := by decide +kernel
theorem dX4_readInto_53 : decode cX4_readInto 53 = .ok (.aload_n 0, 1) := by decide +kernel
theorem dX4_readInto_54 : decode cX4_readInto 54 = .ok (.aload_n 1, 1) := by decide +kernel
theorem dX4_readInto_55 : decode cX4_readInto 55 = .ok (.invokevirtual 41, 3) := by decide +kernel
theorem dX4_readInto_58 : decode cX4_readInto 58 = .ok (.aload_n 0, 1) := by decide +kernel
theorem dX4_readInto_59 : decode cX4_readInto 59 = .ok (.invokevirtual 35, 3) := by decide +kernel
theorem dX4_readInto_62 : decode cX4_readInto 62 = .ok (.iinc 2 1, 3) := by decide +kernel
theorem dX4_readInto_65 : decode cX4_readInto 65 = .ok (.goto (-40), 3) := by decide +kernel
theorem dX4_readInto_68 : decode cX4_readInto 68 = .ok (.aload_n 0, 1) := by decide +kernel
theorem dX4_readInto_69 : decode cX4_readInto 69 = .ok (.getfield 27, 3) := by decide +kernel
theorem dX4_readInto_72 : decode cX4_readInto 72 = .ok (.ireturn, 1) := by decide +kernel
set_option maxRecDepth 20000 in
theorem ggX4_readClause_X4_letterHere : GoodIn wsX4_readClause wsX4_letterHere := goodIn_r _ [6, 7, 1, 8, 9, 10, 11, 12, 13, 14, 77, 78, 79, 80, 81, 82] (by decide +kernel) (by decide +kernel)
set_option maxRecDepth 20000 in
theorem gX4_readClause_X4_letterHere : GoodIn wsX4_readClause (wsV RX4 45 RX4 yX4_letterHere wsX4_letterHere) := goodIn_app (goodIn_of _ (by decide +kernel)) ggX4_readClause_X4_letterHere
set_option maxRecDepth 20000 in
theorem ggX4_readClause_X4_wordFault : GoodIn wsX4_readClause wsX4_wordFault := goodIn_r _ [17, 18, 19, 20, 21, 22, 23, 83, 84, 85, 86, 87, 88, 89, 90] (by decide +kernel) (by decide +kernel)
set_option maxRecDepth 20000 in
theorem gX4_readClause_X4_wordFault : GoodIn wsX4_readClause (va_wsS RX4 49 yX4_wordFault wsX4_wordFault) := goodIn_app (goodIn_of _ (by decide +kernel)) ggX4_readClause_X4_wordFault
set_option maxRecDepth 20000 in
theorem ggX4_readClause_X4_blame : GoodIn wsX4_readClause wsX4_blame := goodIn_r _ [27, 28, 29, 77, 78, 79, 80] (by decide +kernel) (by decide +kernel)
set_option maxRecDepth 20000 in
theorem gX4_readClause_X4_blame : GoodIn wsX4_readClause (wsV RX4 53 RX4 yX4_blame wsX4_blame) := goodIn_app (goodIn_of _ (by decide +kernel)) ggX4_readClause_X4_blame
set_option maxRecDepth 20000 in
theorem ggX4_readClause_X4_readClauses : GoodIn wsX4_readClause wsX4_readClauses := goodIn_r _ [33, 28, 34, 35, 36, 5, 37, 1, 38, 39, 40, 41, 2, 3, 4, 6, 7, 8, 9, 10, 11, 12, 13, 14, 42, 43, 44, 24, 25, 26, 27, 29, 45, 46, 47, 48, 77, 78, 79, 80, 83, 84, 85, 86, 87, 88, 89, 90, 81, 82] (by decide +kernel) (by decide +kernel)
set_option maxRecDepth 20000 in
theorem gX4_readClause_X4_readClauses : GoodIn wsX4_readClause (wsV RX4 57 RX4 yX4_readClauses wsX4_readClauses) := goodIn_app (goodIn_of _ (by decide +kernel)) ggX4_readClause_X4_readClauses
set_option maxRecDepth 20000 in
theorem ggX4_readClause_X4_readCorner : GoodIn wsX4_readClause wsX4_readCorner := goodIn_r _ [52, 28, 34, 35, 36, 5, 37, 1, 38, 39, 40, 41, 2, 3, 4, 6, 7, 8, 9, 10, 11, 12, 13, 14, 42, 43, 44, 24, 25, 26, 27, 29, 45, 46, 47, 48, 53, 54, 55, 21, 56, 57, 58, 59, 60, 61, 62, 63, 64, 77, 78, 79, 80, 81, 82, 83, 84, 85, 86, 87, 88, 89, 90] (by decide +kernel) (by decide +kernel)
set_option maxRecDepth 20000 in
theorem gX4_readClause_X4_readCorner : GoodIn wsX4_readClause (wsV RX4 60 RX4 yX4_readCorner wsX4_readCorner) := goodIn_app (goodIn_of _ (by decide +kernel)) ggX4_readClause_X4_readCorner
set_option maxRecDepth 20000 in
theorem ggX4_readClause_X4_readHearer : GoodIn wsX4_readClause wsX4_readHearer := goodIn_r _ [68, 28, 34, 35, 36, 5, 37, 1, 38, 39, 40, 41, 2, 3, 4, 6, 7, 8, 9, 10, 11, 12, 13, 14, 42, 43, 44, 24, 25, 26, 27, 29, 45, 46, 47, 48, 69, 70, 71, 21, 72, 73, 74, 75, 76, 60, 61, 62, 83, 84, 85, 86, 87, 88, 89, 90, 77, 78, 79, 80, 81, 82] (by decide +kernel) (by decide +kernel)
set_option maxRecDepth 20000 in
theorem gX4_readClause_X4_readHearer : GoodIn wsX4_readClause (wsV RX4 63 RX4 yX4_readHearer wsX4_readHearer) := goodIn_app (goodIn_of _ (by decide +kernel)) ggX4_readClause_X4_readHearer
theorem dX4_readClause_0 : decode cX4_readClause 0 = .ok (.aload_n 0, 1) := by decide +kernel
theorem dX4_readClause_1 : decode cX4_readClause 1 = .ok (.invokevirtual 45, 3) := by decide +kernel
theorem dX4_readClause_4 : decode cX4_readClause 4 = .ok (.istore_n 2, 1) := by decide +kernel
theorem dX4_readClause_5 : decode cX4_readClause 5 = .ok (.aload_n 1, 1) := by decide +kernel
theorem dX4_readClause_6 : decode cX4_readClause 6 = .ok (.iload_n 2, 1) := by decide +kernel
theorem dX4_readClause_7 : decode cX4_readClause 7 = .ok (.invokestatic 49, 3) := by decide +kernel
theorem dX4_readClause_10 : decode cX4_readClause 10 = .ok (.istore_n 3, 1) := by decide +kernel
theorem dX4_readClause_11 : decode cX4_readClause 11 = .ok (.iload_n 3, 1) := by decide +kernel
theorem dX4_readClause_12 : decode cX4_readClause 12 = .ok (.ifCond .eq 13, 3) := by decide +kernel
theorem dX4_readClause_15 : decode cX4_readClause 15 = .ok (.aload_n 0, 1) := by decide +kernel
theorem dX4_readClause_16 : decode cX4_readClause 16 = .ok (.iload_n 3, 1) := by decide +kernel
theorem dX4_readClause_17 : decode cX4_readClause 17 = .ok (.aload_n 0, 1) := by decide +kernel
theorem dX4_readClause_18 : decode cX4_readClause 18 = .ok (.getfield 24, 3) := by decide +kernel
theorem dX4_readClause_21 : decode cX4_readClause 21 = .ok (.invokevirtual 53, 3) := by decide +kernel
theorem dX4_readClause_24 : decode cX4_readClause 24 = .ok (.return_, 1) := by decide +kernel
theorem dX4_readClause_25 : decode cX4_readClause 25 = .ok (.aload_n 0, 1) := by decide +kernel
theorem dX4_readClause_26 : decode cX4_readClause 26 = .ok (.dup, 1) := by decide +kernel
theorem dX4_readClause_27 : decode cX4_readClause 27 = .ok (.getfield 24, 3) := by decide +kernel
theorem dX4_readClause_30 : decode cX4_readClause 30 = .ok (.iconst 1, 1) := by decide +kernel
theorem dX4_readClause_31 : decode cX4_readClause 31 = .ok (.iadd, 1) := by decide +kernel
theorem dX4_readClause_32 : decode cX4_readClause 32 = .ok (.putfield 24, 3) := by decide +kernel
theorem dX4_readClause_35 : decode cX4_readClause 35 = .ok (.iload_n 2, 1) := by decide +kernel
theorem dX4_readClause_36 : decode cX4_readClause 36 = .ok (.bipush 116, 2) := by decide +kernel
theorem dX4_readClause_38 : decode cX4_readClause 38 = .ok (.if_icmp .ne 11, 3) := by decide +kernel
theorem dX4_readClause_41 : decode cX4_readClause 41 = .ok (.aload_n 0, 1) := by decide +kernel
theorem dX4_readClause_42 : decode cX4_readClause 42 = .ok (.aload_n 1, 1) := by decide +kernel
theorem dX4_readClause_43 : decode cX4_readClause 43 = .ok (.invokevirtual 57, 3) := by decide +kernel
theorem dX4_readClause_46 : decode cX4_readClause 46 = .ok (.goto 22, 3) := by decide +kernel
theorem dX4_readClause_49 : decode cX4_readClause 49 = .ok (.iload_n 2, 1) := by decide +kernel
theorem dX4_readClause_50 : decode cX4_readClause 50 = .ok (.bipush 99, 2) := by decide +kernel
theorem dX4_readClause_52 : decode cX4_readClause 52 = .ok (.if_icmp .ne 11, 3) := by decide +kernel
theorem dX4_readClause_55 : decode cX4_readClause 55 = .ok (.aload_n 0, 1) := by decide +kernel
theorem dX4_readClause_56 : decode cX4_readClause 56 = .ok (.aload_n 1, 1) := by decide +kernel
theorem dX4_readClause_57 : decode cX4_readClause 57 = .ok (.invokevirtual 60, 3) := by decide +kernel
theorem dX4_readClause_60 : decode cX4_readClause 60 = .ok (.goto 8, 3) := by decide +kernel
theorem dX4_readClause_63 : decode cX4_readClause 63 = .ok (.aload_n 0, 1) := by decide +kernel
theorem dX4_readClause_64 : decode cX4_readClause 64 = .ok (.aload_n 1, 1) := by decide +kernel
theorem dX4_readClause_65 : decode cX4_readClause 65 = .ok (.invokevirtual 63, 3) := by decide +kernel
theorem dX4_readClause_68 : decode cX4_readClause 68 = .ok (.return_, 1) := by decide +kernel
set_option maxRecDepth 20000 in
theorem ggX4_wordFault_X7_stands : GoodIn wsX4_wordFault wsX7_stands := goodIn_r _ [5, 6, 7, 8, 9, 10, 11, 12, 13, 14] (by decide +kernel) (by decide +kernel)
set_option maxRecDepth 20000 in
theorem gX4_wordFault_X7_stands : GoodIn wsX4_wordFault (wsV RX4 66 RX7 yX7_stands wsX7_stands) := goodIn_app (goodIn_of _ (by decide +kernel)) ggX4_wordFault_X7_stands
theorem dX4_wordFault_0 : decode cX4_wordFault 0 = .ok (.aload_n 0, 1) := by decide +kernel
theorem dX4_wordFault_1 : decode cX4_wordFault 1 = .ok (.invokevirtual 66, 3) := by decide +kernel
theorem dX4_wordFault_4 : decode cX4_wordFault 4 = .ok (.ifCond .ne 15, 3) := by decide +kernel
theorem dX4_wordFault_7 : decode cX4_wordFault 7 = .ok (.iload_n 1, 1) := by decide +kernel
theorem dX4_wordFault_8 : decode cX4_wordFault 8 = .ok (.bipush 116, 2) := by decide +kernel
theorem dX4_wordFault_10 : decode cX4_wordFault 10 = .ok (.if_icmp .ne 7, 3) := by decide +kernel
theorem dX4_wordFault_13 : decode cX4_wordFault 13 = .ok (.iconst 0, 1) := by decide +kernel
theorem dX4_wordFault_14 : decode cX4_wordFault 14 = .ok (.goto 4, 3) := by decide +kernel
theorem dX4_wordFault_17 : decode cX4_wordFault 17 = .ok (.iconst 1, 1) := by decide +kernel
theorem dX4_wordFault_18 : decode cX4_wordFault 18 = .ok (.ireturn, 1) := by decide +kernel
theorem dX4_wordFault_19 : decode cX4_wordFault 19 = .ok (.iload_n 1, 1) := by decide +kernel
theorem dX4_wordFault_20 : decode cX4_wordFault 20 = .ok (.lookupswitch 68 #[(99, 38), (104, 53), (116, 36)], 36) := by decide +kernel
theorem dX4_wordFault_56 : decode cX4_wordFault 56 = .ok (.iconst 3, 1) := by decide +kernel
theorem dX4_wordFault_57 : decode cX4_wordFault 57 = .ok (.ireturn, 1) := by decide +kernel
theorem dX4_wordFault_58 : decode cX4_wordFault 58 = .ok (.aload_n 0, 1) := by decide +kernel
theorem dX4_wordFault_59 : decode cX4_wordFault 59 = .ok (.getfield 70, 3) := by decide +kernel
theorem dX4_wordFault_62 : decode cX4_wordFault 62 = .ok (.bipush 8, 2) := by decide +kernel
theorem dX4_wordFault_64 : decode cX4_wordFault 64 = .ok (.if_icmp .ge 7, 3) := by decide +kernel
theorem dX4_wordFault_67 : decode cX4_wordFault 67 = .ok (.iconst 0, 1) := by decide +kernel
theorem dX4_wordFault_68 : decode cX4_wordFault 68 = .ok (.goto 4, 3) := by decide +kernel
theorem dX4_wordFault_71 : decode cX4_wordFault 71 = .ok (.iconst 3, 1) := by decide +kernel
theorem dX4_wordFault_72 : decode cX4_wordFault 72 = .ok (.ireturn, 1) := by decide +kernel
theorem dX4_wordFault_73 : decode cX4_wordFault 73 = .ok (.aload_n 0, 1) := by decide +kernel
theorem dX4_wordFault_74 : decode cX4_wordFault 74 = .ok (.getfield 73, 3) := by decide +kernel
theorem dX4_wordFault_77 : decode cX4_wordFault 77 = .ok (.bipush 9, 2) := by decide +kernel
theorem dX4_wordFault_79 : decode cX4_wordFault 79 = .ok (.if_icmp .ge 7, 3) := by decide +kernel
theorem dX4_wordFault_82 : decode cX4_wordFault 82 = .ok (.iconst 0, 1) := by decide +kernel
theorem dX4_wordFault_83 : decode cX4_wordFault 83 = .ok (.goto 4, 3) := by decide +kernel
theorem dX4_wordFault_86 : decode cX4_wordFault 86 = .ok (.iconst 3, 1) := by decide +kernel
theorem dX4_wordFault_87 : decode cX4_wordFault 87 = .ok (.ireturn, 1) := by decide +kernel
theorem dX4_wordFault_88 : decode cX4_wordFault 88 = .ok (.iconst 1, 1) := by decide +kernel
theorem dX4_wordFault_89 : decode cX4_wordFault 89 = .ok (.ireturn, 1) := by decide +kernel
set_option maxRecDepth 20000 in
theorem ggX4_readClauses_X4_readNumber : GoodIn wsX4_readClauses wsX4_readNumber := goodIn_r _ [6, 7, 8, 9, 10, 5, 11, 12, 13, 14, 15, 16, 17, 18, 19, 20, 21, 22, 23, 24, 25, 26, 27, 28, 29, 30, 1, 31, 36, 37, 38, 39, 48, 49] (by decide +kernel) (by decide +kernel)
set_option maxRecDepth 20000 in
theorem gX4_readClauses_X4_readNumber : GoodIn wsX4_readClauses (wsV RX4 76 RX4 yX4_readNumber wsX4_readNumber) := goodIn_app (goodIn_of _ (by decide +kernel)) ggX4_readClauses_X4_readNumber
set_option maxRecDepth 20000 in
theorem ggX4_readClauses_X4_readEnd : GoodIn wsX4_readClauses wsX4_readEnd := goodIn_r _ [35, 7, 8, 9, 10, 5, 11, 12, 13, 14, 15, 16, 17, 18, 19, 20, 21, 22, 23, 27, 28, 29, 30, 1, 31, 36, 37, 38, 39, 48, 49] (by decide +kernel) (by decide +kernel)
set_option maxRecDepth 20000 in
theorem gX4_readClauses_X4_readEnd : GoodIn wsX4_readClauses (wsV RX4 80 RX4 yX4_readEnd wsX4_readEnd) := goodIn_app (goodIn_of _ (by decide +kernel)) ggX4_readClauses_X4_readEnd
theorem dX4_readClauses_0 : decode cX4_readClauses 0 = .ok (.aload_n 0, 1) := by decide +kernel
theorem dX4_readClauses_1 : decode cX4_readClauses 1 = .ok (.iconst 1, 1) := by decide +kernel
theorem dX4_readClauses_2 : decode cX4_readClauses 2 = .ok (.sipush 255, 3) := by decide +kernel
theorem dX4_readClauses_5 : decode cX4_readClauses 5 = .ok (.invokevirtual 76, 3) := by decide +kernel
theorem dX4_readClauses_8 : decode cX4_readClauses 8 = .ok (.istore_n 2, 1) := by decide +kernel
theorem dX4_readClauses_9 : decode cX4_readClauses 9 = .ok (.aload_n 0, 1) := by decide +kernel
theorem dX4_readClauses_10 : decode cX4_readClauses 10 = .ok (.invokevirtual 80, 3) := by decide +kernel
theorem dX4_readClauses_13 : decode cX4_readClauses 13 = .ok (.aload_n 0, 1) := by decide +kernel
theorem dX4_readClauses_14 : decode cX4_readClauses 14 = .ok (.getfield 27, 3) := by decide +kernel
theorem dX4_readClauses_17 : decode cX4_readClauses 17 = .ok (.ifCond .ne 8, 3) := by decide +kernel
theorem dX4_readClauses_20 : decode cX4_readClauses 20 = .ok (.aload_n 1, 1) := by decide +kernel
theorem dX4_readClauses_21 : decode cX4_readClauses 21 = .ok (.iload_n 2, 1) := by decide +kernel
theorem dX4_readClauses_22 : decode cX4_readClauses 22 = .ok (.putfield 83, 3) := by decide +kernel
theorem dX4_readClauses_25 : decode cX4_readClauses 25 = .ok (.return_, 1) := by decide +kernel
set_option maxRecDepth 20000 in
theorem ggX4_readCorner_X4_readNumber : GoodIn wsX4_readCorner wsX4_readNumber := goodIn_r _ [6, 7, 8, 9, 10, 5, 11, 12, 13, 14, 15, 16, 17, 18, 19, 20, 21, 22, 23, 24, 25, 26, 27, 28, 29, 30, 1, 31, 49, 50, 51, 52, 53, 54] (by decide +kernel) (by decide +kernel)
set_option maxRecDepth 20000 in
theorem gX4_readCorner_X4_readNumber : GoodIn wsX4_readCorner (wsV RX4 76 RX4 yX4_readNumber wsX4_readNumber) := goodIn_app (goodIn_of _ (by decide +kernel)) ggX4_readCorner_X4_readNumber
set_option maxRecDepth 20000 in
theorem ggX4_readCorner_X4_readEnd : GoodIn wsX4_readCorner wsX4_readEnd := goodIn_r _ [35, 7, 8, 9, 10, 5, 11, 12, 13, 14, 15, 16, 17, 18, 19, 20, 21, 22, 23, 27, 28, 29, 30, 1, 31, 49, 50, 51, 52, 53, 54] (by decide +kernel) (by decide +kernel)
set_option maxRecDepth 20000 in
theorem gX4_readCorner_X4_readEnd : GoodIn wsX4_readCorner (wsV RX4 80 RX4 yX4_readEnd wsX4_readEnd) := goodIn_app (goodIn_of _ (by decide +kernel)) ggX4_readCorner_X4_readEnd
set_option maxRecDepth 20000 in
theorem ggX4_readCorner_X7_addCorner : GoodIn wsX4_readCorner wsX7_addCorner := goodIn_r _ [40, 41, 42, 43, 44, 45, 46, 47, 48, 55, 56, 57, 58, 59, 60, 61, 62] (by decide +kernel) (by decide +kernel)
set_option maxRecDepth 20000 in
theorem gX4_readCorner_X7_addCorner : GoodIn wsX4_readCorner (wsV RX4 86 RX7 yX7_addCorner wsX7_addCorner) := goodIn_app (goodIn_of _ (by decide +kernel)) ggX4_readCorner_X7_addCorner
theorem dX4_readCorner_0 : decode cX4_readCorner 0 = .ok (.aload_n 0, 1) := by decide +kernel
theorem dX4_readCorner_1 : decode cX4_readCorner 1 = .ok (.iconst 0, 1) := by decide +kernel
theorem dX4_readCorner_2 : decode cX4_readCorner 2 = .ok (.bipush 99, 2) := by decide +kernel
theorem dX4_readCorner_4 : decode cX4_readCorner 4 = .ok (.invokevirtual 76, 3) := by decide +kernel
theorem dX4_readCorner_7 : decode cX4_readCorner 7 = .ok (.istore_n 2, 1) := by decide +kernel
theorem dX4_readCorner_8 : decode cX4_readCorner 8 = .ok (.aload_n 0, 1) := by decide +kernel
theorem dX4_readCorner_9 : decode cX4_readCorner 9 = .ok (.iconst 0, 1) := by decide +kernel
theorem dX4_readCorner_10 : decode cX4_readCorner 10 = .ok (.iconst 1, 1) := by decide +kernel
theorem dX4_readCorner_11 : decode cX4_readCorner 11 = .ok (.invokevirtual 76, 3) := by decide +kernel
theorem dX4_readCorner_14 : decode cX4_readCorner 14 = .ok (.istore_n 3, 1) := by decide +kernel
theorem dX4_readCorner_15 : decode cX4_readCorner 15 = .ok (.aload_n 0, 1) := by decide +kernel
theorem dX4_readCorner_16 : decode cX4_readCorner 16 = .ok (.invokevirtual 80, 3) := by decide +kernel
theorem dX4_readCorner_19 : decode cX4_readCorner 19 = .ok (.aload_n 0, 1) := by decide +kernel
theorem dX4_readCorner_20 : decode cX4_readCorner 20 = .ok (.getfield 27, 3) := by decide +kernel
theorem dX4_readCorner_23 : decode cX4_readCorner 23 = .ok (.ifCond .ne 18, 3) := by decide +kernel
theorem dX4_readCorner_26 : decode cX4_readCorner 26 = .ok (.aload_n 1, 1) := by decide +kernel
theorem dX4_readCorner_27 : decode cX4_readCorner 27 = .ok (.iload_n 2, 1) := by decide +kernel
theorem dX4_readCorner_28 : decode cX4_readCorner 28 = .ok (.iload_n 3, 1) := by decide +kernel
theorem dX4_readCorner_29 : decode cX4_readCorner 29 = .ok (.iconst 1, 1) := by decide +kernel
theorem dX4_readCorner_30 : decode cX4_readCorner 30 = .ok (.if_icmp .ne 7, 3) := by decide +kernel
theorem dX4_readCorner_33 : decode cX4_readCorner 33 = .ok (.iconst 1, 1) := by decide +kernel
theorem dX4_readCorner_34 : decode cX4_readCorner 34 = .ok (.goto 4, 3) := by decide +kernel
theorem dX4_readCorner_37 : decode cX4_readCorner 37 = .ok (.iconst 0, 1) := by decide +kernel
theorem dX4_readCorner_38 : decode cX4_readCorner 38 = .ok (.invokevirtual 86, 3) := by decide +kernel
theorem dX4_readCorner_41 : decode cX4_readCorner 41 = .ok (.return_, 1) := by decide +kernel
set_option maxRecDepth 20000 in
theorem ggX4_readHearer_X4_readNumber : GoodIn wsX4_readHearer wsX4_readNumber := goodIn_r _ [6, 7, 8, 9, 10, 5, 11, 12, 13, 14, 15, 16, 17, 18, 19, 20, 21, 22, 23, 24, 25, 26, 27, 28, 29, 30, 1, 31, 56, 57, 58, 59, 60, 61] (by decide +kernel) (by decide +kernel)
set_option maxRecDepth 20000 in
theorem gX4_readHearer_X4_readNumber : GoodIn wsX4_readHearer (wsV RX4 76 RX4 yX4_readNumber wsX4_readNumber) := goodIn_app (goodIn_of _ (by decide +kernel)) ggX4_readHearer_X4_readNumber
set_option maxRecDepth 20000 in
theorem ggX4_readHearer_X4_readEnd : GoodIn wsX4_readHearer wsX4_readEnd := goodIn_r _ [35, 7, 8, 9, 10, 5, 11, 12, 13, 14, 15, 16, 17, 18, 19, 20, 21, 22, 23, 27, 28, 29, 30, 1, 31, 56, 57, 58, 59, 60, 61] (by decide +kernel) (by decide +kernel)
set_option maxRecDepth 20000 in
theorem gX4_readHearer_X4_readEnd : GoodIn wsX4_readHearer (wsV RX4 80 RX4 yX4_readEnd wsX4_readEnd) := goodIn_app (goodIn_of _ (by decide +kernel)) ggX4_readHearer_X4_readEnd
set_option maxRecDepth 20000 in
theorem ggX4_readHearer_X7_addHearer : GoodIn wsX4_readHearer wsX7_addHearer := goodIn_r _ [40, 41, 42, 43, 44, 45, 46, 47, 48, 49, 50, 51, 52, 53, 54, 55] (by decide +kernel) (by decide +kernel)
set_option maxRecDepth 20000 in
theorem gX4_readHearer_X7_addHearer : GoodIn wsX4_readHearer (wsV RX4 90 RX7 yX7_addHearer wsX7_addHearer) := goodIn_app (goodIn_of _ (by decide +kernel)) ggX4_readHearer_X7_addHearer
theorem dX4_readHearer_0 : decode cX4_readHearer 0 = .ok (.aload_n 0, 1) := by decide +kernel
theorem dX4_readHearer_1 : decode cX4_readHearer 1 = .ok (.iconst 0, 1) := by decide +kernel
theorem dX4_readHearer_2 : decode cX4_readHearer 2 = .ok (.aload_n 1, 1) := by decide +kernel
theorem dX4_readHearer_3 : decode cX4_readHearer 3 = .ok (.getfield 70, 3) := by decide +kernel
theorem dX4_readHearer_6 : decode cX4_readHearer 6 = .ok (.iconst 1, 1) := by decide +kernel
theorem dX4_readHearer_7 : decode cX4_readHearer 7 = .ok (.isub, 1) := by decide +kernel
theorem dX4_readHearer_8 : decode cX4_readHearer 8 = .ok (.invokevirtual 76, 3) := by decide +kernel
theorem dX4_readHearer_11 : decode cX4_readHearer 11 = .ok (.istore_n 2, 1) := by decide +kernel
theorem dX4_readHearer_12 : decode cX4_readHearer 12 = .ok (.aload_n 0, 1) := by decide +kernel
theorem dX4_readHearer_13 : decode cX4_readHearer 13 = .ok (.iconst 0, 1) := by decide +kernel
theorem dX4_readHearer_14 : decode cX4_readHearer 14 = .ok (.sipush 255, 3) := by decide +kernel
theorem dX4_readHearer_17 : decode cX4_readHearer 17 = .ok (.invokevirtual 76, 3) := by decide +kernel
theorem dX4_readHearer_20 : decode cX4_readHearer 20 = .ok (.istore_n 3, 1) := by decide +kernel
theorem dX4_readHearer_21 : decode cX4_readHearer 21 = .ok (.aload_n 0, 1) := by decide +kernel
theorem dX4_readHearer_22 : decode cX4_readHearer 22 = .ok (.iconst 0, 1) := by decide +kernel
theorem dX4_readHearer_23 : decode cX4_readHearer 23 = .ok (.bipush 8, 2) := by decide +kernel
theorem dX4_readHearer_25 : decode cX4_readHearer 25 = .ok (.invokevirtual 76, 3) := by decide +kernel
theorem dX4_readHearer_28 : decode cX4_readHearer 28 = .ok (.istore 4, 2) := by decide +kernel
theorem dX4_readHearer_30 : decode cX4_readHearer 30 = .ok (.aload_n 0, 1) := by decide +kernel
theorem dX4_readHearer_31 : decode cX4_readHearer 31 = .ok (.invokevirtual 80, 3) := by decide +kernel
theorem dX4_readHearer_34 : decode cX4_readHearer 34 = .ok (.aload_n 0, 1) := by decide +kernel
theorem dX4_readHearer_35 : decode cX4_readHearer 35 = .ok (.getfield 27, 3) := by decide +kernel
theorem dX4_readHearer_38 : decode cX4_readHearer 38 = .ok (.ifCond .ne 11, 3) := by decide +kernel
theorem dX4_readHearer_41 : decode cX4_readHearer 41 = .ok (.aload_n 1, 1) := by decide +kernel
theorem dX4_readHearer_42 : decode cX4_readHearer 42 = .ok (.iload_n 2, 1) := by decide +kernel
theorem dX4_readHearer_43 : decode cX4_readHearer 43 = .ok (.iload_n 3, 1) := by decide +kernel
theorem dX4_readHearer_44 : decode cX4_readHearer 44 = .ok (.iload 4, 2) := by decide +kernel
theorem dX4_readHearer_46 : decode cX4_readHearer 46 = .ok (.invokevirtual 90, 3) := by decide +kernel
theorem dX4_readHearer_49 : decode cX4_readHearer 49 = .ok (.return_, 1) := by decide +kernel
set_option maxRecDepth 20000 in
theorem ggX4_readNumber_X4_skipBlanks : GoodIn wsX4_readNumber wsX4_skipBlanks := goodIn_r _ [6, 1, 7, 8, 9, 5, 10, 11, 12, 13, 14, 15, 16, 17, 18, 28, 29, 30, 31, 32, 33] (by decide +kernel) (by decide +kernel)
set_option maxRecDepth 20000 in
theorem gX4_readNumber_X4_skipBlanks : GoodIn wsX4_readNumber (wsV RX4 35 RX4 yX4_skipBlanks wsX4_skipBlanks) := goodIn_app (goodIn_of _ (by decide +kernel)) ggX4_readNumber_X4_skipBlanks
set_option maxRecDepth 20000 in
theorem ggX4_readNumber_X4_letterHere : GoodIn wsX4_readNumber wsX4_letterHere := goodIn_r _ [10, 11, 1, 12, 13, 14, 15, 16, 17, 18, 28, 29, 30, 31, 32, 33] (by decide +kernel) (by decide +kernel)
set_option maxRecDepth 20000 in
theorem gX4_readNumber_X4_letterHere : GoodIn wsX4_readNumber (wsV RX4 45 RX4 yX4_letterHere wsX4_letterHere) := goodIn_app (goodIn_of _ (by decide +kernel)) ggX4_readNumber_X4_letterHere
set_option maxRecDepth 20000 in
theorem ggX4_readNumber_X4_isFigure : GoodIn wsX4_readNumber wsX4_isFigure := goodIn_r _ [21] (by decide +kernel) (by decide +kernel)
set_option maxRecDepth 20000 in
theorem gX4_readNumber_X4_isFigure : GoodIn wsX4_readNumber (va_wsS RX4 94 yX4_isFigure wsX4_isFigure) := goodIn_app (goodIn_of _ (by decide +kernel)) ggX4_readNumber_X4_isFigure
set_option maxRecDepth 20000 in
theorem ggX4_readNumber_X4_blame : GoodIn wsX4_readNumber wsX4_blame := goodIn_r _ [25, 26, 27, 28, 29, 30, 31] (by decide +kernel) (by decide +kernel)
set_option maxRecDepth 20000 in
theorem gX4_readNumber_X4_blame : GoodIn wsX4_readNumber (wsV RX4 53 RX4 yX4_blame wsX4_blame) := goodIn_app (goodIn_of _ (by decide +kernel)) ggX4_readNumber_X4_blame
theorem dX4_readNumber_0 : decode cX4_readNumber 0 = .ok (.aload_n 0, 1) := by decide +kernel
theorem dX4_readNumber_1 : decode cX4_readNumber 1 = .ok (.invokevirtual 35, 3) := by decide +kernel
theorem dX4_readNumber_4 : decode cX4_readNumber 4 = .ok (.aload_n 0, 1) := by decide +kernel
theorem dX4_readNumber_5 : decode cX4_readNumber 5 = .ok (.getfield 24, 3) := by decide +kernel
theorem dX4_readNumber_8 : decode cX4_readNumber 8 = .ok (.istore_n 3, 1) := by decide +kernel
theorem dX4_readNumber_9 : decode cX4_readNumber 9 = .ok (.iconst 0, 1) := by decide +kernel
theorem dX4_readNumber_10 : decode cX4_readNumber 10 = .ok (.istore 4, 2) := by decide +kernel
theorem dX4_readNumber_12 : decode cX4_readNumber 12 = .ok (.iconst 0, 1) := by decide +kernel
theorem dX4_readNumber_13 : decode cX4_readNumber 13 = .ok (.istore 5, 2) := by decide +kernel
theorem dX4_readNumber_15 : decode cX4_readNumber 15 = .ok (.iload 5, 2) := by decide +kernel
theorem dX4_readNumber_17 : decode cX4_readNumber 17 = .ok (.sipush 230, 3) := by decide +kernel
theorem dX4_readNumber_20 : decode cX4_readNumber 20 = .ok (.if_icmp .ge 55, 3) := by decide +kernel
theorem dX4_readNumber_23 : decode cX4_readNumber 23 = .ok (.aload_n 0, 1) := by decide +kernel
theorem dX4_readNumber_24 : decode cX4_readNumber 24 = .ok (.invokevirtual 45, 3) := by decide +kernel
theorem dX4_readNumber_27 : decode cX4_readNumber 27 = .ok (.invokestatic 94, 3) := by decide +kernel
theorem dX4_readNumber_30 : decode cX4_readNumber 30 = .ok (.ifCond .eq 45, 3) := by decide +kernel
theorem dX4_readNumber_33 : decode cX4_readNumber 33 = .ok (.iload 5, 2) := by decide +kernel
theorem dX4_readNumber_35 : decode cX4_readNumber 35 = .ok (.iconst 3, 1) := by decide +kernel
theorem dX4_readNumber_36 : decode cX4_readNumber 36 = .ok (.if_icmp .ge 19, 3) := by decide +kernel
theorem dX4_readNumber_39 : decode cX4_readNumber 39 = .ok (.iload 4, 2) := by decide +kernel
theorem dX4_readNumber_41 : decode cX4_readNumber 41 = .ok (.bipush 10, 2) := by decide +kernel
theorem dX4_readNumber_43 : decode cX4_readNumber 43 = .ok (.imul, 1) := by decide +kernel
theorem dX4_readNumber_44 : decode cX4_readNumber 44 = .ok (.aload_n 0, 1) := by decide +kernel
theorem dX4_readNumber_45 : decode cX4_readNumber 45 = .ok (.invokevirtual 45, 3) := by decide +kernel
theorem dX4_readNumber_48 : decode cX4_readNumber 48 = .ok (.iadd, 1) := by decide +kernel
theorem dX4_readNumber_49 : decode cX4_readNumber 49 = .ok (.bipush 48, 2) := by decide +kernel
theorem dX4_readNumber_51 : decode cX4_readNumber 51 = .ok (.isub, 1) := by decide +kernel
theorem dX4_readNumber_52 : decode cX4_readNumber 52 = .ok (.goto 5, 3) := by decide +kernel
theorem dX4_readNumber_55 : decode cX4_readNumber 55 = .ok (.iload 4, 2) := by decide +kernel
theorem dX4_readNumber_57 : decode cX4_readNumber 57 = .ok (.istore 4, 2) := by decide +kernel
theorem dX4_readNumber_59 : decode cX4_readNumber 59 = .ok (.aload_n 0, 1) := by decide +kernel
theorem dX4_readNumber_60 : decode cX4_readNumber 60 = .ok (.dup, 1) := by decide +kernel
theorem dX4_readNumber_61 : decode cX4_readNumber 61 = .ok (.getfield 24, 3) := by decide +kernel
theorem dX4_readNumber_64 : decode cX4_readNumber 64 = .ok (.iconst 1, 1) := by decide +kernel
theorem dX4_readNumber_65 : decode cX4_readNumber 65 = .ok (.iadd, 1) := by decide +kernel
theorem dX4_readNumber_66 : decode cX4_readNumber 66 = .ok (.putfield 24, 3) := by decide +kernel
theorem dX4_readNumber_69 : decode cX4_readNumber 69 = .ok (.iinc 5 1, 3) := by decide +kernel
theorem dX4_readNumber_72 : decode cX4_readNumber 72 = .ok (.goto (-57), 3) := by decide +kernel
theorem dX4_readNumber_75 : decode cX4_readNumber 75 = .ok (.aload_n 0, 1) := by decide +kernel
theorem dX4_readNumber_76 : decode cX4_readNumber 76 = .ok (.getfield 24, 3) := by decide +kernel
theorem dX4_readNumber_79 : decode cX4_readNumber 79 = .ok (.iload_n 3, 1) := by decide +kernel
theorem dX4_readNumber_80 : decode cX4_readNumber 80 = .ok (.isub, 1) := by decide +kernel
theorem dX4_readNumber_81 : decode cX4_readNumber 81 = .ok (.istore 5, 2) := by decide +kernel
theorem dX4_readNumber_83 : decode cX4_readNumber 83 = .ok (.iload 5, 2) := by decide +kernel
theorem dX4_readNumber_85 : decode cX4_readNumber 85 = .ok (.ifCond .ne 12, 3) := by decide +kernel
theorem dX4_readNumber_88 : decode cX4_readNumber 88 = .ok (.aload_n 0, 1) := by decide +kernel
theorem dX4_readNumber_89 : decode cX4_readNumber 89 = .ok (.iconst 1, 1) := by decide +kernel
theorem dX4_readNumber_90 : decode cX4_readNumber 90 = .ok (.iload_n 3, 1) := by decide +kernel
theorem dX4_readNumber_91 : decode cX4_readNumber 91 = .ok (.invokevirtual 53, 3) := by decide +kernel
theorem dX4_readNumber_94 : decode cX4_readNumber 94 = .ok (.goto 27, 3) := by decide +kernel
theorem dX4_readNumber_97 : decode cX4_readNumber 97 = .ok (.iload 5, 2) := by decide +kernel
theorem dX4_readNumber_99 : decode cX4_readNumber 99 = .ok (.iconst 3, 1) := by decide +kernel
theorem dX4_readNumber_100 : decode cX4_readNumber 100 = .ok (.if_icmp .gt 15, 3) := by decide +kernel
theorem dX4_readNumber_103 : decode cX4_readNumber 103 = .ok (.iload 4, 2) := by decide +kernel
theorem dX4_readNumber_105 : decode cX4_readNumber 105 = .ok (.iload_n 1, 1) := by decide +kernel
theorem dX4_readNumber_106 : decode cX4_readNumber 106 = .ok (.if_icmp .lt 9, 3) := by decide +kernel
theorem dX4_readNumber_109 : decode cX4_readNumber 109 = .ok (.iload 4, 2) := by decide +kernel
theorem dX4_readNumber_111 : decode cX4_readNumber 111 = .ok (.iload_n 2, 1) := by decide +kernel
theorem dX4_readNumber_112 : decode cX4_readNumber 112 = .ok (.if_icmp .le 9, 3) := by decide +kernel
theorem dX4_readNumber_115 : decode cX4_readNumber 115 = .ok (.aload_n 0, 1) := by decide +kernel
theorem dX4_readNumber_116 : decode cX4_readNumber 116 = .ok (.iconst 2, 1) := by decide +kernel
theorem dX4_readNumber_117 : decode cX4_readNumber 117 = .ok (.iload_n 3, 1) := by decide +kernel
theorem dX4_readNumber_118 : decode cX4_readNumber 118 = .ok (.invokevirtual 53, 3) := by decide +kernel
theorem dX4_readNumber_121 : decode cX4_readNumber 121 = .ok (.iload 4, 2) := by decide +kernel
theorem dX4_readNumber_123 : decode cX4_readNumber 123 = .ok (.ireturn, 1) := by decide +kernel
set_option maxRecDepth 20000 in
theorem ggX4_readEnd_X4_skipBlanks : GoodIn wsX4_readEnd wsX4_skipBlanks := goodIn_r _ [6, 1, 7, 8, 9, 5, 10, 11, 12, 13, 14, 15, 16, 17, 18, 25, 26, 27, 28, 29, 30] (by decide +kernel) (by decide +kernel)
set_option maxRecDepth 20000 in
theorem gX4_readEnd_X4_skipBlanks : GoodIn wsX4_readEnd (wsV RX4 35 RX4 yX4_skipBlanks wsX4_skipBlanks) := goodIn_app (goodIn_of _ (by decide +kernel)) ggX4_readEnd_X4_skipBlanks
set_option maxRecDepth 20000 in
theorem ggX4_readEnd_X4_letterHere : GoodIn wsX4_readEnd wsX4_letterHere := goodIn_r _ [10, 11, 1, 12, 13, 14, 15, 16, 17, 18, 25, 26, 27, 28, 29, 30] (by decide +kernel) (by decide +kernel)
set_option maxRecDepth 20000 in
theorem gX4_readEnd_X4_letterHere : GoodIn wsX4_readEnd (wsV RX4 45 RX4 yX4_letterHere wsX4_letterHere) := goodIn_app (goodIn_of _ (by decide +kernel)) ggX4_readEnd_X4_letterHere
set_option maxRecDepth 20000 in
theorem ggX4_readEnd_X4_blame : GoodIn wsX4_readEnd wsX4_blame := goodIn_r _ [22, 23, 24, 25, 26, 27, 28] (by decide +kernel) (by decide +kernel)
set_option maxRecDepth 20000 in
theorem gX4_readEnd_X4_blame : GoodIn wsX4_readEnd (wsV RX4 53 RX4 yX4_blame wsX4_blame) := goodIn_app (goodIn_of _ (by decide +kernel)) ggX4_readEnd_X4_blame
theorem dX4_readEnd_0 : decode cX4_readEnd 0 = .ok (.aload_n 0, 1) := by decide +kernel
theorem dX4_readEnd_1 : decode cX4_readEnd 1 = .ok (.invokevirtual 35, 3) := by decide +kernel
theorem dX4_readEnd_4 : decode cX4_readEnd 4 = .ok (.aload_n 0, 1) := by decide +kernel
theorem dX4_readEnd_5 : decode cX4_readEnd 5 = .ok (.invokevirtual 45, 3) := by decide +kernel
theorem dX4_readEnd_8 : decode cX4_readEnd 8 = .ok (.bipush 59, 2) := by decide +kernel
theorem dX4_readEnd_10 : decode cX4_readEnd 10 = .ok (.if_icmp .eq 12, 3) := by decide +kernel
theorem dX4_readEnd_13 : decode cX4_readEnd 13 = .ok (.aload_n 0, 1) := by decide +kernel
theorem dX4_readEnd_14 : decode cX4_readEnd 14 = .ok (.iconst 1, 1) := by decide +kernel
theorem dX4_readEnd_15 : decode cX4_readEnd 15 = .ok (.aload_n 0, 1) := by decide +kernel
theorem dX4_readEnd_16 : decode cX4_readEnd 16 = .ok (.getfield 24, 3) := by decide +kernel
theorem dX4_readEnd_19 : decode cX4_readEnd 19 = .ok (.invokevirtual 53, 3) := by decide +kernel
theorem dX4_readEnd_22 : decode cX4_readEnd 22 = .ok (.aload_n 0, 1) := by decide +kernel
theorem dX4_readEnd_23 : decode cX4_readEnd 23 = .ok (.dup, 1) := by decide +kernel
theorem dX4_readEnd_24 : decode cX4_readEnd 24 = .ok (.getfield 24, 3) := by decide +kernel
theorem dX4_readEnd_27 : decode cX4_readEnd 27 = .ok (.iconst 1, 1) := by decide +kernel
theorem dX4_readEnd_28 : decode cX4_readEnd 28 = .ok (.iadd, 1) := by decide +kernel
theorem dX4_readEnd_29 : decode cX4_readEnd 29 = .ok (.putfield 24, 3) := by decide +kernel
theorem dX4_readEnd_32 : decode cX4_readEnd 32 = .ok (.return_, 1) := by decide +kernel
set_option maxRecDepth 20000 in
theorem ggX4_skipBlanks_X4_letterHere : GoodIn wsX4_skipBlanks wsX4_letterHere := goodIn_r _ [6, 7, 1, 8, 9, 10, 11, 12, 13, 14, 15, 16, 17, 18, 19, 20] (by decide +kernel) (by decide +kernel)
set_option maxRecDepth 20000 in
theorem gX4_skipBlanks_X4_letterHere : GoodIn wsX4_skipBlanks (wsV RX4 45 RX4 yX4_letterHere wsX4_letterHere) := goodIn_app (goodIn_of _ (by decide +kernel)) ggX4_skipBlanks_X4_letterHere
theorem dX4_skipBlanks_0 : decode cX4_skipBlanks 0 = .ok (.iconst 0, 1) := by decide +kernel
theorem dX4_skipBlanks_1 : decode cX4_skipBlanks 1 = .ok (.istore_n 1, 1) := by decide +kernel
theorem dX4_skipBlanks_2 : decode cX4_skipBlanks 2 = .ok (.iload_n 1, 1) := by decide +kernel
theorem dX4_skipBlanks_3 : decode cX4_skipBlanks 3 = .ok (.sipush 230, 3) := by decide +kernel
theorem dX4_skipBlanks_6 : decode cX4_skipBlanks 6 = .ok (.if_icmp .ge 28, 3) := by decide +kernel
theorem dX4_skipBlanks_9 : decode cX4_skipBlanks 9 = .ok (.aload_n 0, 1) := by decide +kernel
theorem dX4_skipBlanks_10 : decode cX4_skipBlanks 10 = .ok (.invokevirtual 45, 3) := by decide +kernel
theorem dX4_skipBlanks_13 : decode cX4_skipBlanks 13 = .ok (.bipush 32, 2) := by decide +kernel
theorem dX4_skipBlanks_15 : decode cX4_skipBlanks 15 = .ok (.if_icmp .ne 19, 3) := by decide +kernel
theorem dX4_skipBlanks_18 : decode cX4_skipBlanks 18 = .ok (.aload_n 0, 1) := by decide +kernel
theorem dX4_skipBlanks_19 : decode cX4_skipBlanks 19 = .ok (.dup, 1) := by decide +kernel
theorem dX4_skipBlanks_20 : decode cX4_skipBlanks 20 = .ok (.getfield 24, 3) := by decide +kernel
theorem dX4_skipBlanks_23 : decode cX4_skipBlanks 23 = .ok (.iconst 1, 1) := by decide +kernel
theorem dX4_skipBlanks_24 : decode cX4_skipBlanks 24 = .ok (.iadd, 1) := by decide +kernel
theorem dX4_skipBlanks_25 : decode cX4_skipBlanks 25 = .ok (.putfield 24, 3) := by decide +kernel
theorem dX4_skipBlanks_28 : decode cX4_skipBlanks 28 = .ok (.iinc 1 1, 3) := by decide +kernel
theorem dX4_skipBlanks_31 : decode cX4_skipBlanks 31 = .ok (.goto (-29), 3) := by decide +kernel
theorem dX4_skipBlanks_34 : decode cX4_skipBlanks 34 = .ok (.return_, 1) := by decide +kernel
set_option maxRecDepth 20000 in
theorem ggX4_letterHere_X5_get : GoodIn wsX4_letterHere wsX5_get := goodIn_r _ [7, 8, 9, 14, 15] (by decide +kernel) (by decide +kernel)
set_option maxRecDepth 20000 in
theorem gX4_letterHere_X5_get : GoodIn wsX4_letterHere (wsV RX4 98 RX5 yX5_get wsX5_get) := goodIn_app (goodIn_of _ (by decide +kernel)) ggX4_letterHere_X5_get
theorem dX4_letterHere_0 : decode cX4_letterHere 0 = .ok (.aload_n 0, 1) := by decide +kernel
theorem dX4_letterHere_1 : decode cX4_letterHere 1 = .ok (.getfield 14, 3) := by decide +kernel
theorem dX4_letterHere_4 : decode cX4_letterHere 4 = .ok (.aload_n 0, 1) := by decide +kernel
theorem dX4_letterHere_5 : decode cX4_letterHere 5 = .ok (.getfield 24, 3) := by decide +kernel
theorem dX4_letterHere_8 : decode cX4_letterHere 8 = .ok (.invokevirtual 98, 3) := by decide +kernel
theorem dX4_letterHere_11 : decode cX4_letterHere 11 = .ok (.ireturn, 1) := by decide +kernel
theorem dX4_isFigure_0 : decode cX4_isFigure 0 = .ok (.iload_n 0, 1) := by decide +kernel
theorem dX4_isFigure_1 : decode cX4_isFigure 1 = .ok (.bipush 48, 2) := by decide +kernel
theorem dX4_isFigure_3 : decode cX4_isFigure 3 = .ok (.if_icmp .lt 13, 3) := by decide +kernel
theorem dX4_isFigure_6 : decode cX4_isFigure 6 = .ok (.iload_n 0, 1) := by decide +kernel
theorem dX4_isFigure_7 : decode cX4_isFigure 7 = .ok (.bipush 57, 2) := by decide +kernel
theorem dX4_isFigure_9 : decode cX4_isFigure 9 = .ok (.if_icmp .gt 7, 3) := by decide +kernel
theorem dX4_isFigure_12 : decode cX4_isFigure 12 = .ok (.iconst 1, 1) := by decide +kernel
theorem dX4_isFigure_13 : decode cX4_isFigure 13 = .ok (.goto 4, 3) := by decide +kernel
theorem dX4_isFigure_16 : decode cX4_isFigure 16 = .ok (.iconst 0, 1) := by decide +kernel
theorem dX4_isFigure_17 : decode cX4_isFigure 17 = .ok (.ireturn, 1) := by decide +kernel
theorem dX4_blame_0 : decode cX4_blame 0 = .ok (.aload_n 0, 1) := by decide +kernel
theorem dX4_blame_1 : decode cX4_blame 1 = .ok (.getfield 27, 3) := by decide +kernel
theorem dX4_blame_4 : decode cX4_blame 4 = .ok (.ifCond .ne 13, 3) := by decide +kernel
theorem dX4_blame_7 : decode cX4_blame 7 = .ok (.aload_n 0, 1) := by decide +kernel
theorem dX4_blame_8 : decode cX4_blame 8 = .ok (.iload_n 1, 1) := by decide +kernel
theorem dX4_blame_9 : decode cX4_blame 9 = .ok (.putfield 27, 3) := by decide +kernel
theorem dX4_blame_12 : decode cX4_blame 12 = .ok (.aload_n 0, 1) := by decide +kernel
theorem dX4_blame_13 : decode cX4_blame 13 = .ok (.iload_n 2, 1) := by decide +kernel
theorem dX4_blame_14 : decode cX4_blame 14 = .ok (.putfield 20, 3) := by decide +kernel
theorem dX4_blame_17 : decode cX4_blame 17 = .ok (.return_, 1) := by decide +kernel
theorem dX5_init_0 : decode cX5_init 0 = .ok (.aload_n 0, 1) := by decide +kernel
theorem dX5_init_1 : decode cX5_init 1 = .ok (.invokespecial 3, 3) := by decide +kernel
theorem dX5_init_4 : decode cX5_init 4 = .ok (.aload_n 0, 1) := by decide +kernel
theorem dX5_init_5 : decode cX5_init 5 = .ok (.iload_n 1, 1) := by decide +kernel
theorem dX5_init_6 : decode cX5_init 6 = .ok (.iconst 0, 1) := by decide +kernel
theorem dX5_init_7 : decode cX5_init 7 = .ok (.invokestatic 9, 3) := by decide +kernel
theorem dX5_init_10 : decode cX5_init 10 = .ok (.newarray .int, 2) := by decide +kernel
theorem dX5_init_12 : decode cX5_init 12 = .ok (.putfield 15, 3) := by decide +kernel
theorem dX5_init_15 : decode cX5_init 15 = .ok (.return_, 1) := by decide +kernel
theorem dX5_add_0 : decode cX5_add 0 = .ok (.aload_n 0, 1) := by decide +kernel
theorem dX5_add_1 : decode cX5_add 1 = .ok (.getfield 21, 3) := by decide +kernel
theorem dX5_add_4 : decode cX5_add 4 = .ok (.ifCond .lt 15, 3) := by decide +kernel
theorem dX5_add_7 : decode cX5_add 7 = .ok (.aload_n 0, 1) := by decide +kernel
theorem dX5_add_8 : decode cX5_add 8 = .ok (.getfield 21, 3) := by decide +kernel
theorem dX5_add_11 : decode cX5_add 11 = .ok (.aload_n 0, 1) := by decide +kernel
theorem dX5_add_12 : decode cX5_add 12 = .ok (.getfield 15, 3) := by decide +kernel
theorem dX5_add_15 : decode cX5_add 15 = .ok (.arraylength, 1) := by decide +kernel
theorem dX5_add_16 : decode cX5_add 16 = .ok (.if_icmp .lt 6, 3) := by decide +kernel
theorem dX5_add_19 : decode cX5_add 19 = .ok (.ldc 25, 2) := by decide +kernel
theorem dX5_add_21 : decode cX5_add 21 = .ok (.ireturn, 1) := by decide +kernel
theorem dX5_add_22 : decode cX5_add 22 = .ok (.aload_n 0, 1) := by decide +kernel
theorem dX5_add_23 : decode cX5_add 23 = .ok (.getfield 15, 3) := by decide +kernel
theorem dX5_add_26 : decode cX5_add 26 = .ok (.aload_n 0, 1) := by decide +kernel
theorem dX5_add_27 : decode cX5_add 27 = .ok (.getfield 21, 3) := by decide +kernel
theorem dX5_add_30 : decode cX5_add 30 = .ok (.iload_n 1, 1) := by decide +kernel
theorem dX5_add_31 : decode cX5_add 31 = .ok (.iastore, 1) := by decide +kernel
theorem dX5_add_32 : decode cX5_add 32 = .ok (.aload_n 0, 1) := by decide +kernel
theorem dX5_add_33 : decode cX5_add 33 = .ok (.dup, 1) := by decide +kernel
theorem dX5_add_34 : decode cX5_add 34 = .ok (.getfield 21, 3) := by decide +kernel
theorem dX5_add_37 : decode cX5_add 37 = .ok (.iconst 1, 1) := by decide +kernel
theorem dX5_add_38 : decode cX5_add 38 = .ok (.iadd, 1) := by decide +kernel
theorem dX5_add_39 : decode cX5_add 39 = .ok (.putfield 21, 3) := by decide +kernel
theorem dX5_add_42 : decode cX5_add 42 = .ok (.aload_n 0, 1) := by decide +kernel
theorem dX5_add_43 : decode cX5_add 43 = .ok (.getfield 21, 3) := by decide +kernel
theorem dX5_add_46 : decode cX5_add 46 = .ok (.ireturn, 1) := by decide +kernel
theorem dX5_get_0 : decode cX5_get 0 = .ok (.iload_n 1, 1) := by decide +kernel
theorem dX5_get_1 : decode cX5_get 1 = .ok (.ifCond .lt 29, 3) := by decide +kernel
theorem dX5_get_4 : decode cX5_get 4 = .ok (.iload_n 1, 1) := by decide +kernel
theorem dX5_get_5 : decode cX5_get 5 = .ok (.aload_n 0, 1) := by decide +kernel
theorem dX5_get_6 : decode cX5_get 6 = .ok (.getfield 21, 3) := by decide +kernel
theorem dX5_get_9 : decode cX5_get 9 = .ok (.if_icmp .ge 21, 3) := by decide +kernel
theorem dX5_get_12 : decode cX5_get 12 = .ok (.iload_n 1, 1) := by decide +kernel
theorem dX5_get_13 : decode cX5_get 13 = .ok (.aload_n 0, 1) := by decide +kernel
theorem dX5_get_14 : decode cX5_get 14 = .ok (.getfield 15, 3) := by decide +kernel
theorem dX5_get_17 : decode cX5_get 17 = .ok (.arraylength, 1) := by decide +kernel
theorem dX5_get_18 : decode cX5_get 18 = .ok (.if_icmp .ge 12, 3) := by decide +kernel
theorem dX5_get_21 : decode cX5_get 21 = .ok (.aload_n 0, 1) := by decide +kernel
theorem dX5_get_22 : decode cX5_get 22 = .ok (.getfield 15, 3) := by decide +kernel
theorem dX5_get_25 : decode cX5_get 25 = .ok (.iload_n 1, 1) := by decide +kernel
theorem dX5_get_26 : decode cX5_get 26 = .ok (.iaload, 1) := by decide +kernel
theorem dX5_get_27 : decode cX5_get 27 = .ok (.goto 4, 3) := by decide +kernel
theorem dX5_get_30 : decode cX5_get 30 = .ok (.iconst (-1), 1) := by decide +kernel
theorem dX5_get_31 : decode cX5_get 31 = .ok (.ireturn, 1) := by decide +kernel
theorem dX5_clear_0 : decode cX5_clear 0 = .ok (.aload_n 0, 1) := by decide +kernel
theorem dX5_clear_1 : decode cX5_clear 1 = .ok (.iconst 0, 1) := by decide +kernel
theorem dX5_clear_2 : decode cX5_clear 2 = .ok (.putfield 21, 3) := by decide +kernel
theorem dX5_clear_5 : decode cX5_clear 5 = .ok (.return_, 1) := by decide +kernel
theorem dX6_init_0 : decode cX6_init 0 = .ok (.aload_n 0, 1) := by decide +kernel
theorem dX6_init_1 : decode cX6_init 1 = .ok (.invokespecial 3, 3) := by decide +kernel
theorem dX6_init_4 : decode cX6_init 4 = .ok (.aload_n 0, 1) := by decide +kernel
theorem dX6_init_5 : decode cX6_init 5 = .ok (.iconst (-1), 1) := by decide +kernel
theorem dX6_init_6 : decode cX6_init 6 = .ok (.putfield 9, 3) := by decide +kernel
theorem dX6_init_9 : decode cX6_init 9 = .ok (.aload_n 0, 1) := by decide +kernel
theorem dX6_init_10 : decode cX6_init 10 = .ok (.bipush 9, 2) := by decide +kernel
theorem dX6_init_12 : decode cX6_init 12 = .ok (.newarray .int, 2) := by decide +kernel
theorem dX6_init_14 : decode cX6_init 14 = .ok (.putfield 15, 3) := by decide +kernel
theorem dX6_init_17 : decode cX6_init 17 = .ok (.return_, 1) := by decide +kernel
set_option maxRecDepth 20000 in
theorem ggX6_begin_X10_copyRow : GoodIn wsX6_begin wsX10_copyRow := goodIn_r _ [11] (by decide +kernel) (by decide +kernel)
set_option maxRecDepth 20000 in
theorem gX6_begin_X10_copyRow_n45 : GoodIn wsX6_begin (wsX10_copyRow) := ggX6_begin_X10_copyRow
theorem dX6_begin_0 : decode cX6_begin 0 = .ok (.aload_n 0, 1) := by decide +kernel
theorem dX6_begin_1 : decode cX6_begin 1 = .ok (.iconst 0, 1) := by decide +kernel
theorem dX6_begin_2 : decode cX6_begin 2 = .ok (.putfield 19, 3) := by decide +kernel
theorem dX6_begin_5 : decode cX6_begin 5 = .ok (.aload_n 0, 1) := by decide +kernel
theorem dX6_begin_6 : decode cX6_begin 6 = .ok (.iconst 0, 1) := by decide +kernel
theorem dX6_begin_7 : decode cX6_begin 7 = .ok (.putfield 22, 3) := by decide +kernel
theorem dX6_begin_10 : decode cX6_begin 10 = .ok (.aload_n 0, 1) := by decide +kernel
theorem dX6_begin_11 : decode cX6_begin 11 = .ok (.iconst (-1), 1) := by decide +kernel
theorem dX6_begin_12 : decode cX6_begin 12 = .ok (.putfield 9, 3) := by decide +kernel
theorem dX6_begin_15 : decode cX6_begin 15 = .ok (.aload_n 0, 1) := by decide +kernel
theorem dX6_begin_16 : decode cX6_begin 16 = .ok (.iconst 0, 1) := by decide +kernel
theorem dX6_begin_17 : decode cX6_begin 17 = .ok (.putfield 25, 3) := by decide +kernel
theorem dX6_begin_20 : decode cX6_begin 20 = .ok (.aload_n 0, 1) := by decide +kernel
theorem dX6_begin_21 : decode cX6_begin 21 = .ok (.iconst 0, 1) := by decide +kernel
theorem dX6_begin_22 : decode cX6_begin 22 = .ok (.putfield 28, 3) := by decide +kernel
theorem dX6_begin_25 : decode cX6_begin 25 = .ok (.aload_n 0, 1) := by decide +kernel
theorem dX6_begin_26 : decode cX6_begin 26 = .ok (.iconst 0, 1) := by decide +kernel
theorem dX6_begin_27 : decode cX6_begin 27 = .ok (.putfield 31, 3) := by decide +kernel
theorem dX6_begin_30 : decode cX6_begin 30 = .ok (.aload_n 0, 1) := by decide +kernel
theorem dX6_begin_31 : decode cX6_begin 31 = .ok (.aload_n 1, 1) := by decide +kernel
theorem dX6_begin_32 : decode cX6_begin 32 = .ok (.getfield 34, 3) := by decide +kernel
theorem dX6_begin_35 : decode cX6_begin 35 = .ok (.putfield 39, 3) := by decide +kernel
theorem dX6_begin_38 : decode cX6_begin 38 = .ok (.aload_n 1, 1) := by decide +kernel
theorem dX6_begin_39 : decode cX6_begin 39 = .ok (.getfield 42, 3) := by decide +kernel
theorem dX6_begin_42 : decode cX6_begin 42 = .ok (.aload_n 0, 1) := by decide +kernel
theorem dX6_begin_43 : decode cX6_begin 43 = .ok (.getfield 15, 3) := by decide +kernel
theorem dX6_begin_46 : decode cX6_begin 46 = .ok (.invokestatic 45, 3) := by decide +kernel
theorem dX6_begin_49 : decode cX6_begin 49 = .ok (.return_, 1) := by decide +kernel
set_option maxRecDepth 20000 in
theorem ggX6_become_X10_copyRow : GoodIn wsX6_become wsX10_copyRow := goodIn_r _ [11] (by decide +kernel) (by decide +kernel)
set_option maxRecDepth 20000 in
theorem gX6_become_X10_copyRow_n45 : GoodIn wsX6_become (wsX10_copyRow) := ggX6_become_X10_copyRow
theorem dX6_become_0 : decode cX6_become 0 = .ok (.aload_n 0, 1) := by decide +kernel
theorem dX6_become_1 : decode cX6_become 1 = .ok (.aload_n 1, 1) := by decide +kernel
theorem dX6_become_2 : decode cX6_become 2 = .ok (.getfield 19, 3) := by decide +kernel
theorem dX6_become_5 : decode cX6_become 5 = .ok (.putfield 19, 3) := by decide +kernel
theorem dX6_become_8 : decode cX6_become 8 = .ok (.aload_n 0, 1) := by decide +kernel
theorem dX6_become_9 : decode cX6_become 9 = .ok (.aload_n 1, 1) := by decide +kernel
theorem dX6_become_10 : decode cX6_become 10 = .ok (.getfield 22, 3) := by decide +kernel
theorem dX6_become_13 : decode cX6_become 13 = .ok (.putfield 22, 3) := by decide +kernel
theorem dX6_become_16 : decode cX6_become 16 = .ok (.aload_n 0, 1) := by decide +kernel
theorem dX6_become_17 : decode cX6_become 17 = .ok (.aload_n 1, 1) := by decide +kernel
theorem dX6_become_18 : decode cX6_become 18 = .ok (.getfield 9, 3) := by decide +kernel
theorem dX6_become_21 : decode cX6_become 21 = .ok (.putfield 9, 3) := by decide +kernel
theorem dX6_become_24 : decode cX6_become 24 = .ok (.aload_n 0, 1) := by decide +kernel
theorem dX6_become_25 : decode cX6_become 25 = .ok (.aload_n 1, 1) := by decide +kernel
theorem dX6_become_26 : decode cX6_become 26 = .ok (.getfield 25, 3) := by decide +kernel
theorem dX6_become_29 : decode cX6_become 29 = .ok (.putfield 25, 3) := by decide +kernel
theorem dX6_become_32 : decode cX6_become 32 = .ok (.aload_n 0, 1) := by decide +kernel
theorem dX6_become_33 : decode cX6_become 33 = .ok (.aload_n 1, 1) := by decide +kernel
theorem dX6_become_34 : decode cX6_become 34 = .ok (.getfield 28, 3) := by decide +kernel
theorem dX6_become_37 : decode cX6_become 37 = .ok (.putfield 28, 3) := by decide +kernel
theorem dX6_become_40 : decode cX6_become 40 = .ok (.aload_n 0, 1) := by decide +kernel
theorem dX6_become_41 : decode cX6_become 41 = .ok (.aload_n 1, 1) := by decide +kernel
theorem dX6_become_42 : decode cX6_become 42 = .ok (.getfield 31, 3) := by decide +kernel
theorem dX6_become_45 : decode cX6_become 45 = .ok (.putfield 31, 3) := by decide +kernel
theorem dX6_become_48 : decode cX6_become 48 = .ok (.aload_n 0, 1) := by decide +kernel
theorem dX6_become_49 : decode cX6_become 49 = .ok (.aload_n 1, 1) := by decide +kernel
theorem dX6_become_50 : decode cX6_become 50 = .ok (.getfield 39, 3) := by decide +kernel
theorem dX6_become_53 : decode cX6_become 53 = .ok (.putfield 39, 3) := by decide +kernel
theorem dX6_become_56 : decode cX6_become 56 = .ok (.aload_n 1, 1) := by decide +kernel
theorem dX6_become_57 : decode cX6_become 57 = .ok (.getfield 15, 3) := by decide +kernel
theorem dX6_become_60 : decode cX6_become 60 = .ok (.aload_n 0, 1) := by decide +kernel
theorem dX6_become_61 : decode cX6_become 61 = .ok (.getfield 15, 3) := by decide +kernel
theorem dX6_become_64 : decode cX6_become 64 = .ok (.invokestatic 45, 3) := by decide +kernel
theorem dX6_become_67 : decode cX6_become 67 = .ok (.return_, 1) := by decide +kernel
theorem dX6_passMonth_0 : decode cX6_passMonth 0 = .ok (.aload_n 0, 1) := by decide +kernel
theorem dX6_passMonth_1 : decode cX6_passMonth 1 = .ok (.iconst 0, 1) := by decide +kernel
theorem dX6_passMonth_2 : decode cX6_passMonth 2 = .ok (.putfield 28, 3) := by decide +kernel
theorem dX6_passMonth_5 : decode cX6_passMonth 5 = .ok (.aload_n 0, 1) := by decide +kernel
theorem dX6_passMonth_6 : decode cX6_passMonth 6 = .ok (.dup, 1) := by decide +kernel
theorem dX6_passMonth_7 : decode cX6_passMonth 7 = .ok (.getfield 22, 3) := by decide +kernel
theorem dX6_passMonth_10 : decode cX6_passMonth 10 = .ok (.iconst 1, 1) := by decide +kernel
theorem dX6_passMonth_11 : decode cX6_passMonth 11 = .ok (.iadd, 1) := by decide +kernel
theorem dX6_passMonth_12 : decode cX6_passMonth 12 = .ok (.putfield 22, 3) := by decide +kernel
theorem dX6_passMonth_15 : decode cX6_passMonth 15 = .ok (.return_, 1) := by decide +kernel
set_option maxRecDepth 20000 in
theorem ggX6_standingAt_X10_at : GoodIn wsX6_standingAt wsX10_at := goodIn_r _ [4] (by decide +kernel) (by decide +kernel)
set_option maxRecDepth 20000 in
theorem gX6_standingAt_X10_at_n49 : GoodIn wsX6_standingAt (wsX10_at) := ggX6_standingAt_X10_at
theorem dX6_standingAt_0 : decode cX6_standingAt 0 = .ok (.iconst 0, 1) := by decide +kernel
theorem dX6_standingAt_1 : decode cX6_standingAt 1 = .ok (.istore_n 3, 1) := by decide +kernel
theorem dX6_standingAt_2 : decode cX6_standingAt 2 = .ok (.iconst 0, 1) := by decide +kernel
theorem dX6_standingAt_3 : decode cX6_standingAt 3 = .ok (.istore 4, 2) := by decide +kernel
theorem dX6_standingAt_5 : decode cX6_standingAt 5 = .ok (.iload 4, 2) := by decide +kernel
theorem dX6_standingAt_7 : decode cX6_standingAt 7 = .ok (.iload_n 2, 1) := by decide +kernel
theorem dX6_standingAt_8 : decode cX6_standingAt 8 = .ok (.if_icmp .ge 29, 3) := by decide +kernel
theorem dX6_standingAt_11 : decode cX6_standingAt 11 = .ok (.aload_n 0, 1) := by decide +kernel
theorem dX6_standingAt_12 : decode cX6_standingAt 12 = .ok (.getfield 15, 3) := by decide +kernel
theorem dX6_standingAt_15 : decode cX6_standingAt 15 = .ok (.iload 4, 2) := by decide +kernel
theorem dX6_standingAt_17 : decode cX6_standingAt 17 = .ok (.invokestatic 49, 3) := by decide +kernel
theorem dX6_standingAt_20 : decode cX6_standingAt 20 = .ok (.iload_n 1, 1) := by decide +kernel
theorem dX6_standingAt_21 : decode cX6_standingAt 21 = .ok (.if_icmp .ne 10, 3) := by decide +kernel
theorem dX6_standingAt_24 : decode cX6_standingAt 24 = .ok (.iload_n 3, 1) := by decide +kernel
theorem dX6_standingAt_25 : decode cX6_standingAt 25 = .ok (.iconst 1, 1) := by decide +kernel
theorem dX6_standingAt_26 : decode cX6_standingAt 26 = .ok (.iload 4, 2) := by decide +kernel
theorem dX6_standingAt_28 : decode cX6_standingAt 28 = .ok (.ishl, 1) := by decide +kernel
theorem dX6_standingAt_29 : decode cX6_standingAt 29 = .ok (.ior, 1) := by decide +kernel
theorem dX6_standingAt_30 : decode cX6_standingAt 30 = .ok (.istore_n 3, 1) := by decide +kernel
theorem dX6_standingAt_31 : decode cX6_standingAt 31 = .ok (.iinc 4 1, 3) := by decide +kernel
theorem dX6_standingAt_34 : decode cX6_standingAt 34 = .ok (.goto (-29), 3) := by decide +kernel
theorem dX6_standingAt_37 : decode cX6_standingAt 37 = .ok (.iload_n 3, 1) := by decide +kernel
theorem dX6_standingAt_38 : decode cX6_standingAt 38 = .ok (.ireturn, 1) := by decide +kernel
theorem dX7_init_0 : decode cX7_init 0 = .ok (.aload_n 0, 1) := by decide +kernel
theorem dX7_init_1 : decode cX7_init 1 = .ok (.invokespecial 3, 3) := by decide +kernel
theorem dX7_init_4 : decode cX7_init 4 = .ok (.aload_n 0, 1) := by decide +kernel
theorem dX7_init_5 : decode cX7_init 5 = .ok (.bipush 8, 2) := by decide +kernel
theorem dX7_init_7 : decode cX7_init 7 = .ok (.newarray .int, 2) := by decide +kernel
theorem dX7_init_9 : decode cX7_init 9 = .ok (.putfield 9, 3) := by decide +kernel
theorem dX7_init_12 : decode cX7_init 12 = .ok (.aload_n 0, 1) := by decide +kernel
theorem dX7_init_13 : decode cX7_init 13 = .ok (.bipush 9, 2) := by decide +kernel
theorem dX7_init_15 : decode cX7_init 15 = .ok (.newarray .int, 2) := by decide +kernel
theorem dX7_init_17 : decode cX7_init 17 = .ok (.putfield 15, 3) := by decide +kernel
theorem dX7_init_20 : decode cX7_init 20 = .ok (.aload_n 0, 1) := by decide +kernel
theorem dX7_init_21 : decode cX7_init 21 = .ok (.bipush 9, 2) := by decide +kernel
theorem dX7_init_23 : decode cX7_init 23 = .ok (.newarray .int, 2) := by decide +kernel
theorem dX7_init_25 : decode cX7_init 25 = .ok (.putfield 18, 3) := by decide +kernel
theorem dX7_init_28 : decode cX7_init 28 = .ok (.aload_n 0, 1) := by decide +kernel
theorem dX7_init_29 : decode cX7_init 29 = .ok (.bipush 9, 2) := by decide +kernel
theorem dX7_init_31 : decode cX7_init 31 = .ok (.newarray .int, 2) := by decide +kernel
theorem dX7_init_33 : decode cX7_init 33 = .ok (.putfield 21, 3) := by decide +kernel
theorem dX7_init_36 : decode cX7_init 36 = .ok (.return_, 1) := by decide +kernel
theorem dX7_clear_0 : decode cX7_clear 0 = .ok (.aload_n 0, 1) := by decide +kernel
theorem dX7_clear_1 : decode cX7_clear 1 = .ok (.iconst 0, 1) := by decide +kernel
theorem dX7_clear_2 : decode cX7_clear 2 = .ok (.putfield 24, 3) := by decide +kernel
theorem dX7_clear_5 : decode cX7_clear 5 = .ok (.aload_n 0, 1) := by decide +kernel
theorem dX7_clear_6 : decode cX7_clear 6 = .ok (.iconst 0, 1) := by decide +kernel
theorem dX7_clear_7 : decode cX7_clear 7 = .ok (.putfield 28, 3) := by decide +kernel
theorem dX7_clear_10 : decode cX7_clear 10 = .ok (.aload_n 0, 1) := by decide +kernel
theorem dX7_clear_11 : decode cX7_clear 11 = .ok (.iconst 0, 1) := by decide +kernel
theorem dX7_clear_12 : decode cX7_clear 12 = .ok (.putfield 31, 3) := by decide +kernel
theorem dX7_clear_15 : decode cX7_clear 15 = .ok (.aload_n 0, 1) := by decide +kernel
theorem dX7_clear_16 : decode cX7_clear 16 = .ok (.iconst 0, 1) := by decide +kernel
theorem dX7_clear_17 : decode cX7_clear 17 = .ok (.putfield 34, 3) := by decide +kernel
theorem dX7_clear_20 : decode cX7_clear 20 = .ok (.return_, 1) := by decide +kernel
set_option maxRecDepth 20000 in
theorem ggX7_become_X10_copyRow : GoodIn wsX7_become wsX10_copyRow := goodIn_r _ [11] (by decide +kernel) (by decide +kernel)
set_option maxRecDepth 20000 in
theorem gX7_become_X10_copyRow_n37 : GoodIn wsX7_become (wsX10_copyRow) := ggX7_become_X10_copyRow
theorem dX7_become_0 : decode cX7_become 0 = .ok (.aload_n 0, 1) := by decide +kernel
theorem dX7_become_1 : decode cX7_become 1 = .ok (.aload_n 1, 1) := by decide +kernel
theorem dX7_become_2 : decode cX7_become 2 = .ok (.getfield 24, 3) := by decide +kernel
theorem dX7_become_5 : decode cX7_become 5 = .ok (.putfield 24, 3) := by decide +kernel
theorem dX7_become_8 : decode cX7_become 8 = .ok (.aload_n 0, 1) := by decide +kernel
theorem dX7_become_9 : decode cX7_become 9 = .ok (.aload_n 1, 1) := by decide +kernel
theorem dX7_become_10 : decode cX7_become 10 = .ok (.getfield 28, 3) := by decide +kernel
theorem dX7_become_13 : decode cX7_become 13 = .ok (.putfield 28, 3) := by decide +kernel
theorem dX7_become_16 : decode cX7_become 16 = .ok (.aload_n 0, 1) := by decide +kernel
theorem dX7_become_17 : decode cX7_become 17 = .ok (.aload_n 1, 1) := by decide +kernel
theorem dX7_become_18 : decode cX7_become 18 = .ok (.getfield 31, 3) := by decide +kernel
theorem dX7_become_21 : decode cX7_become 21 = .ok (.putfield 31, 3) := by decide +kernel
theorem dX7_become_24 : decode cX7_become 24 = .ok (.aload_n 0, 1) := by decide +kernel
theorem dX7_become_25 : decode cX7_become 25 = .ok (.aload_n 1, 1) := by decide +kernel
theorem dX7_become_26 : decode cX7_become 26 = .ok (.getfield 34, 3) := by decide +kernel
theorem dX7_become_29 : decode cX7_become 29 = .ok (.putfield 34, 3) := by decide +kernel
theorem dX7_become_32 : decode cX7_become 32 = .ok (.aload_n 1, 1) := by decide +kernel
theorem dX7_become_33 : decode cX7_become 33 = .ok (.getfield 9, 3) := by decide +kernel
theorem dX7_become_36 : decode cX7_become 36 = .ok (.aload_n 0, 1) := by decide +kernel
theorem dX7_become_37 : decode cX7_become 37 = .ok (.getfield 9, 3) := by decide +kernel
theorem dX7_become_40 : decode cX7_become 40 = .ok (.invokestatic 37, 3) := by decide +kernel
theorem dX7_become_43 : decode cX7_become 43 = .ok (.aload_n 1, 1) := by decide +kernel
theorem dX7_become_44 : decode cX7_become 44 = .ok (.getfield 15, 3) := by decide +kernel
theorem dX7_become_47 : decode cX7_become 47 = .ok (.aload_n 0, 1) := by decide +kernel
theorem dX7_become_48 : decode cX7_become 48 = .ok (.getfield 15, 3) := by decide +kernel
theorem dX7_become_51 : decode cX7_become 51 = .ok (.invokestatic 37, 3) := by decide +kernel
theorem dX7_become_54 : decode cX7_become 54 = .ok (.aload_n 1, 1) := by decide +kernel
theorem dX7_become_55 : decode cX7_become 55 = .ok (.getfield 18, 3) := by decide +kernel
theorem dX7_become_58 : decode cX7_become 58 = .ok (.aload_n 0, 1) := by decide +kernel
theorem dX7_become_59 : decode cX7_become 59 = .ok (.getfield 18, 3) := by decide +kernel
theorem dX7_become_62 : decode cX7_become 62 = .ok (.invokestatic 37, 3) := by decide +kernel
theorem dX7_become_65 : decode cX7_become 65 = .ok (.aload_n 1, 1) := by decide +kernel
theorem dX7_become_66 : decode cX7_become 66 = .ok (.getfield 21, 3) := by decide +kernel
theorem dX7_become_69 : decode cX7_become 69 = .ok (.aload_n 0, 1) := by decide +kernel
theorem dX7_become_70 : decode cX7_become 70 = .ok (.getfield 21, 3) := by decide +kernel
theorem dX7_become_73 : decode cX7_become 73 = .ok (.invokestatic 37, 3) := by decide +kernel
theorem dX7_become_76 : decode cX7_become 76 = .ok (.return_, 1) := by decide +kernel
set_option maxRecDepth 20000 in
theorem ggX7_addCorner_X10_put : GoodIn wsX7_addCorner wsX10_put := goodIn_r _ [6] (by decide +kernel) (by decide +kernel)
set_option maxRecDepth 20000 in
theorem gX7_addCorner_X10_put_n41 : GoodIn wsX7_addCorner (wsX10_put) := ggX7_addCorner_X10_put
set_option maxRecDepth 20000 in
theorem ggX7_addCorner_X10_withBit : GoodIn wsX7_addCorner wsX10_withBit := goodIn_r _ [8] (by decide +kernel) (by decide +kernel)
set_option maxRecDepth 20000 in
theorem gX7_addCorner_X10_withBit_n45 : GoodIn wsX7_addCorner (wsX10_withBit) := ggX7_addCorner_X10_withBit
theorem dX7_addCorner_0 : decode cX7_addCorner 0 = .ok (.aload_n 0, 1) := by decide +kernel
theorem dX7_addCorner_1 : decode cX7_addCorner 1 = .ok (.getfield 9, 3) := by decide +kernel
theorem dX7_addCorner_4 : decode cX7_addCorner 4 = .ok (.aload_n 0, 1) := by decide +kernel
theorem dX7_addCorner_5 : decode cX7_addCorner 5 = .ok (.getfield 28, 3) := by decide +kernel
theorem dX7_addCorner_8 : decode cX7_addCorner 8 = .ok (.iload_n 1, 1) := by decide +kernel
theorem dX7_addCorner_9 : decode cX7_addCorner 9 = .ok (.invokestatic 41, 3) := by decide +kernel
theorem dX7_addCorner_12 : decode cX7_addCorner 12 = .ok (.aload_n 0, 1) := by decide +kernel
theorem dX7_addCorner_13 : decode cX7_addCorner 13 = .ok (.aload_n 0, 1) := by decide +kernel
theorem dX7_addCorner_14 : decode cX7_addCorner 14 = .ok (.getfield 34, 3) := by decide +kernel
theorem dX7_addCorner_17 : decode cX7_addCorner 17 = .ok (.aload_n 0, 1) := by decide +kernel
theorem dX7_addCorner_18 : decode cX7_addCorner 18 = .ok (.getfield 28, 3) := by decide +kernel
theorem dX7_addCorner_21 : decode cX7_addCorner 21 = .ok (.iload_n 2, 1) := by decide +kernel
theorem dX7_addCorner_22 : decode cX7_addCorner 22 = .ok (.invokestatic 45, 3) := by decide +kernel
theorem dX7_addCorner_25 : decode cX7_addCorner 25 = .ok (.putfield 34, 3) := by decide +kernel
theorem dX7_addCorner_28 : decode cX7_addCorner 28 = .ok (.aload_n 0, 1) := by decide +kernel
theorem dX7_addCorner_29 : decode cX7_addCorner 29 = .ok (.dup, 1) := by decide +kernel
theorem dX7_addCorner_30 : decode cX7_addCorner 30 = .ok (.getfield 28, 3) := by decide +kernel
theorem dX7_addCorner_33 : decode cX7_addCorner 33 = .ok (.iconst 1, 1) := by decide +kernel
theorem dX7_addCorner_34 : decode cX7_addCorner 34 = .ok (.iadd, 1) := by decide +kernel
theorem dX7_addCorner_35 : decode cX7_addCorner 35 = .ok (.putfield 28, 3) := by decide +kernel
theorem dX7_addCorner_38 : decode cX7_addCorner 38 = .ok (.return_, 1) := by decide +kernel
set_option maxRecDepth 20000 in
theorem ggX7_addHearer_X10_put : GoodIn wsX7_addHearer wsX10_put := goodIn_r _ [7] (by decide +kernel) (by decide +kernel)
set_option maxRecDepth 20000 in
theorem gX7_addHearer_X10_put_n41 : GoodIn wsX7_addHearer (wsX10_put) := ggX7_addHearer_X10_put
theorem dX7_addHearer_0 : decode cX7_addHearer 0 = .ok (.aload_n 0, 1) := by decide +kernel
theorem dX7_addHearer_1 : decode cX7_addHearer 1 = .ok (.getfield 15, 3) := by decide +kernel
theorem dX7_addHearer_4 : decode cX7_addHearer 4 = .ok (.aload_n 0, 1) := by decide +kernel
theorem dX7_addHearer_5 : decode cX7_addHearer 5 = .ok (.getfield 31, 3) := by decide +kernel
theorem dX7_addHearer_8 : decode cX7_addHearer 8 = .ok (.iload_n 1, 1) := by decide +kernel
theorem dX7_addHearer_9 : decode cX7_addHearer 9 = .ok (.invokestatic 41, 3) := by decide +kernel
theorem dX7_addHearer_12 : decode cX7_addHearer 12 = .ok (.aload_n 0, 1) := by decide +kernel
theorem dX7_addHearer_13 : decode cX7_addHearer 13 = .ok (.getfield 18, 3) := by decide +kernel
theorem dX7_addHearer_16 : decode cX7_addHearer 16 = .ok (.aload_n 0, 1) := by decide +kernel
theorem dX7_addHearer_17 : decode cX7_addHearer 17 = .ok (.getfield 31, 3) := by decide +kernel
theorem dX7_addHearer_20 : decode cX7_addHearer 20 = .ok (.iload_n 2, 1) := by decide +kernel
theorem dX7_addHearer_21 : decode cX7_addHearer 21 = .ok (.invokestatic 41, 3) := by decide +kernel
theorem dX7_addHearer_24 : decode cX7_addHearer 24 = .ok (.aload_n 0, 1) := by decide +kernel
theorem dX7_addHearer_25 : decode cX7_addHearer 25 = .ok (.getfield 21, 3) := by decide +kernel
theorem dX7_addHearer_28 : decode cX7_addHearer 28 = .ok (.aload_n 0, 1) := by decide +kernel
theorem dX7_addHearer_29 : decode cX7_addHearer 29 = .ok (.getfield 31, 3) := by decide +kernel
theorem dX7_addHearer_32 : decode cX7_addHearer 32 = .ok (.iload_n 3, 1) := by decide +kernel
theorem dX7_addHearer_33 : decode cX7_addHearer 33 = .ok (.bipush 8, 2) := by decide +kernel
theorem dX7_addHearer_35 : decode cX7_addHearer 35 = .ok (.if_icmp .ne 7, 3) := by decide +kernel
theorem dX7_addHearer_38 : decode cX7_addHearer 38 = .ok (.iconst (-1), 1) := by decide +kernel
theorem dX7_addHearer_39 : decode cX7_addHearer 39 = .ok (.goto 4, 3) := by decide +kernel
theorem dX7_addHearer_42 : decode cX7_addHearer 42 = .ok (.iload_n 3, 1) := by decide +kernel
theorem dX7_addHearer_43 : decode cX7_addHearer 43 = .ok (.invokestatic 41, 3) := by decide +kernel
theorem dX7_addHearer_46 : decode cX7_addHearer 46 = .ok (.aload_n 0, 1) := by decide +kernel
theorem dX7_addHearer_47 : decode cX7_addHearer 47 = .ok (.dup, 1) := by decide +kernel
theorem dX7_addHearer_48 : decode cX7_addHearer 48 = .ok (.getfield 31, 3) := by decide +kernel
theorem dX7_addHearer_51 : decode cX7_addHearer 51 = .ok (.iconst 1, 1) := by decide +kernel
theorem dX7_addHearer_52 : decode cX7_addHearer 52 = .ok (.iadd, 1) := by decide +kernel
theorem dX7_addHearer_53 : decode cX7_addHearer 53 = .ok (.putfield 31, 3) := by decide +kernel
theorem dX7_addHearer_56 : decode cX7_addHearer 56 = .ok (.return_, 1) := by decide +kernel
theorem dX7_stands_0 : decode cX7_stands 0 = .ok (.aload_n 0, 1) := by decide +kernel
theorem dX7_stands_1 : decode cX7_stands 1 = .ok (.getfield 24, 3) := by decide +kernel
theorem dX7_stands_4 : decode cX7_stands 4 = .ok (.ifCond .eq 7, 3) := by decide +kernel
theorem dX7_stands_7 : decode cX7_stands 7 = .ok (.iconst 1, 1) := by decide +kernel
theorem dX7_stands_8 : decode cX7_stands 8 = .ok (.goto 4, 3) := by decide +kernel
theorem dX7_stands_11 : decode cX7_stands 11 = .ok (.iconst 0, 1) := by decide +kernel
theorem dX7_stands_12 : decode cX7_stands 12 = .ok (.ireturn, 1) := by decide +kernel
theorem dX7_hasCorner_0 : decode cX7_hasCorner 0 = .ok (.iload_n 1, 1) := by decide +kernel
theorem dX7_hasCorner_1 : decode cX7_hasCorner 1 = .ok (.ifCond .lt 15, 3) := by decide +kernel
theorem dX7_hasCorner_4 : decode cX7_hasCorner 4 = .ok (.iload_n 1, 1) := by decide +kernel
theorem dX7_hasCorner_5 : decode cX7_hasCorner 5 = .ok (.aload_n 0, 1) := by decide +kernel
theorem dX7_hasCorner_6 : decode cX7_hasCorner 6 = .ok (.getfield 28, 3) := by decide +kernel
theorem dX7_hasCorner_9 : decode cX7_hasCorner 9 = .ok (.if_icmp .ge 7, 3) := by decide +kernel
theorem dX7_hasCorner_12 : decode cX7_hasCorner 12 = .ok (.iconst 1, 1) := by decide +kernel
theorem dX7_hasCorner_13 : decode cX7_hasCorner 13 = .ok (.goto 4, 3) := by decide +kernel
theorem dX7_hasCorner_16 : decode cX7_hasCorner 16 = .ok (.iconst 0, 1) := by decide +kernel
theorem dX7_hasCorner_17 : decode cX7_hasCorner 17 = .ok (.ireturn, 1) := by decide +kernel
theorem dX7_hasHearer_0 : decode cX7_hasHearer 0 = .ok (.iload_n 1, 1) := by decide +kernel
theorem dX7_hasHearer_1 : decode cX7_hasHearer 1 = .ok (.ifCond .lt 15, 3) := by decide +kernel
theorem dX7_hasHearer_4 : decode cX7_hasHearer 4 = .ok (.iload_n 1, 1) := by decide +kernel
theorem dX7_hasHearer_5 : decode cX7_hasHearer 5 = .ok (.aload_n 0, 1) := by decide +kernel
theorem dX7_hasHearer_6 : decode cX7_hasHearer 6 = .ok (.getfield 31, 3) := by decide +kernel
theorem dX7_hasHearer_9 : decode cX7_hasHearer 9 = .ok (.if_icmp .ge 7, 3) := by decide +kernel
theorem dX7_hasHearer_12 : decode cX7_hasHearer 12 = .ok (.iconst 1, 1) := by decide +kernel
theorem dX7_hasHearer_13 : decode cX7_hasHearer 13 = .ok (.goto 4, 3) := by decide +kernel
theorem dX7_hasHearer_16 : decode cX7_hasHearer 16 = .ok (.iconst 0, 1) := by decide +kernel
theorem dX7_hasHearer_17 : decode cX7_hasHearer 17 = .ok (.ireturn, 1) := by decide +kernel
theorem dX7_allows_0 : decode cX7_allows 0 = .ok (.iload_n 1, 1) := by decide +kernel
theorem dX7_allows_1 : decode cX7_allows 1 = .ok (.aload_n 0, 1) := by decide +kernel
theorem dX7_allows_2 : decode cX7_allows 2 = .ok (.getfield 24, 3) := by decide +kernel
theorem dX7_allows_5 : decode cX7_allows 5 = .ok (.iconst (-1), 1) := by decide +kernel
theorem dX7_allows_6 : decode cX7_allows 6 = .ok (.ixor, 1) := by decide +kernel
theorem dX7_allows_7 : decode cX7_allows 7 = .ok (.iand, 1) := by decide +kernel
theorem dX7_allows_8 : decode cX7_allows 8 = .ok (.ifCond .ne 7, 3) := by decide +kernel
theorem dX7_allows_11 : decode cX7_allows 11 = .ok (.iconst 1, 1) := by decide +kernel
theorem dX7_allows_12 : decode cX7_allows 12 = .ok (.goto 4, 3) := by decide +kernel
theorem dX7_allows_15 : decode cX7_allows 15 = .ok (.iconst 0, 1) := by decide +kernel
theorem dX7_allows_16 : decode cX7_allows 16 = .ok (.ireturn, 1) := by decide +kernel
set_option maxRecDepth 20000 in
theorem ggX7_beerOf_X10_has : GoodIn wsX7_beerOf wsX10_has := goodIn_r _ [5] (by decide +kernel) (by decide +kernel)
set_option maxRecDepth 20000 in
theorem gX7_beerOf_X10_has_n49 : GoodIn wsX7_beerOf (wsX10_has) := ggX7_beerOf_X10_has
set_option maxRecDepth 20000 in
theorem ggX7_beerOf_X10_at : GoodIn wsX7_beerOf wsX10_at := goodIn_r _ [7] (by decide +kernel) (by decide +kernel)
set_option maxRecDepth 20000 in
theorem gX7_beerOf_X10_at_n53 : GoodIn wsX7_beerOf (wsX10_at) := ggX7_beerOf_X10_at
theorem dX7_beerOf_0 : decode cX7_beerOf 0 = .ok (.iconst 0, 1) := by decide +kernel
theorem dX7_beerOf_1 : decode cX7_beerOf 1 = .ok (.istore_n 2, 1) := by decide +kernel
theorem dX7_beerOf_2 : decode cX7_beerOf 2 = .ok (.iconst 0, 1) := by decide +kernel
theorem dX7_beerOf_3 : decode cX7_beerOf 3 = .ok (.istore_n 3, 1) := by decide +kernel
theorem dX7_beerOf_4 : decode cX7_beerOf 4 = .ok (.iload_n 3, 1) := by decide +kernel
theorem dX7_beerOf_5 : decode cX7_beerOf 5 = .ok (.aload_n 0, 1) := by decide +kernel
theorem dX7_beerOf_6 : decode cX7_beerOf 6 = .ok (.getfield 28, 3) := by decide +kernel
theorem dX7_beerOf_9 : decode cX7_beerOf 9 = .ok (.if_icmp .ge 32, 3) := by decide +kernel
theorem dX7_beerOf_12 : decode cX7_beerOf 12 = .ok (.iload_n 2, 1) := by decide +kernel
theorem dX7_beerOf_13 : decode cX7_beerOf 13 = .ok (.iload_n 1, 1) := by decide +kernel
theorem dX7_beerOf_14 : decode cX7_beerOf 14 = .ok (.iload_n 3, 1) := by decide +kernel
theorem dX7_beerOf_15 : decode cX7_beerOf 15 = .ok (.invokestatic 49, 3) := by decide +kernel
theorem dX7_beerOf_18 : decode cX7_beerOf 18 = .ok (.ifCond .eq 14, 3) := by decide +kernel
theorem dX7_beerOf_21 : decode cX7_beerOf 21 = .ok (.aload_n 0, 1) := by decide +kernel
theorem dX7_beerOf_22 : decode cX7_beerOf 22 = .ok (.getfield 9, 3) := by decide +kernel
theorem dX7_beerOf_25 : decode cX7_beerOf 25 = .ok (.iload_n 3, 1) := by decide +kernel
theorem dX7_beerOf_26 : decode cX7_beerOf 26 = .ok (.invokestatic 53, 3) := by decide +kernel
theorem dX7_beerOf_29 : decode cX7_beerOf 29 = .ok (.goto 4, 3) := by decide +kernel
theorem dX7_beerOf_32 : decode cX7_beerOf 32 = .ok (.iconst 0, 1) := by decide +kernel
theorem dX7_beerOf_33 : decode cX7_beerOf 33 = .ok (.iadd, 1) := by decide +kernel
theorem dX7_beerOf_34 : decode cX7_beerOf 34 = .ok (.istore_n 2, 1) := by decide +kernel
theorem dX7_beerOf_35 : decode cX7_beerOf 35 = .ok (.iinc 3 1, 3) := by decide +kernel
theorem dX7_beerOf_38 : decode cX7_beerOf 38 = .ok (.goto (-34), 3) := by decide +kernel
theorem dX7_beerOf_41 : decode cX7_beerOf 41 = .ok (.iload_n 2, 1) := by decide +kernel
theorem dX7_beerOf_42 : decode cX7_beerOf 42 = .ok (.ireturn, 1) := by decide +kernel
set_option maxRecDepth 20000 in
theorem ggX8_init_X5_init : GoodIn wsX8_init wsX5_init := goodIn_r _ [13, 14, 2, 3, 15, 16, 17, 18, 19, 20, 21, 22] (by decide +kernel) (by decide +kernel)
set_option maxRecDepth 20000 in
theorem gX8_init_X5_init : GoodIn wsX8_init (wsX5_init) := ggX8_init_X5_init
theorem dX8_init_0 : decode cX8_init 0 = .ok (.aload_n 0, 1) := by decide +kernel
theorem dX8_init_1 : decode cX8_init 1 = .ok (.invokespecial 3, 3) := by decide +kernel
theorem dX8_init_4 : decode cX8_init 4 = .ok (.aload_n 0, 1) := by decide +kernel
theorem dX8_init_5 : decode cX8_init 5 = .ok (.new 9, 3) := by decide +kernel
theorem dX8_init_8 : decode cX8_init 8 = .ok (.dup, 1) := by decide +kernel
theorem dX8_init_9 : decode cX8_init 9 = .ok (.sipush 256, 3) := by decide +kernel
theorem dX8_init_12 : decode cX8_init 12 = .ok (.invokespecial 11, 3) := by decide +kernel
theorem dX8_init_15 : decode cX8_init 15 = .ok (.putfield 14, 3) := by decide +kernel
theorem dX8_init_18 : decode cX8_init 18 = .ok (.aload_n 0, 1) := by decide +kernel
theorem dX8_init_19 : decode cX8_init 19 = .ok (.aload_n 1, 1) := by decide +kernel
theorem dX8_init_20 : decode cX8_init 20 = .ok (.putfield 20, 3) := by decide +kernel
theorem dX8_init_23 : decode cX8_init 23 = .ok (.aload_n 0, 1) := by decide +kernel
theorem dX8_init_24 : decode cX8_init 24 = .ok (.aload_n 2, 1) := by decide +kernel
theorem dX8_init_25 : decode cX8_init 25 = .ok (.putfield 24, 3) := by decide +kernel
theorem dX8_init_28 : decode cX8_init 28 = .ok (.aload_n 0, 1) := by decide +kernel
theorem dX8_init_29 : decode cX8_init 29 = .ok (.aload_n 3, 1) := by decide +kernel
theorem dX8_init_30 : decode cX8_init 30 = .ok (.putfield 28, 3) := by decide +kernel
theorem dX8_init_33 : decode cX8_init 33 = .ok (.return_, 1) := by decide +kernel
set_option maxRecDepth 20000 in
theorem ggX8_findBestRound_X0_canKeepIn : GoodIn wsX8_findBestRound wsX0_canKeepIn := goodIn_r _ [6, 7, 8, 9, 10, 11, 74, 75, 76, 77, 78, 79, 80, 81, 82, 83, 84, 85, 86, 87, 88, 89, 90, 91, 92, 93, 94, 95, 96, 97] (by decide +kernel) (by decide +kernel)
set_option maxRecDepth 20000 in
theorem gX8_findBestRound_X0_canKeepIn : GoodIn wsX8_findBestRound (wsV RX8 36 RX0 yX0_canKeepIn wsX0_canKeepIn) := goodIn_app (goodIn_of _ (by decide +kernel)) ggX8_findBestRound_X0_canKeepIn
set_option maxRecDepth 20000 in
theorem ggX8_findBestRound_X8_findStart : GoodIn wsX8_findBestRound wsX8_findStart := goodIn_r _ [16, 17, 1, 18, 19, 20, 5, 21, 22, 8, 23, 24, 25, 26, 27, 28, 29, 30, 31, 7, 32, 33, 34, 35, 36, 37, 38, 39, 40, 41, 42, 43, 44, 10, 45, 46, 47, 48, 49, 50, 51, 52, 53, 54, 55, 56, 57, 58, 59, 60, 61, 62, 63, 64, 65, 66, 67, 68, 69, 70, 71, 72, 73, 82, 83, 84, 85, 86, 87, 88, 89, 74, 75, 76, 77, 78, 79, 80, 81, 90, 91, 92, 93, 94, 95, 96, 97] (by decide +kernel) (by decide +kernel)
set_option maxRecDepth 20000 in
theorem gX8_findBestRound_X8_findStart : GoodIn wsX8_findBestRound (wsV RX8 42 RX8 yX8_findStart wsX8_findStart) := goodIn_app (goodIn_of _ (by decide +kernel)) ggX8_findBestRound_X8_findStart
theorem dX8_findBestRound_0 : decode cX8_findBestRound 0 = .ok (.iconst 0, 1) := by decide +kernel
theorem dX8_findBestRound_1 : decode cX8_findBestRound 1 = .ok (.istore_n 3, 1) := by decide +kernel
theorem dX8_findBestRound_2 : decode cX8_findBestRound 2 = .ok (.iload_n 3, 1) := by decide +kernel
theorem dX8_findBestRound_3 : decode cX8_findBestRound 3 = .ok (.getstatic 32, 3) := by decide +kernel
theorem dX8_findBestRound_6 : decode cX8_findBestRound 6 = .ok (.arraylength, 1) := by decide +kernel
theorem dX8_findBestRound_7 : decode cX8_findBestRound 7 = .ok (.if_icmp .ge 59, 3) := by decide +kernel
theorem dX8_findBestRound_10 : decode cX8_findBestRound 10 = .ok (.aload_n 0, 1) := by decide +kernel
theorem dX8_findBestRound_11 : decode cX8_findBestRound 11 = .ok (.getfield 28, 3) := by decide +kernel
theorem dX8_findBestRound_14 : decode cX8_findBestRound 14 = .ok (.getstatic 32, 3) := by decide +kernel
theorem dX8_findBestRound_17 : decode cX8_findBestRound 17 = .ok (.iload_n 3, 1) := by decide +kernel
theorem dX8_findBestRound_18 : decode cX8_findBestRound 18 = .ok (.iaload, 1) := by decide +kernel
theorem dX8_findBestRound_19 : decode cX8_findBestRound 19 = .ok (.invokevirtual 36, 3) := by decide +kernel
theorem dX8_findBestRound_22 : decode cX8_findBestRound 22 = .ok (.ifCond .eq 17, 3) := by decide +kernel
theorem dX8_findBestRound_25 : decode cX8_findBestRound 25 = .ok (.aload_n 0, 1) := by decide +kernel
theorem dX8_findBestRound_26 : decode cX8_findBestRound 26 = .ok (.iload_n 1, 1) := by decide +kernel
theorem dX8_findBestRound_27 : decode cX8_findBestRound 27 = .ok (.iload_n 2, 1) := by decide +kernel
theorem dX8_findBestRound_28 : decode cX8_findBestRound 28 = .ok (.getstatic 32, 3) := by decide +kernel
theorem dX8_findBestRound_31 : decode cX8_findBestRound 31 = .ok (.iload_n 3, 1) := by decide +kernel
theorem dX8_findBestRound_32 : decode cX8_findBestRound 32 = .ok (.iaload, 1) := by decide +kernel
theorem dX8_findBestRound_33 : decode cX8_findBestRound 33 = .ok (.invokevirtual 42, 3) := by decide +kernel
theorem dX8_findBestRound_36 : decode cX8_findBestRound 36 = .ok (.goto 4, 3) := by decide +kernel
theorem dX8_findBestRound_39 : decode cX8_findBestRound 39 = .ok (.iconst (-1), 1) := by decide +kernel
theorem dX8_findBestRound_40 : decode cX8_findBestRound 40 = .ok (.istore 4, 2) := by decide +kernel
theorem dX8_findBestRound_42 : decode cX8_findBestRound 42 = .ok (.iload 4, 2) := by decide +kernel
theorem dX8_findBestRound_44 : decode cX8_findBestRound 44 = .ok (.iconst (-1), 1) := by decide +kernel
theorem dX8_findBestRound_45 : decode cX8_findBestRound 45 = .ok (.if_icmp .eq 15, 3) := by decide +kernel
theorem dX8_findBestRound_48 : decode cX8_findBestRound 48 = .ok (.getstatic 32, 3) := by decide +kernel
theorem dX8_findBestRound_51 : decode cX8_findBestRound 51 = .ok (.iload_n 3, 1) := by decide +kernel
theorem dX8_findBestRound_52 : decode cX8_findBestRound 52 = .ok (.iaload, 1) := by decide +kernel
theorem dX8_findBestRound_53 : decode cX8_findBestRound 53 = .ok (.bipush 16, 2) := by decide +kernel
theorem dX8_findBestRound_55 : decode cX8_findBestRound 55 = .ok (.imul, 1) := by decide +kernel
theorem dX8_findBestRound_56 : decode cX8_findBestRound 56 = .ok (.iload 4, 2) := by decide +kernel
theorem dX8_findBestRound_58 : decode cX8_findBestRound 58 = .ok (.iadd, 1) := by decide +kernel
theorem dX8_findBestRound_59 : decode cX8_findBestRound 59 = .ok (.ireturn, 1) := by decide +kernel
theorem dX8_findBestRound_60 : decode cX8_findBestRound 60 = .ok (.iinc 3 1, 3) := by decide +kernel
theorem dX8_findBestRound_63 : decode cX8_findBestRound 63 = .ok (.goto (-61), 3) := by decide +kernel
theorem dX8_findBestRound_66 : decode cX8_findBestRound 66 = .ok (.iconst (-1), 1) := by decide +kernel
theorem dX8_findBestRound_67 : decode cX8_findBestRound 67 = .ok (.ireturn, 1) := by decide +kernel
theorem dX8_startOf_0 : decode cX8_startOf 0 = .ok (.iload_n 0, 1) := by decide +kernel
theorem dX8_startOf_1 : decode cX8_startOf 1 = .ok (.bipush 16, 2) := by decide +kernel
theorem dX8_startOf_3 : decode cX8_startOf 3 = .ok (.irem, 1) := by decide +kernel
theorem dX8_startOf_4 : decode cX8_startOf 4 = .ok (.ireturn, 1) := by decide +kernel
theorem dX8_setOf_0 : decode cX8_setOf 0 = .ok (.iload_n 0, 1) := by decide +kernel
theorem dX8_setOf_1 : decode cX8_setOf 1 = .ok (.bipush 16, 2) := by decide +kernel
theorem dX8_setOf_3 : decode cX8_setOf 3 = .ok (.idiv, 1) := by decide +kernel
theorem dX8_setOf_4 : decode cX8_setOf 4 = .ok (.ireturn, 1) := by decide +kernel
set_option maxRecDepth 20000 in
theorem ggX8_gatherBeginnings_X5_clear : GoodIn wsX8_gatherBeginnings wsX5_clear := goodIn_r _ [6, 7, 87, 88] (by decide +kernel) (by decide +kernel)
set_option maxRecDepth 20000 in
theorem gX8_gatherBeginnings_X5_clear : GoodIn wsX8_gatherBeginnings (wsV RX8 46 RX5 yX5_clear wsX5_clear) := goodIn_app (goodIn_of _ (by decide +kernel)) ggX8_gatherBeginnings_X5_clear
set_option maxRecDepth 20000 in
theorem ggX8_gatherBeginnings_X8_isBeginning : GoodIn wsX8_gatherBeginnings wsX8_isBeginning := goodIn_r _ [12, 13, 14, 15, 16, 17, 18, 19, 20, 21, 22, 23, 24, 25, 26, 27, 28, 29, 30, 31, 32, 33, 34, 35, 36, 37, 38, 39, 40, 41, 42, 43, 44, 45, 46, 47, 48, 49, 50, 51, 52, 53, 54, 55, 56, 57, 58, 59, 60, 61, 62, 63, 64, 65, 66, 67, 68, 69, 70, 71, 72, 73, 74, 75, 76, 83, 84, 85, 86, 89, 90, 91, 92, 93, 94, 95, 96, 97, 98, 99, 100, 101, 102, 103, 104, 105, 106, 107, 108, 109, 110, 111, 112] (by decide +kernel) (by decide +kernel)
set_option maxRecDepth 20000 in
theorem gX8_gatherBeginnings_X8_isBeginning : GoodIn wsX8_gatherBeginnings (wsV RX8 49 RX8 yX8_isBeginning wsX8_isBeginning) := goodIn_app (goodIn_of _ (by decide +kernel)) ggX8_gatherBeginnings_X8_isBeginning
set_option maxRecDepth 20000 in
theorem ggX8_gatherBeginnings_X5_add : GoodIn wsX8_gatherBeginnings wsX5_add := goodIn_r _ [80, 7, 81, 82, 87, 88] (by decide +kernel) (by decide +kernel)
set_option maxRecDepth 20000 in
theorem gX8_gatherBeginnings_X5_add : GoodIn wsX8_gatherBeginnings (wsV RX8 53 RX5 yX5_add wsX5_add) := goodIn_app (goodIn_of _ (by decide +kernel)) ggX8_gatherBeginnings_X5_add
theorem dX8_gatherBeginnings_0 : decode cX8_gatherBeginnings 0 = .ok (.aload_n 0, 1) := by decide +kernel
theorem dX8_gatherBeginnings_1 : decode cX8_gatherBeginnings 1 = .ok (.getfield 14, 3) := by decide +kernel
theorem dX8_gatherBeginnings_4 : decode cX8_gatherBeginnings 4 = .ok (.invokevirtual 46, 3) := by decide +kernel
theorem dX8_gatherBeginnings_7 : decode cX8_gatherBeginnings 7 = .ok (.iconst 0, 1) := by decide +kernel
theorem dX8_gatherBeginnings_8 : decode cX8_gatherBeginnings 8 = .ok (.istore 4, 2) := by decide +kernel
theorem dX8_gatherBeginnings_10 : decode cX8_gatherBeginnings 10 = .ok (.iload 4, 2) := by decide +kernel
theorem dX8_gatherBeginnings_12 : decode cX8_gatherBeginnings 12 = .ok (.sipush 256, 3) := by decide +kernel
theorem dX8_gatherBeginnings_15 : decode cX8_gatherBeginnings 15 = .ok (.if_icmp .ge 31, 3) := by decide +kernel
theorem dX8_gatherBeginnings_18 : decode cX8_gatherBeginnings 18 = .ok (.aload_n 0, 1) := by decide +kernel
theorem dX8_gatherBeginnings_19 : decode cX8_gatherBeginnings 19 = .ok (.iload 4, 2) := by decide +kernel
theorem dX8_gatherBeginnings_21 : decode cX8_gatherBeginnings 21 = .ok (.iload_n 1, 1) := by decide +kernel
theorem dX8_gatherBeginnings_22 : decode cX8_gatherBeginnings 22 = .ok (.iload_n 2, 1) := by decide +kernel
theorem dX8_gatherBeginnings_23 : decode cX8_gatherBeginnings 23 = .ok (.iload_n 3, 1) := by decide +kernel
theorem dX8_gatherBeginnings_24 : decode cX8_gatherBeginnings 24 = .ok (.invokevirtual 49, 3) := by decide +kernel
theorem dX8_gatherBeginnings_27 : decode cX8_gatherBeginnings 27 = .ok (.ifCond .eq 13, 3) := by decide +kernel
theorem dX8_gatherBeginnings_30 : decode cX8_gatherBeginnings 30 = .ok (.aload_n 0, 1) := by decide +kernel
theorem dX8_gatherBeginnings_31 : decode cX8_gatherBeginnings 31 = .ok (.getfield 14, 3) := by decide +kernel
theorem dX8_gatherBeginnings_34 : decode cX8_gatherBeginnings 34 = .ok (.iload 4, 2) := by decide +kernel
theorem dX8_gatherBeginnings_36 : decode cX8_gatherBeginnings 36 = .ok (.invokevirtual 53, 3) := by decide +kernel
theorem dX8_gatherBeginnings_39 : decode cX8_gatherBeginnings 39 = .ok (.pop, 1) := by decide +kernel
theorem dX8_gatherBeginnings_40 : decode cX8_gatherBeginnings 40 = .ok (.iinc 4 1, 3) := by decide +kernel
theorem dX8_gatherBeginnings_43 : decode cX8_gatherBeginnings 43 = .ok (.goto (-33), 3) := by decide +kernel
theorem dX8_gatherBeginnings_46 : decode cX8_gatherBeginnings 46 = .ok (.return_, 1) := by decide +kernel
set_option maxRecDepth 20000 in
theorem ggX8_sureClauses_X5_get : GoodIn wsX8_sureClauses wsX5_get := goodIn_r _ [7, 8, 9, 14, 15] (by decide +kernel) (by decide +kernel)
set_option maxRecDepth 20000 in
theorem gX8_sureClauses_X5_get : GoodIn wsX8_sureClauses (wsV RX8 66 RX5 yX5_get wsX5_get) := goodIn_app (goodIn_of _ (by decide +kernel)) ggX8_sureClauses_X5_get
theorem dX8_sureClauses_0 : decode cX8_sureClauses 0 = .ok (.aload_n 0, 1) := by decide +kernel
theorem dX8_sureClauses_1 : decode cX8_sureClauses 1 = .ok (.getfield 14, 3) := by decide +kernel
theorem dX8_sureClauses_4 : decode cX8_sureClauses 4 = .ok (.getfield 57, 3) := by decide +kernel
theorem dX8_sureClauses_7 : decode cX8_sureClauses 7 = .ok (.ifCond .ne 7, 3) := by decide +kernel
theorem dX8_sureClauses_10 : decode cX8_sureClauses 10 = .ok (.iconst 0, 1) := by decide +kernel
theorem dX8_sureClauses_11 : decode cX8_sureClauses 11 = .ok (.goto 10, 3) := by decide +kernel
theorem dX8_sureClauses_14 : decode cX8_sureClauses 14 = .ok (.aload_n 0, 1) := by decide +kernel
theorem dX8_sureClauses_15 : decode cX8_sureClauses 15 = .ok (.getfield 20, 3) := by decide +kernel
theorem dX8_sureClauses_18 : decode cX8_sureClauses 18 = .ok (.getfield 61, 3) := by decide +kernel
theorem dX8_sureClauses_21 : decode cX8_sureClauses 21 = .ok (.istore_n 1, 1) := by decide +kernel
theorem dX8_sureClauses_22 : decode cX8_sureClauses 22 = .ok (.iconst 0, 1) := by decide +kernel
theorem dX8_sureClauses_23 : decode cX8_sureClauses 23 = .ok (.istore_n 2, 1) := by decide +kernel
theorem dX8_sureClauses_24 : decode cX8_sureClauses 24 = .ok (.iload_n 2, 1) := by decide +kernel
theorem dX8_sureClauses_25 : decode cX8_sureClauses 25 = .ok (.aload_n 0, 1) := by decide +kernel
theorem dX8_sureClauses_26 : decode cX8_sureClauses 26 = .ok (.getfield 14, 3) := by decide +kernel
theorem dX8_sureClauses_29 : decode cX8_sureClauses 29 = .ok (.getfield 57, 3) := by decide +kernel
theorem dX8_sureClauses_32 : decode cX8_sureClauses 32 = .ok (.if_icmp .ge 20, 3) := by decide +kernel
theorem dX8_sureClauses_35 : decode cX8_sureClauses 35 = .ok (.iload_n 1, 1) := by decide +kernel
theorem dX8_sureClauses_36 : decode cX8_sureClauses 36 = .ok (.aload_n 0, 1) := by decide +kernel
theorem dX8_sureClauses_37 : decode cX8_sureClauses 37 = .ok (.getfield 14, 3) := by decide +kernel
theorem dX8_sureClauses_40 : decode cX8_sureClauses 40 = .ok (.iload_n 2, 1) := by decide +kernel
theorem dX8_sureClauses_41 : decode cX8_sureClauses 41 = .ok (.invokevirtual 66, 3) := by decide +kernel
theorem dX8_sureClauses_44 : decode cX8_sureClauses 44 = .ok (.iand, 1) := by decide +kernel
theorem dX8_sureClauses_45 : decode cX8_sureClauses 45 = .ok (.istore_n 1, 1) := by decide +kernel
theorem dX8_sureClauses_46 : decode cX8_sureClauses 46 = .ok (.iinc 2 1, 3) := by decide +kernel
theorem dX8_sureClauses_49 : decode cX8_sureClauses 49 = .ok (.goto (-25), 3) := by decide +kernel
theorem dX8_sureClauses_52 : decode cX8_sureClauses 52 = .ok (.iload_n 1, 1) := by decide +kernel
theorem dX8_sureClauses_53 : decode cX8_sureClauses 53 = .ok (.ireturn, 1) := by decide +kernel
set_option maxRecDepth 20000 in
theorem ggX8_passableCorners_X8_isPassable : GoodIn wsX8_passableCorners wsX8_isPassable := goodIn_r _ [6, 1, 7, 8, 9, 10, 11, 12, 13, 14, 15, 16, 17, 18, 19, 20, 21, 22, 23, 24, 25, 26, 27, 28, 29, 30, 31, 32, 33, 34, 35, 36, 37, 38, 39, 40, 41, 42, 43, 44, 45, 46, 47, 48, 49, 50, 51, 52, 53, 54, 55, 56, 57, 58, 59, 60, 61, 62, 63, 64, 65, 66, 67, 68, 69, 70, 71, 72, 73, 74, 75, 76, 77, 78, 79, 80, 81, 82, 83, 84, 85, 86, 87, 88, 89] (by decide +kernel) (by decide +kernel)
set_option maxRecDepth 20000 in
theorem gX8_passableCorners_X8_isPassable : GoodIn wsX8_passableCorners (wsV RX8 72 RX8 yX8_isPassable wsX8_isPassable) := goodIn_app (goodIn_of _ (by decide +kernel)) ggX8_passableCorners_X8_isPassable
theorem dX8_passableCorners_0 : decode cX8_passableCorners 0 = .ok (.iconst 0, 1) := by decide +kernel
theorem dX8_passableCorners_1 : decode cX8_passableCorners 1 = .ok (.istore_n 1, 1) := by decide +kernel
theorem dX8_passableCorners_2 : decode cX8_passableCorners 2 = .ok (.iconst 0, 1) := by decide +kernel
theorem dX8_passableCorners_3 : decode cX8_passableCorners 3 = .ok (.istore_n 2, 1) := by decide +kernel
theorem dX8_passableCorners_4 : decode cX8_passableCorners 4 = .ok (.iload_n 2, 1) := by decide +kernel
theorem dX8_passableCorners_5 : decode cX8_passableCorners 5 = .ok (.aload_n 0, 1) := by decide +kernel
theorem dX8_passableCorners_6 : decode cX8_passableCorners 6 = .ok (.getfield 20, 3) := by decide +kernel
theorem dX8_passableCorners_9 : decode cX8_passableCorners 9 = .ok (.getfield 69, 3) := by decide +kernel
theorem dX8_passableCorners_12 : decode cX8_passableCorners 12 = .ok (.if_icmp .ge 23, 3) := by decide +kernel
theorem dX8_passableCorners_15 : decode cX8_passableCorners 15 = .ok (.aload_n 0, 1) := by decide +kernel
theorem dX8_passableCorners_16 : decode cX8_passableCorners 16 = .ok (.iload_n 2, 1) := by decide +kernel
theorem dX8_passableCorners_17 : decode cX8_passableCorners 17 = .ok (.invokevirtual 72, 3) := by decide +kernel
theorem dX8_passableCorners_20 : decode cX8_passableCorners 20 = .ok (.ifCond .eq 9, 3) := by decide +kernel
theorem dX8_passableCorners_23 : decode cX8_passableCorners 23 = .ok (.iload_n 1, 1) := by decide +kernel
theorem dX8_passableCorners_24 : decode cX8_passableCorners 24 = .ok (.iconst 1, 1) := by decide +kernel
theorem dX8_passableCorners_25 : decode cX8_passableCorners 25 = .ok (.iload_n 2, 1) := by decide +kernel
theorem dX8_passableCorners_26 : decode cX8_passableCorners 26 = .ok (.ishl, 1) := by decide +kernel
theorem dX8_passableCorners_27 : decode cX8_passableCorners 27 = .ok (.ior, 1) := by decide +kernel
theorem dX8_passableCorners_28 : decode cX8_passableCorners 28 = .ok (.istore_n 1, 1) := by decide +kernel
theorem dX8_passableCorners_29 : decode cX8_passableCorners 29 = .ok (.iinc 2 1, 3) := by decide +kernel
theorem dX8_passableCorners_32 : decode cX8_passableCorners 32 = .ok (.goto (-28), 3) := by decide +kernel
theorem dX8_passableCorners_35 : decode cX8_passableCorners 35 = .ok (.iload_n 1, 1) := by decide +kernel
theorem dX8_passableCorners_36 : decode cX8_passableCorners 36 = .ok (.ireturn, 1) := by decide +kernel
set_option maxRecDepth 20000 in
theorem ggX8_findLiars_X10_firstOf : GoodIn wsX8_findLiars wsX10_firstOf := goodIn_r _ [4] (by decide +kernel) (by decide +kernel)
set_option maxRecDepth 20000 in
theorem gX8_findLiars_X10_firstOf_n75 : GoodIn wsX8_findLiars (wsX10_firstOf) := ggX8_findLiars_X10_firstOf
set_option maxRecDepth 20000 in
theorem ggX8_findLiars_X7_beerOf : GoodIn wsX8_findLiars wsX7_beerOf := goodIn_r _ [9, 10, 11, 12, 3, 13, 14, 15, 77, 78, 79, 80, 81, 82, 83, 84] (by decide +kernel) (by decide +kernel)
set_option maxRecDepth 20000 in
theorem gX8_findLiars_X7_beerOf : GoodIn wsX8_findLiars (wsV RX8 78 RX7 yX7_beerOf wsX7_beerOf) := goodIn_app (goodIn_of _ (by decide +kernel)) ggX8_findLiars_X7_beerOf
set_option maxRecDepth 20000 in
theorem ggX8_findLiars_X8_holdsWithLiars : GoodIn wsX8_findLiars wsX8_holdsWithLiars := goodIn_r _ [20, 21, 22, 23, 24, 25, 26, 27, 28, 29, 30, 31, 32, 33, 34, 35, 36, 37, 38, 39, 40, 41, 42, 43, 44, 45, 46, 47, 48, 49, 50, 14, 3, 15, 12, 13, 51, 52, 53, 54, 55, 56, 57, 58, 59, 60, 61, 62, 63, 64, 65, 66, 67, 68, 69, 70, 71, 72, 73, 74, 75, 76, 85, 86, 87, 88, 89, 90, 91, 92, 93, 94, 95, 96, 97, 98, 99, 100, 77, 78, 79, 80, 81, 82, 83, 84] (by decide +kernel) (by decide +kernel)
set_option maxRecDepth 20000 in
theorem gX8_findLiars_X8_holdsWithLiars : GoodIn wsX8_findLiars (wsV RX8 81 RX8 yX8_holdsWithLiars wsX8_holdsWithLiars) := goodIn_app (goodIn_of _ (by decide +kernel)) ggX8_findLiars_X8_holdsWithLiars
theorem dX8_findLiars_0 : decode cX8_findLiars 0 = .ok (.iconst (-1), 1) := by decide +kernel
theorem dX8_findLiars_1 : decode cX8_findLiars 1 = .ok (.istore 4, 2) := by decide +kernel
theorem dX8_findLiars_3 : decode cX8_findLiars 3 = .ok (.iconst 0, 1) := by decide +kernel
theorem dX8_findLiars_4 : decode cX8_findLiars 4 = .ok (.istore 5, 2) := by decide +kernel
theorem dX8_findLiars_6 : decode cX8_findLiars 6 = .ok (.iconst 0, 1) := by decide +kernel
theorem dX8_findLiars_7 : decode cX8_findLiars 7 = .ok (.istore 6, 2) := by decide +kernel
theorem dX8_findLiars_9 : decode cX8_findLiars 9 = .ok (.iload 6, 2) := by decide +kernel
theorem dX8_findLiars_11 : decode cX8_findLiars 11 = .ok (.aload_n 0, 1) := by decide +kernel
theorem dX8_findLiars_12 : decode cX8_findLiars 12 = .ok (.getfield 20, 3) := by decide +kernel
theorem dX8_findLiars_15 : decode cX8_findLiars 15 = .ok (.getfield 69, 3) := by decide +kernel
theorem dX8_findLiars_18 : decode cX8_findLiars 18 = .ok (.invokestatic 75, 3) := by decide +kernel
theorem dX8_findLiars_21 : decode cX8_findLiars 21 = .ok (.if_icmp .gt 53, 3) := by decide +kernel
theorem dX8_findLiars_24 : decode cX8_findLiars 24 = .ok (.aload_n 0, 1) := by decide +kernel
theorem dX8_findLiars_25 : decode cX8_findLiars 25 = .ok (.getfield 20, 3) := by decide +kernel
theorem dX8_findLiars_28 : decode cX8_findLiars 28 = .ok (.iload 6, 2) := by decide +kernel
theorem dX8_findLiars_30 : decode cX8_findLiars 30 = .ok (.invokevirtual 78, 3) := by decide +kernel
theorem dX8_findLiars_33 : decode cX8_findLiars 33 = .ok (.istore 7, 2) := by decide +kernel
theorem dX8_findLiars_35 : decode cX8_findLiars 35 = .ok (.iload 4, 2) := by decide +kernel
theorem dX8_findLiars_37 : decode cX8_findLiars 37 = .ok (.iconst (-1), 1) := by decide +kernel
theorem dX8_findLiars_38 : decode cX8_findLiars 38 = .ok (.if_icmp .eq 10, 3) := by decide +kernel
theorem dX8_findLiars_41 : decode cX8_findLiars 41 = .ok (.iload 7, 2) := by decide +kernel
theorem dX8_findLiars_43 : decode cX8_findLiars 43 = .ok (.iload 5, 2) := by decide +kernel
theorem dX8_findLiars_45 : decode cX8_findLiars 45 = .ok (.if_icmp .ge 23, 3) := by decide +kernel
theorem dX8_findLiars_48 : decode cX8_findLiars 48 = .ok (.aload_n 0, 1) := by decide +kernel
theorem dX8_findLiars_49 : decode cX8_findLiars 49 = .ok (.iload_n 1, 1) := by decide +kernel
theorem dX8_findLiars_50 : decode cX8_findLiars 50 = .ok (.iload_n 2, 1) := by decide +kernel
theorem dX8_findLiars_51 : decode cX8_findLiars 51 = .ok (.iload_n 3, 1) := by decide +kernel
theorem dX8_findLiars_52 : decode cX8_findLiars 52 = .ok (.iload 6, 2) := by decide +kernel
theorem dX8_findLiars_54 : decode cX8_findLiars 54 = .ok (.invokevirtual 81, 3) := by decide +kernel
theorem dX8_findLiars_57 : decode cX8_findLiars 57 = .ok (.ifCond .eq 11, 3) := by decide +kernel
theorem dX8_findLiars_60 : decode cX8_findLiars 60 = .ok (.iload 6, 2) := by decide +kernel
theorem dX8_findLiars_62 : decode cX8_findLiars 62 = .ok (.istore 4, 2) := by decide +kernel
theorem dX8_findLiars_64 : decode cX8_findLiars 64 = .ok (.iload 7, 2) := by decide +kernel
theorem dX8_findLiars_66 : decode cX8_findLiars 66 = .ok (.istore 5, 2) := by decide +kernel
theorem dX8_findLiars_68 : decode cX8_findLiars 68 = .ok (.iinc 6 1, 3) := by decide +kernel
theorem dX8_findLiars_71 : decode cX8_findLiars 71 = .ok (.goto (-62), 3) := by decide +kernel
theorem dX8_findLiars_74 : decode cX8_findLiars 74 = .ok (.iload 4, 2) := by decide +kernel
theorem dX8_findLiars_76 : decode cX8_findLiars 76 = .ok (.ireturn, 1) := by decide +kernel
set_option maxRecDepth 20000 in
theorem ggX8_findVictim_X8_countHolding : GoodIn wsX8_findVictim wsX8_countHolding := goodIn_r _ [7, 8, 9, 10, 11, 12, 13, 14, 15, 16, 17, 18, 19, 20, 21, 22, 23, 24, 25, 26, 27, 28, 29, 30, 31, 32, 33, 34, 35, 36, 37, 38, 39, 40, 41, 42, 43, 44, 45, 46, 47, 48, 49, 50, 51, 52, 53, 54, 55, 56, 57, 58, 59, 60, 61, 62, 63, 64, 65, 66, 67, 68, 69, 86, 87, 88, 89, 90, 91, 92, 93, 78, 79, 80, 81, 82, 83, 84, 85, 70, 71, 72, 73, 74, 75, 76, 77] (by decide +kernel) (by decide +kernel)
set_option maxRecDepth 20000 in
theorem gX8_findVictim_X8_countHolding : GoodIn wsX8_findVictim (wsV RX8 84 RX8 yX8_countHolding wsX8_countHolding) := goodIn_app (goodIn_of _ (by decide +kernel)) ggX8_findVictim_X8_countHolding
set_option maxRecDepth 20000 in
theorem ggX8_findVictim_X10_has : GoodIn wsX8_findVictim wsX10_has := goodIn_r _ [42] (by decide +kernel) (by decide +kernel)
set_option maxRecDepth 20000 in
theorem gX8_findVictim_X10_has_n96 : GoodIn wsX8_findVictim (wsX10_has) := ggX8_findVictim_X10_has
theorem dX8_findVictim_0 : decode cX8_findVictim 0 = .ok (.iconst (-1), 1) := by decide +kernel
theorem dX8_findVictim_1 : decode cX8_findVictim 1 = .ok (.istore 4, 2) := by decide +kernel
theorem dX8_findVictim_3 : decode cX8_findVictim 3 = .ok (.aload_n 0, 1) := by decide +kernel
theorem dX8_findVictim_4 : decode cX8_findVictim 4 = .ok (.iload_n 1, 1) := by decide +kernel
theorem dX8_findVictim_5 : decode cX8_findVictim 5 = .ok (.iload_n 2, 1) := by decide +kernel
theorem dX8_findVictim_6 : decode cX8_findVictim 6 = .ok (.iload_n 3, 1) := by decide +kernel
theorem dX8_findVictim_7 : decode cX8_findVictim 7 = .ok (.iconst 0, 1) := by decide +kernel
theorem dX8_findVictim_8 : decode cX8_findVictim 8 = .ok (.invokevirtual 84, 3) := by decide +kernel
theorem dX8_findVictim_11 : decode cX8_findVictim 11 = .ok (.istore 5, 2) := by decide +kernel
theorem dX8_findVictim_13 : decode cX8_findVictim 13 = .ok (.iconst 0, 1) := by decide +kernel
theorem dX8_findVictim_14 : decode cX8_findVictim 14 = .ok (.istore 6, 2) := by decide +kernel
theorem dX8_findVictim_16 : decode cX8_findVictim 16 = .ok (.iload 6, 2) := by decide +kernel
theorem dX8_findVictim_18 : decode cX8_findVictim 18 = .ok (.aload_n 0, 1) := by decide +kernel
theorem dX8_findVictim_19 : decode cX8_findVictim 19 = .ok (.getfield 20, 3) := by decide +kernel
theorem dX8_findVictim_22 : decode cX8_findVictim 22 = .ok (.getfield 88, 3) := by decide +kernel
theorem dX8_findVictim_25 : decode cX8_findVictim 25 = .ok (.if_icmp .ge 52, 3) := by decide +kernel
theorem dX8_findVictim_28 : decode cX8_findVictim 28 = .ok (.aload_n 0, 1) := by decide +kernel
theorem dX8_findVictim_29 : decode cX8_findVictim 29 = .ok (.getfield 24, 3) := by decide +kernel
theorem dX8_findVictim_32 : decode cX8_findVictim 32 = .ok (.getfield 91, 3) := by decide +kernel
theorem dX8_findVictim_35 : decode cX8_findVictim 35 = .ok (.iload 6, 2) := by decide +kernel
theorem dX8_findVictim_37 : decode cX8_findVictim 37 = .ok (.invokestatic 96, 3) := by decide +kernel
theorem dX8_findVictim_40 : decode cX8_findVictim 40 = .ok (.ifCond .ne 31, 3) := by decide +kernel
theorem dX8_findVictim_43 : decode cX8_findVictim 43 = .ok (.aload_n 0, 1) := by decide +kernel
theorem dX8_findVictim_44 : decode cX8_findVictim 44 = .ok (.iload_n 1, 1) := by decide +kernel
theorem dX8_findVictim_45 : decode cX8_findVictim 45 = .ok (.iload_n 2, 1) := by decide +kernel
theorem dX8_findVictim_46 : decode cX8_findVictim 46 = .ok (.iload_n 3, 1) := by decide +kernel
theorem dX8_findVictim_47 : decode cX8_findVictim 47 = .ok (.iconst 1, 1) := by decide +kernel
theorem dX8_findVictim_48 : decode cX8_findVictim 48 = .ok (.iload 6, 2) := by decide +kernel
theorem dX8_findVictim_50 : decode cX8_findVictim 50 = .ok (.ishl, 1) := by decide +kernel
theorem dX8_findVictim_51 : decode cX8_findVictim 51 = .ok (.invokevirtual 84, 3) := by decide +kernel
theorem dX8_findVictim_54 : decode cX8_findVictim 54 = .ok (.istore 7, 2) := by decide +kernel
theorem dX8_findVictim_56 : decode cX8_findVictim 56 = .ok (.iload 7, 2) := by decide +kernel
theorem dX8_findVictim_58 : decode cX8_findVictim 58 = .ok (.iload 5, 2) := by decide +kernel
theorem dX8_findVictim_60 : decode cX8_findVictim 60 = .ok (.if_icmp .ge 11, 3) := by decide +kernel
theorem dX8_findVictim_63 : decode cX8_findVictim 63 = .ok (.iload 7, 2) := by decide +kernel
theorem dX8_findVictim_65 : decode cX8_findVictim 65 = .ok (.istore 5, 2) := by decide +kernel
theorem dX8_findVictim_67 : decode cX8_findVictim 67 = .ok (.iload 6, 2) := by decide +kernel
theorem dX8_findVictim_69 : decode cX8_findVictim 69 = .ok (.istore 4, 2) := by decide +kernel
theorem dX8_findVictim_71 : decode cX8_findVictim 71 = .ok (.iinc 6 1, 3) := by decide +kernel
theorem dX8_findVictim_74 : decode cX8_findVictim 74 = .ok (.goto (-58), 3) := by decide +kernel
theorem dX8_findVictim_77 : decode cX8_findVictim 77 = .ok (.iload 4, 2) := by decide +kernel
theorem dX8_findVictim_79 : decode cX8_findVictim 79 = .ok (.ireturn, 1) := by decide +kernel
set_option maxRecDepth 20000 in
theorem ggX8_countHolding_X0_start : GoodIn wsX8_countHolding wsX0_start := goodIn_r _ [6, 7, 8, 9, 10, 11, 12, 13, 63, 64, 65, 66, 67, 68, 69, 70, 71, 72, 73, 74, 75, 76, 77, 78] (by decide +kernel) (by decide +kernel)
set_option maxRecDepth 20000 in
theorem gX8_countHolding_X0_start : GoodIn wsX8_countHolding (wsV RX8 100 RX0 yX0_start wsX0_start) := goodIn_app (goodIn_of _ (by decide +kernel)) ggX8_countHolding_X0_start
set_option maxRecDepth 20000 in
theorem ggX8_countHolding_X0_goRound : GoodIn wsX8_countHolding wsX0_goRound := goodIn_r _ [17, 18, 19, 20, 21, 5, 22, 23, 24, 25, 26, 9, 13, 7, 10, 8, 12, 11, 27, 28, 29, 30, 31, 32, 33, 34, 35, 36, 37, 38, 39, 40, 41, 42, 43, 44, 45, 46, 47, 48, 49, 50, 51, 52, 53, 54, 55, 56, 57, 63, 64, 65, 66, 67, 68, 69, 70, 79, 80, 81, 82, 83, 84, 85, 86, 71, 72, 73, 74, 75, 76, 77, 78] (by decide +kernel) (by decide +kernel)
set_option maxRecDepth 20000 in
theorem gX8_countHolding_X0_goRound : GoodIn wsX8_countHolding (wsV RX8 104 RX0 yX0_goRound wsX0_goRound) := goodIn_app (goodIn_of _ (by decide +kernel)) ggX8_countHolding_X0_goRound
set_option maxRecDepth 20000 in
theorem ggX8_countHolding_J6_bitCount_0f7a4 : GoodIn wsX8_countHolding wsJ6_bitCount_0f7a4 := goodIn_r _ [41, 42, 43, 44] (by decide +kernel) (by decide +kernel)
set_option maxRecDepth 20000 in
theorem gX8_countHolding_J6_bitCount_0f7a4 : GoodIn wsX8_countHolding (va_wsS RX8 111 yJ6_bitCount_0f7a4 wsJ6_bitCount_0f7a4) := goodIn_app (goodIn_of _ (by decide +kernel)) ggX8_countHolding_J6_bitCount_0f7a4
theorem dX8_countHolding_0 : decode cX8_countHolding 0 = .ok (.aload_n 0, 1) := by decide +kernel
theorem dX8_countHolding_1 : decode cX8_countHolding 1 = .ok (.getfield 28, 3) := by decide +kernel
theorem dX8_countHolding_4 : decode cX8_countHolding 4 = .ok (.iload_n 1, 1) := by decide +kernel
theorem dX8_countHolding_5 : decode cX8_countHolding 5 = .ok (.iload 4, 2) := by decide +kernel
theorem dX8_countHolding_7 : decode cX8_countHolding 7 = .ok (.iconst 0, 1) := by decide +kernel
theorem dX8_countHolding_8 : decode cX8_countHolding 8 = .ok (.invokevirtual 100, 3) := by decide +kernel
theorem dX8_countHolding_11 : decode cX8_countHolding 11 = .ok (.aload_n 0, 1) := by decide +kernel
theorem dX8_countHolding_12 : decode cX8_countHolding 12 = .ok (.getfield 28, 3) := by decide +kernel
theorem dX8_countHolding_15 : decode cX8_countHolding 15 = .ok (.iload_n 2, 1) := by decide +kernel
theorem dX8_countHolding_16 : decode cX8_countHolding 16 = .ok (.iload_n 3, 1) := by decide +kernel
theorem dX8_countHolding_17 : decode cX8_countHolding 17 = .ok (.invokevirtual 104, 3) := by decide +kernel
theorem dX8_countHolding_20 : decode cX8_countHolding 20 = .ok (.aload_n 0, 1) := by decide +kernel
theorem dX8_countHolding_21 : decode cX8_countHolding 21 = .ok (.getfield 28, 3) := by decide +kernel
theorem dX8_countHolding_24 : decode cX8_countHolding 24 = .ok (.getfield 108, 3) := by decide +kernel
theorem dX8_countHolding_27 : decode cX8_countHolding 27 = .ok (.invokestatic 111, 3) := by decide +kernel
theorem dX8_countHolding_30 : decode cX8_countHolding 30 = .ok (.ireturn, 1) := by decide +kernel
set_option maxRecDepth 20000 in
theorem ggX8_findStart_X0_start : GoodIn wsX8_findStart wsX0_start := goodIn_r _ [7, 8, 9, 10, 11, 12, 13, 14, 71, 72, 73, 74, 75, 76, 77, 78, 79, 80, 81, 82, 83, 84, 85, 86] (by decide +kernel) (by decide +kernel)
set_option maxRecDepth 20000 in
theorem gX8_findStart_X0_start : GoodIn wsX8_findStart (wsV RX8 100 RX0 yX0_start wsX0_start) := goodIn_app (goodIn_of _ (by decide +kernel)) ggX8_findStart_X0_start
set_option maxRecDepth 20000 in
theorem ggX8_findStart_X0_holdsAllRound : GoodIn wsX8_findStart wsX0_holdsAllRound := goodIn_r _ [18, 19, 20, 21, 22, 6, 23, 24, 25, 26, 27, 10, 14, 8, 11, 9, 13, 12, 28, 29, 30, 31, 32, 33, 34, 35, 36, 37, 38, 39, 40, 41, 42, 43, 44, 45, 46, 47, 48, 49, 50, 51, 52, 53, 54, 55, 56, 57, 58, 71, 72, 73, 74, 75, 76, 77, 78, 63, 64, 65, 66, 67, 68, 69, 70, 79, 80, 81, 82, 83, 84, 85, 86] (by decide +kernel) (by decide +kernel)
set_option maxRecDepth 20000 in
theorem gX8_findStart_X0_holdsAllRound : GoodIn wsX8_findStart (wsV RX8 116 RX0 yX0_holdsAllRound wsX0_holdsAllRound) := goodIn_app (goodIn_of _ (by decide +kernel)) ggX8_findStart_X0_holdsAllRound
theorem dX8_findStart_0 : decode cX8_findStart 0 = .ok (.iconst 0, 1) := by decide +kernel
theorem dX8_findStart_1 : decode cX8_findStart 1 = .ok (.istore 4, 2) := by decide +kernel
theorem dX8_findStart_3 : decode cX8_findStart 3 = .ok (.iload 4, 2) := by decide +kernel
theorem dX8_findStart_5 : decode cX8_findStart 5 = .ok (.iconst 2, 1) := by decide +kernel
theorem dX8_findStart_6 : decode cX8_findStart 6 = .ok (.aload_n 0, 1) := by decide +kernel
theorem dX8_findStart_7 : decode cX8_findStart 7 = .ok (.getfield 20, 3) := by decide +kernel
theorem dX8_findStart_10 : decode cX8_findStart 10 = .ok (.getfield 69, 3) := by decide +kernel
theorem dX8_findStart_13 : decode cX8_findStart 13 = .ok (.imul, 1) := by decide +kernel
theorem dX8_findStart_14 : decode cX8_findStart 14 = .ok (.if_icmp .ge 54, 3) := by decide +kernel
theorem dX8_findStart_17 : decode cX8_findStart 17 = .ok (.aload_n 0, 1) := by decide +kernel
theorem dX8_findStart_18 : decode cX8_findStart 18 = .ok (.getfield 28, 3) := by decide +kernel
theorem dX8_findStart_21 : decode cX8_findStart 21 = .ok (.iload_n 1, 1) := by decide +kernel
theorem dX8_findStart_22 : decode cX8_findStart 22 = .ok (.iload_n 3, 1) := by decide +kernel
theorem dX8_findStart_23 : decode cX8_findStart 23 = .ok (.iconst 0, 1) := by decide +kernel
theorem dX8_findStart_24 : decode cX8_findStart 24 = .ok (.invokevirtual 100, 3) := by decide +kernel
theorem dX8_findStart_27 : decode cX8_findStart 27 = .ok (.aload_n 0, 1) := by decide +kernel
theorem dX8_findStart_28 : decode cX8_findStart 28 = .ok (.getfield 28, 3) := by decide +kernel
theorem dX8_findStart_31 : decode cX8_findStart 31 = .ok (.iload 4, 2) := by decide +kernel
theorem dX8_findStart_33 : decode cX8_findStart 33 = .ok (.iconst 2, 1) := by decide +kernel
theorem dX8_findStart_34 : decode cX8_findStart 34 = .ok (.idiv, 1) := by decide +kernel
theorem dX8_findStart_35 : decode cX8_findStart 35 = .ok (.iload 4, 2) := by decide +kernel
theorem dX8_findStart_37 : decode cX8_findStart 37 = .ok (.iconst 2, 1) := by decide +kernel
theorem dX8_findStart_38 : decode cX8_findStart 38 = .ok (.irem, 1) := by decide +kernel
theorem dX8_findStart_39 : decode cX8_findStart 39 = .ok (.invokevirtual 116, 3) := by decide +kernel
theorem dX8_findStart_42 : decode cX8_findStart 42 = .ok (.ifCond .eq 20, 3) := by decide +kernel
theorem dX8_findStart_45 : decode cX8_findStart 45 = .ok (.iload_n 2, 1) := by decide +kernel
theorem dX8_findStart_46 : decode cX8_findStart 46 = .ok (.aload_n 0, 1) := by decide +kernel
theorem dX8_findStart_47 : decode cX8_findStart 47 = .ok (.getfield 28, 3) := by decide +kernel
theorem dX8_findStart_50 : decode cX8_findStart 50 = .ok (.getfield 119, 3) := by decide +kernel
theorem dX8_findStart_53 : decode cX8_findStart 53 = .ok (.iconst (-1), 1) := by decide +kernel
theorem dX8_findStart_54 : decode cX8_findStart 54 = .ok (.ixor, 1) := by decide +kernel
theorem dX8_findStart_55 : decode cX8_findStart 55 = .ok (.iand, 1) := by decide +kernel
theorem dX8_findStart_56 : decode cX8_findStart 56 = .ok (.ifCond .ne 6, 3) := by decide +kernel
theorem dX8_findStart_59 : decode cX8_findStart 59 = .ok (.iload 4, 2) := by decide +kernel
theorem dX8_findStart_61 : decode cX8_findStart 61 = .ok (.ireturn, 1) := by decide +kernel
theorem dX8_findStart_62 : decode cX8_findStart 62 = .ok (.iinc 4 1, 3) := by decide +kernel
theorem dX8_findStart_65 : decode cX8_findStart 65 = .ok (.goto (-62), 3) := by decide +kernel
theorem dX8_findStart_68 : decode cX8_findStart 68 = .ok (.iconst (-1), 1) := by decide +kernel
theorem dX8_findStart_69 : decode cX8_findStart 69 = .ok (.ireturn, 1) := by decide +kernel
set_option maxRecDepth 20000 in
theorem ggX8_isBeginning_X7_allows : GoodIn wsX8_isBeginning wsX7_allows := goodIn_r _ [7, 8, 77, 78, 79, 80, 81, 82, 83, 84] (by decide +kernel) (by decide +kernel)
set_option maxRecDepth 20000 in
theorem gX8_isBeginning_X7_allows : GoodIn wsX8_isBeginning (wsV RX8 122 RX7 yX7_allows wsX7_allows) := goodIn_app (goodIn_of _ (by decide +kernel)) ggX8_isBeginning_X7_allows
set_option maxRecDepth 20000 in
theorem ggX8_isBeginning_X0_start : GoodIn wsX8_isBeginning wsX0_start := goodIn_r _ [13, 14, 15, 16, 17, 18, 19, 20, 69, 70, 71, 72, 73, 74, 75, 76, 85, 86, 87, 88, 89, 90, 91, 92] (by decide +kernel) (by decide +kernel)
set_option maxRecDepth 20000 in
theorem gX8_isBeginning_X0_start : GoodIn wsX8_isBeginning (wsV RX8 100 RX0 yX0_start wsX0_start) := goodIn_app (goodIn_of _ (by decide +kernel)) ggX8_isBeginning_X0_start
set_option maxRecDepth 20000 in
theorem ggX8_isBeginning_X0_goRound : GoodIn wsX8_isBeginning wsX0_goRound := goodIn_r _ [24, 25, 26, 27, 28, 12, 29, 30, 31, 32, 33, 16, 20, 14, 17, 15, 19, 18, 34, 35, 36, 37, 38, 39, 40, 41, 42, 43, 44, 45, 46, 47, 48, 49, 50, 51, 52, 53, 54, 55, 56, 57, 58, 59, 60, 61, 62, 63, 64, 69, 70, 71, 72, 73, 74, 75, 76, 77, 78, 79, 80, 81, 82, 83, 84, 85, 86, 87, 88, 89, 90, 91, 92] (by decide +kernel) (by decide +kernel)
set_option maxRecDepth 20000 in
theorem gX8_isBeginning_X0_goRound : GoodIn wsX8_isBeginning (wsV RX8 104 RX0 yX0_goRound wsX0_goRound) := goodIn_app (goodIn_of _ (by decide +kernel)) ggX8_isBeginning_X0_goRound
theorem dX8_isBeginning_0 : decode cX8_isBeginning 0 = .ok (.aload_n 0, 1) := by decide +kernel
theorem dX8_isBeginning_1 : decode cX8_isBeginning 1 = .ok (.getfield 20, 3) := by decide +kernel
theorem dX8_isBeginning_4 : decode cX8_isBeginning 4 = .ok (.iload_n 1, 1) := by decide +kernel
theorem dX8_isBeginning_5 : decode cX8_isBeginning 5 = .ok (.invokevirtual 122, 3) := by decide +kernel
theorem dX8_isBeginning_8 : decode cX8_isBeginning 8 = .ok (.ifCond .ne 5, 3) := by decide +kernel
theorem dX8_isBeginning_11 : decode cX8_isBeginning 11 = .ok (.iconst 0, 1) := by decide +kernel
theorem dX8_isBeginning_12 : decode cX8_isBeginning 12 = .ok (.ireturn, 1) := by decide +kernel
theorem dX8_isBeginning_13 : decode cX8_isBeginning 13 = .ok (.aload_n 0, 1) := by decide +kernel
theorem dX8_isBeginning_14 : decode cX8_isBeginning 14 = .ok (.getfield 28, 3) := by decide +kernel
theorem dX8_isBeginning_17 : decode cX8_isBeginning 17 = .ok (.iload_n 1, 1) := by decide +kernel
theorem dX8_isBeginning_18 : decode cX8_isBeginning 18 = .ok (.iconst 0, 1) := by decide +kernel
theorem dX8_isBeginning_19 : decode cX8_isBeginning 19 = .ok (.iconst 0, 1) := by decide +kernel
theorem dX8_isBeginning_20 : decode cX8_isBeginning 20 = .ok (.invokevirtual 100, 3) := by decide +kernel
theorem dX8_isBeginning_23 : decode cX8_isBeginning 23 = .ok (.aload_n 0, 1) := by decide +kernel
theorem dX8_isBeginning_24 : decode cX8_isBeginning 24 = .ok (.getfield 28, 3) := by decide +kernel
theorem dX8_isBeginning_27 : decode cX8_isBeginning 27 = .ok (.iload_n 3, 1) := by decide +kernel
theorem dX8_isBeginning_28 : decode cX8_isBeginning 28 = .ok (.iload 4, 2) := by decide +kernel
theorem dX8_isBeginning_30 : decode cX8_isBeginning 30 = .ok (.invokevirtual 104, 3) := by decide +kernel
theorem dX8_isBeginning_33 : decode cX8_isBeginning 33 = .ok (.aload_n 0, 1) := by decide +kernel
theorem dX8_isBeginning_34 : decode cX8_isBeginning 34 = .ok (.getfield 28, 3) := by decide +kernel
theorem dX8_isBeginning_37 : decode cX8_isBeginning 37 = .ok (.getfield 119, 3) := by decide +kernel
theorem dX8_isBeginning_40 : decode cX8_isBeginning 40 = .ok (.iload_n 2, 1) := by decide +kernel
theorem dX8_isBeginning_41 : decode cX8_isBeginning 41 = .ok (.if_icmp .ne 7, 3) := by decide +kernel
theorem dX8_isBeginning_44 : decode cX8_isBeginning 44 = .ok (.iconst 1, 1) := by decide +kernel
theorem dX8_isBeginning_45 : decode cX8_isBeginning 45 = .ok (.goto 4, 3) := by decide +kernel
theorem dX8_isBeginning_48 : decode cX8_isBeginning 48 = .ok (.iconst 0, 1) := by decide +kernel
theorem dX8_isBeginning_49 : decode cX8_isBeginning 49 = .ok (.ireturn, 1) := by decide +kernel
set_option maxRecDepth 20000 in
theorem ggX8_isPassable_X7_allows : GoodIn wsX8_isPassable wsX7_allows := goodIn_r _ [7, 8, 61, 62, 63, 64, 65, 66, 67, 68] (by decide +kernel) (by decide +kernel)
set_option maxRecDepth 20000 in
theorem gX8_isPassable_X7_allows : GoodIn wsX8_isPassable (wsV RX8 122 RX7 yX7_allows wsX7_allows) := goodIn_app (goodIn_of _ (by decide +kernel)) ggX8_isPassable_X7_allows
set_option maxRecDepth 20000 in
theorem ggX8_isPassable_X0_start : GoodIn wsX8_isPassable wsX0_start := goodIn_r _ [13, 14, 15, 16, 17, 18, 19, 20, 69, 70, 71, 72, 73, 74, 75, 76, 77, 78, 79, 80, 81, 82, 83, 84] (by decide +kernel) (by decide +kernel)
set_option maxRecDepth 20000 in
theorem gX8_isPassable_X0_start : GoodIn wsX8_isPassable (wsV RX8 100 RX0 yX0_start wsX0_start) := goodIn_app (goodIn_of _ (by decide +kernel)) ggX8_isPassable_X0_start
set_option maxRecDepth 20000 in
theorem ggX8_isPassable_X0_readAt : GoodIn wsX8_isPassable wsX0_readAt := goodIn_r _ [24, 16, 20, 14, 17, 15, 19, 18, 25, 26, 27, 28, 12, 29, 30, 31, 32, 33, 34, 35, 36, 37, 38, 39, 40, 41, 42, 43, 44, 45, 46, 47, 48, 49, 50, 51, 52, 53, 54, 55, 56, 69, 70, 71, 72, 73, 74, 75, 76, 77, 78, 79, 80, 81, 82, 83, 84, 61, 62, 63, 64, 65, 66, 67, 68] (by decide +kernel) (by decide +kernel)
set_option maxRecDepth 20000 in
theorem gX8_isPassable_X0_readAt : GoodIn wsX8_isPassable (wsV RX8 125 RX0 yX0_readAt wsX0_readAt) := goodIn_app (goodIn_of _ (by decide +kernel)) ggX8_isPassable_X0_readAt
theorem dX8_isPassable_0 : decode cX8_isPassable 0 = .ok (.iconst 0, 1) := by decide +kernel
theorem dX8_isPassable_1 : decode cX8_isPassable 1 = .ok (.istore_n 2, 1) := by decide +kernel
theorem dX8_isPassable_2 : decode cX8_isPassable 2 = .ok (.iload_n 2, 1) := by decide +kernel
theorem dX8_isPassable_3 : decode cX8_isPassable 3 = .ok (.sipush 256, 3) := by decide +kernel
theorem dX8_isPassable_6 : decode cX8_isPassable 6 = .ok (.if_icmp .ge 43, 3) := by decide +kernel
theorem dX8_isPassable_9 : decode cX8_isPassable 9 = .ok (.aload_n 0, 1) := by decide +kernel
theorem dX8_isPassable_10 : decode cX8_isPassable 10 = .ok (.getfield 20, 3) := by decide +kernel
theorem dX8_isPassable_13 : decode cX8_isPassable 13 = .ok (.iload_n 2, 1) := by decide +kernel
theorem dX8_isPassable_14 : decode cX8_isPassable 14 = .ok (.invokevirtual 122, 3) := by decide +kernel
theorem dX8_isPassable_17 : decode cX8_isPassable 17 = .ok (.ifCond .eq 26, 3) := by decide +kernel
theorem dX8_isPassable_20 : decode cX8_isPassable 20 = .ok (.aload_n 0, 1) := by decide +kernel
theorem dX8_isPassable_21 : decode cX8_isPassable 21 = .ok (.getfield 28, 3) := by decide +kernel
theorem dX8_isPassable_24 : decode cX8_isPassable 24 = .ok (.iload_n 2, 1) := by decide +kernel
theorem dX8_isPassable_25 : decode cX8_isPassable 25 = .ok (.iconst 0, 1) := by decide +kernel
theorem dX8_isPassable_26 : decode cX8_isPassable 26 = .ok (.iconst 0, 1) := by decide +kernel
theorem dX8_isPassable_27 : decode cX8_isPassable 27 = .ok (.invokevirtual 100, 3) := by decide +kernel
theorem dX8_isPassable_30 : decode cX8_isPassable 30 = .ok (.aload_n 0, 1) := by decide +kernel
theorem dX8_isPassable_31 : decode cX8_isPassable 31 = .ok (.getfield 28, 3) := by decide +kernel
theorem dX8_isPassable_34 : decode cX8_isPassable 34 = .ok (.iload_n 1, 1) := by decide +kernel
theorem dX8_isPassable_35 : decode cX8_isPassable 35 = .ok (.invokevirtual 125, 3) := by decide +kernel
theorem dX8_isPassable_38 : decode cX8_isPassable 38 = .ok (.ifCond .eq 5, 3) := by decide +kernel
theorem dX8_isPassable_41 : decode cX8_isPassable 41 = .ok (.iconst 1, 1) := by decide +kernel
theorem dX8_isPassable_42 : decode cX8_isPassable 42 = .ok (.ireturn, 1) := by decide +kernel
theorem dX8_isPassable_43 : decode cX8_isPassable 43 = .ok (.iinc 2 1, 3) := by decide +kernel
theorem dX8_isPassable_46 : decode cX8_isPassable 46 = .ok (.goto (-44), 3) := by decide +kernel
theorem dX8_isPassable_49 : decode cX8_isPassable 49 = .ok (.iconst 0, 1) := by decide +kernel
theorem dX8_isPassable_50 : decode cX8_isPassable 50 = .ok (.ireturn, 1) := by decide +kernel
set_option maxRecDepth 20000 in
theorem ggX8_holdsWithLiars_X0_start : GoodIn wsX8_holdsWithLiars wsX0_start := goodIn_r _ [6, 7, 8, 9, 10, 11, 12, 13, 62, 63, 64, 65, 66, 67, 68, 69, 70, 71, 72, 73, 74, 75, 76, 77] (by decide +kernel) (by decide +kernel)
set_option maxRecDepth 20000 in
theorem gX8_holdsWithLiars_X0_start : GoodIn wsX8_holdsWithLiars (wsV RX8 100 RX0 yX0_start wsX0_start) := goodIn_app (goodIn_of _ (by decide +kernel)) ggX8_holdsWithLiars_X0_start
set_option maxRecDepth 20000 in
theorem ggX8_holdsWithLiars_X0_holdsAllRound : GoodIn wsX8_holdsWithLiars wsX0_holdsAllRound := goodIn_r _ [17, 18, 19, 20, 21, 5, 22, 23, 24, 25, 26, 9, 13, 7, 10, 8, 12, 11, 27, 28, 29, 30, 31, 32, 33, 34, 35, 36, 37, 38, 39, 40, 41, 42, 43, 44, 45, 46, 47, 48, 49, 50, 51, 52, 53, 54, 55, 56, 57, 62, 63, 64, 65, 66, 67, 68, 69, 78, 79, 80, 81, 82, 83, 84, 85, 70, 71, 72, 73, 74, 75, 76, 77] (by decide +kernel) (by decide +kernel)
set_option maxRecDepth 20000 in
theorem gX8_holdsWithLiars_X0_holdsAllRound : GoodIn wsX8_holdsWithLiars (wsV RX8 116 RX0 yX0_holdsAllRound wsX0_holdsAllRound) := goodIn_app (goodIn_of _ (by decide +kernel)) ggX8_holdsWithLiars_X0_holdsAllRound
theorem dX8_holdsWithLiars_0 : decode cX8_holdsWithLiars 0 = .ok (.aload_n 0, 1) := by decide +kernel
theorem dX8_holdsWithLiars_1 : decode cX8_holdsWithLiars 1 = .ok (.getfield 28, 3) := by decide +kernel
theorem dX8_holdsWithLiars_4 : decode cX8_holdsWithLiars 4 = .ok (.iload_n 1, 1) := by decide +kernel
theorem dX8_holdsWithLiars_5 : decode cX8_holdsWithLiars 5 = .ok (.iconst 0, 1) := by decide +kernel
theorem dX8_holdsWithLiars_6 : decode cX8_holdsWithLiars 6 = .ok (.iload 4, 2) := by decide +kernel
theorem dX8_holdsWithLiars_8 : decode cX8_holdsWithLiars 8 = .ok (.invokevirtual 100, 3) := by decide +kernel
theorem dX8_holdsWithLiars_11 : decode cX8_holdsWithLiars 11 = .ok (.aload_n 0, 1) := by decide +kernel
theorem dX8_holdsWithLiars_12 : decode cX8_holdsWithLiars 12 = .ok (.getfield 28, 3) := by decide +kernel
theorem dX8_holdsWithLiars_15 : decode cX8_holdsWithLiars 15 = .ok (.iload_n 2, 1) := by decide +kernel
theorem dX8_holdsWithLiars_16 : decode cX8_holdsWithLiars 16 = .ok (.iload_n 3, 1) := by decide +kernel
theorem dX8_holdsWithLiars_17 : decode cX8_holdsWithLiars 17 = .ok (.invokevirtual 116, 3) := by decide +kernel
theorem dX8_holdsWithLiars_20 : decode cX8_holdsWithLiars 20 = .ok (.ireturn, 1) := by decide +kernel
set_option maxRecDepth 20000 in
theorem ggX9_init_X5_init : GoodIn wsX9_init wsX5_init := goodIn_r _ [15, 16, 2, 3, 17, 18, 19, 20, 21, 22, 23, 24] (by decide +kernel) (by decide +kernel)
set_option maxRecDepth 20000 in
theorem gX9_init_X5_init : GoodIn wsX9_init (wsX5_init) := ggX9_init_X5_init
theorem dX9_init_0 : decode cX9_init 0 = .ok (.aload_n 0, 1) := by decide +kernel
theorem dX9_init_1 : decode cX9_init 1 = .ok (.invokespecial 3, 3) := by decide +kernel
theorem dX9_init_4 : decode cX9_init 4 = .ok (.aload_n 0, 1) := by decide +kernel
theorem dX9_init_5 : decode cX9_init 5 = .ok (.new 9, 3) := by decide +kernel
theorem dX9_init_8 : decode cX9_init 8 = .ok (.dup, 1) := by decide +kernel
theorem dX9_init_9 : decode cX9_init 9 = .ok (.bipush 6, 2) := by decide +kernel
theorem dX9_init_11 : decode cX9_init 11 = .ok (.invokespecial 11, 3) := by decide +kernel
theorem dX9_init_14 : decode cX9_init 14 = .ok (.putfield 14, 3) := by decide +kernel
theorem dX9_init_17 : decode cX9_init 17 = .ok (.aload_n 0, 1) := by decide +kernel
theorem dX9_init_18 : decode cX9_init 18 = .ok (.new 9, 3) := by decide +kernel
theorem dX9_init_21 : decode cX9_init 21 = .ok (.dup, 1) := by decide +kernel
theorem dX9_init_22 : decode cX9_init 22 = .ok (.bipush 6, 2) := by decide +kernel
theorem dX9_init_24 : decode cX9_init 24 = .ok (.invokespecial 11, 3) := by decide +kernel
theorem dX9_init_27 : decode cX9_init 27 = .ok (.putfield 20, 3) := by decide +kernel
theorem dX9_init_30 : decode cX9_init 30 = .ok (.aload_n 0, 1) := by decide +kernel
theorem dX9_init_31 : decode cX9_init 31 = .ok (.new 9, 3) := by decide +kernel
theorem dX9_init_34 : decode cX9_init 34 = .ok (.dup, 1) := by decide +kernel
theorem dX9_init_35 : decode cX9_init 35 = .ok (.bipush 6, 2) := by decide +kernel
theorem dX9_init_37 : decode cX9_init 37 = .ok (.invokespecial 11, 3) := by decide +kernel
theorem dX9_init_40 : decode cX9_init 40 = .ok (.putfield 23, 3) := by decide +kernel
theorem dX9_init_43 : decode cX9_init 43 = .ok (.aload_n 0, 1) := by decide +kernel
theorem dX9_init_44 : decode cX9_init 44 = .ok (.new 9, 3) := by decide +kernel
theorem dX9_init_47 : decode cX9_init 47 = .ok (.dup, 1) := by decide +kernel
theorem dX9_init_48 : decode cX9_init 48 = .ok (.getstatic 26, 3) := by decide +kernel
theorem dX9_init_51 : decode cX9_init 51 = .ok (.arraylength, 1) := by decide +kernel
theorem dX9_init_52 : decode cX9_init 52 = .ok (.invokespecial 11, 3) := by decide +kernel
theorem dX9_init_55 : decode cX9_init 55 = .ok (.putfield 30, 3) := by decide +kernel
theorem dX9_init_58 : decode cX9_init 58 = .ok (.aload_n 0, 1) := by decide +kernel
theorem dX9_init_59 : decode cX9_init 59 = .ok (.aload_n 1, 1) := by decide +kernel
theorem dX9_init_60 : decode cX9_init 60 = .ok (.putfield 33, 3) := by decide +kernel
theorem dX9_init_63 : decode cX9_init 63 = .ok (.aload_n 0, 1) := by decide +kernel
theorem dX9_init_64 : decode cX9_init 64 = .ok (.aload_n 2, 1) := by decide +kernel
theorem dX9_init_65 : decode cX9_init 65 = .ok (.putfield 37, 3) := by decide +kernel
theorem dX9_init_68 : decode cX9_init 68 = .ok (.return_, 1) := by decide +kernel
set_option maxRecDepth 20000 in
theorem ggX9_add_X5_add : GoodIn wsX9_add wsX5_add := goodIn_r _ [8, 9, 10, 11, 18, 19] (by decide +kernel) (by decide +kernel)
set_option maxRecDepth 20000 in
theorem gX9_add_X5_add : GoodIn wsX9_add (wsV RX9 41 RX5 yX5_add wsX5_add) := goodIn_app (goodIn_of _ (by decide +kernel)) ggX9_add_X5_add
theorem dX9_add_0 : decode cX9_add 0 = .ok (.aload_n 0, 1) := by decide +kernel
theorem dX9_add_1 : decode cX9_add 1 = .ok (.getfield 20, 3) := by decide +kernel
theorem dX9_add_4 : decode cX9_add 4 = .ok (.iload_n 2, 1) := by decide +kernel
theorem dX9_add_5 : decode cX9_add 5 = .ok (.invokevirtual 41, 3) := by decide +kernel
theorem dX9_add_8 : decode cX9_add 8 = .ok (.pop, 1) := by decide +kernel
theorem dX9_add_9 : decode cX9_add 9 = .ok (.aload_n 0, 1) := by decide +kernel
theorem dX9_add_10 : decode cX9_add 10 = .ok (.getfield 23, 3) := by decide +kernel
theorem dX9_add_13 : decode cX9_add 13 = .ok (.iload_n 3, 1) := by decide +kernel
theorem dX9_add_14 : decode cX9_add 14 = .ok (.invokevirtual 41, 3) := by decide +kernel
theorem dX9_add_17 : decode cX9_add 17 = .ok (.pop, 1) := by decide +kernel
theorem dX9_add_18 : decode cX9_add 18 = .ok (.aload_n 0, 1) := by decide +kernel
theorem dX9_add_19 : decode cX9_add 19 = .ok (.getfield 14, 3) := by decide +kernel
theorem dX9_add_22 : decode cX9_add 22 = .ok (.iload_n 1, 1) := by decide +kernel
theorem dX9_add_23 : decode cX9_add 23 = .ok (.invokevirtual 41, 3) := by decide +kernel
theorem dX9_add_26 : decode cX9_add 26 = .ok (.ireturn, 1) := by decide +kernel
set_option maxRecDepth 20000 in
theorem ggX9_forget_X5_clear : GoodIn wsX9_forget wsX5_clear := goodIn_r _ [8, 9, 16, 17] (by decide +kernel) (by decide +kernel)
set_option maxRecDepth 20000 in
theorem gX9_forget_X5_clear : GoodIn wsX9_forget (wsV RX9 45 RX5 yX5_clear wsX5_clear) := goodIn_app (goodIn_of _ (by decide +kernel)) ggX9_forget_X5_clear
theorem dX9_forget_0 : decode cX9_forget 0 = .ok (.aload_n 0, 1) := by decide +kernel
theorem dX9_forget_1 : decode cX9_forget 1 = .ok (.getfield 14, 3) := by decide +kernel
theorem dX9_forget_4 : decode cX9_forget 4 = .ok (.invokevirtual 45, 3) := by decide +kernel
theorem dX9_forget_7 : decode cX9_forget 7 = .ok (.aload_n 0, 1) := by decide +kernel
theorem dX9_forget_8 : decode cX9_forget 8 = .ok (.getfield 20, 3) := by decide +kernel
theorem dX9_forget_11 : decode cX9_forget 11 = .ok (.invokevirtual 45, 3) := by decide +kernel
theorem dX9_forget_14 : decode cX9_forget 14 = .ok (.aload_n 0, 1) := by decide +kernel
theorem dX9_forget_15 : decode cX9_forget 15 = .ok (.getfield 23, 3) := by decide +kernel
theorem dX9_forget_18 : decode cX9_forget 18 = .ok (.invokevirtual 45, 3) := by decide +kernel
theorem dX9_forget_21 : decode cX9_forget 21 = .ok (.return_, 1) := by decide +kernel
set_option maxRecDepth 20000 in
theorem ggX9_gatherSuspects_X5_clear : GoodIn wsX9_gatherSuspects wsX5_clear := goodIn_r _ [7, 8, 87, 88] (by decide +kernel) (by decide +kernel)
set_option maxRecDepth 20000 in
theorem gX9_gatherSuspects_X5_clear : GoodIn wsX9_gatherSuspects (wsV RX9 45 RX5 yX5_clear wsX5_clear) := goodIn_app (goodIn_of _ (by decide +kernel)) ggX9_gatherSuspects_X5_clear
set_option maxRecDepth 20000 in
theorem ggX9_gatherSuspects_X0_canKeepIn : GoodIn wsX9_gatherSuspects wsX0_canKeepIn := goodIn_r _ [13, 14, 15, 16, 17, 18, 89, 90, 91, 92, 93, 94, 95, 96, 97, 98, 99, 100, 101, 102, 103, 104, 105, 106, 107, 108, 109, 110, 111, 112] (by decide +kernel) (by decide +kernel)
set_option maxRecDepth 20000 in
theorem gX9_gatherSuspects_X0_canKeepIn : GoodIn wsX9_gatherSuspects (wsV RX9 48 RX0 yX0_canKeepIn wsX0_canKeepIn) := goodIn_app (goodIn_of _ (by decide +kernel)) ggX9_gatherSuspects_X0_canKeepIn
set_option maxRecDepth 20000 in
theorem ggX9_gatherSuspects_X9_explainsAll : GoodIn wsX9_gatherSuspects wsX9_explainsAll := goodIn_r _ [23, 24, 2, 25, 26, 27, 28, 29, 6, 30, 8, 31, 32, 33, 34, 12, 35, 36, 15, 37, 38, 39, 40, 41, 42, 43, 44, 45, 14, 46, 47, 48, 49, 50, 17, 51, 52, 53, 54, 55, 56, 57, 58, 59, 60, 61, 62, 63, 64, 65, 66, 67, 68, 69, 70, 71, 72, 73, 74, 75, 81, 82, 83, 84, 85, 86, 87, 88, 89, 90, 91, 92, 93, 94, 95, 96, 105, 106, 107, 108, 109, 110, 111, 112, 97, 98, 99, 100, 101, 102, 103, 104] (by decide +kernel) (by decide +kernel)
set_option maxRecDepth 20000 in
theorem gX9_gatherSuspects_X9_explainsAll : GoodIn wsX9_gatherSuspects (wsV RX9 54 RX9 yX9_explainsAll wsX9_explainsAll) := goodIn_app (goodIn_of _ (by decide +kernel)) ggX9_gatherSuspects_X9_explainsAll
set_option maxRecDepth 20000 in
theorem ggX9_gatherSuspects_X5_add : GoodIn wsX9_gatherSuspects wsX5_add := goodIn_r _ [79, 8, 31, 80, 87, 88] (by decide +kernel) (by decide +kernel)
set_option maxRecDepth 20000 in
theorem gX9_gatherSuspects_X5_add : GoodIn wsX9_gatherSuspects (wsV RX9 41 RX5 yX5_add wsX5_add) := goodIn_app (goodIn_of _ (by decide +kernel)) ggX9_gatherSuspects_X5_add
theorem dX9_gatherSuspects_0 : decode cX9_gatherSuspects 0 = .ok (.aload_n 0, 1) := by decide +kernel
theorem dX9_gatherSuspects_1 : decode cX9_gatherSuspects 1 = .ok (.getfield 30, 3) := by decide +kernel
theorem dX9_gatherSuspects_4 : decode cX9_gatherSuspects 4 = .ok (.invokevirtual 45, 3) := by decide +kernel
theorem dX9_gatherSuspects_7 : decode cX9_gatherSuspects 7 = .ok (.iconst 0, 1) := by decide +kernel
theorem dX9_gatherSuspects_8 : decode cX9_gatherSuspects 8 = .ok (.istore_n 1, 1) := by decide +kernel
theorem dX9_gatherSuspects_9 : decode cX9_gatherSuspects 9 = .ok (.iload_n 1, 1) := by decide +kernel
theorem dX9_gatherSuspects_10 : decode cX9_gatherSuspects 10 = .ok (.getstatic 26, 3) := by decide +kernel
theorem dX9_gatherSuspects_13 : decode cX9_gatherSuspects 13 = .ok (.arraylength, 1) := by decide +kernel
theorem dX9_gatherSuspects_14 : decode cX9_gatherSuspects 14 = .ok (.if_icmp .ge 49, 3) := by decide +kernel
theorem dX9_gatherSuspects_17 : decode cX9_gatherSuspects 17 = .ok (.aload_n 0, 1) := by decide +kernel
theorem dX9_gatherSuspects_18 : decode cX9_gatherSuspects 18 = .ok (.getfield 37, 3) := by decide +kernel
theorem dX9_gatherSuspects_21 : decode cX9_gatherSuspects 21 = .ok (.getstatic 26, 3) := by decide +kernel
theorem dX9_gatherSuspects_24 : decode cX9_gatherSuspects 24 = .ok (.iload_n 1, 1) := by decide +kernel
theorem dX9_gatherSuspects_25 : decode cX9_gatherSuspects 25 = .ok (.iaload, 1) := by decide +kernel
theorem dX9_gatherSuspects_26 : decode cX9_gatherSuspects 26 = .ok (.invokevirtual 48, 3) := by decide +kernel
theorem dX9_gatherSuspects_29 : decode cX9_gatherSuspects 29 = .ok (.ifCond .eq 28, 3) := by decide +kernel
theorem dX9_gatherSuspects_32 : decode cX9_gatherSuspects 32 = .ok (.aload_n 0, 1) := by decide +kernel
theorem dX9_gatherSuspects_33 : decode cX9_gatherSuspects 33 = .ok (.getstatic 26, 3) := by decide +kernel
theorem dX9_gatherSuspects_36 : decode cX9_gatherSuspects 36 = .ok (.iload_n 1, 1) := by decide +kernel
theorem dX9_gatherSuspects_37 : decode cX9_gatherSuspects 37 = .ok (.iaload, 1) := by decide +kernel
theorem dX9_gatherSuspects_38 : decode cX9_gatherSuspects 38 = .ok (.invokevirtual 54, 3) := by decide +kernel
theorem dX9_gatherSuspects_41 : decode cX9_gatherSuspects 41 = .ok (.ifCond .eq 16, 3) := by decide +kernel
theorem dX9_gatherSuspects_44 : decode cX9_gatherSuspects 44 = .ok (.aload_n 0, 1) := by decide +kernel
theorem dX9_gatherSuspects_45 : decode cX9_gatherSuspects 45 = .ok (.getfield 30, 3) := by decide +kernel
theorem dX9_gatherSuspects_48 : decode cX9_gatherSuspects 48 = .ok (.getstatic 26, 3) := by decide +kernel
theorem dX9_gatherSuspects_51 : decode cX9_gatherSuspects 51 = .ok (.iload_n 1, 1) := by decide +kernel
theorem dX9_gatherSuspects_52 : decode cX9_gatherSuspects 52 = .ok (.iaload, 1) := by decide +kernel
theorem dX9_gatherSuspects_53 : decode cX9_gatherSuspects 53 = .ok (.invokevirtual 41, 3) := by decide +kernel
theorem dX9_gatherSuspects_56 : decode cX9_gatherSuspects 56 = .ok (.pop, 1) := by decide +kernel
theorem dX9_gatherSuspects_57 : decode cX9_gatherSuspects 57 = .ok (.iinc 1 1, 3) := by decide +kernel
theorem dX9_gatherSuspects_60 : decode cX9_gatherSuspects 60 = .ok (.goto (-51), 3) := by decide +kernel
theorem dX9_gatherSuspects_63 : decode cX9_gatherSuspects 63 = .ok (.return_, 1) := by decide +kernel
set_option maxRecDepth 20000 in
theorem ggX9_bestParting_X9_countWith : GoodIn wsX9_bestParting wsX9_countWith := goodIn_r _ [11, 1, 12, 13, 14, 15, 16, 17, 18, 19, 20, 21, 22, 23, 24, 25, 26, 27, 28, 29] (by decide +kernel) (by decide +kernel)
set_option maxRecDepth 20000 in
theorem gX9_bestParting_X9_countWith : GoodIn wsX9_bestParting (wsV RX9 66 RX9 yX9_countWith wsX9_countWith) := goodIn_app (goodIn_of _ (by decide +kernel)) ggX9_bestParting_X9_countWith
theorem dX9_bestParting_0 : decode cX9_bestParting 0 = .ok (.iconst (-1), 1) := by decide +kernel
theorem dX9_bestParting_1 : decode cX9_bestParting 1 = .ok (.istore_n 1, 1) := by decide +kernel
theorem dX9_bestParting_2 : decode cX9_bestParting 2 = .ok (.aload_n 0, 1) := by decide +kernel
theorem dX9_bestParting_3 : decode cX9_bestParting 3 = .ok (.getfield 30, 3) := by decide +kernel
theorem dX9_bestParting_6 : decode cX9_bestParting 6 = .ok (.getfield 57, 3) := by decide +kernel
theorem dX9_bestParting_9 : decode cX9_bestParting 9 = .ok (.istore_n 2, 1) := by decide +kernel
theorem dX9_bestParting_10 : decode cX9_bestParting 10 = .ok (.iconst 0, 1) := by decide +kernel
theorem dX9_bestParting_11 : decode cX9_bestParting 11 = .ok (.istore_n 3, 1) := by decide +kernel
theorem dX9_bestParting_12 : decode cX9_bestParting 12 = .ok (.iload_n 3, 1) := by decide +kernel
theorem dX9_bestParting_13 : decode cX9_bestParting 13 = .ok (.aload_n 0, 1) := by decide +kernel
theorem dX9_bestParting_14 : decode cX9_bestParting 14 = .ok (.getfield 33, 3) := by decide +kernel
theorem dX9_bestParting_17 : decode cX9_bestParting 17 = .ok (.getfield 61, 3) := by decide +kernel
theorem dX9_bestParting_20 : decode cX9_bestParting 20 = .ok (.if_icmp .ge 44, 3) := by decide +kernel
theorem dX9_bestParting_23 : decode cX9_bestParting 23 = .ok (.aload_n 0, 1) := by decide +kernel
theorem dX9_bestParting_24 : decode cX9_bestParting 24 = .ok (.iload_n 3, 1) := by decide +kernel
theorem dX9_bestParting_25 : decode cX9_bestParting 25 = .ok (.invokevirtual 66, 3) := by decide +kernel
theorem dX9_bestParting_28 : decode cX9_bestParting 28 = .ok (.istore 4, 2) := by decide +kernel
theorem dX9_bestParting_30 : decode cX9_bestParting 30 = .ok (.iload 4, 2) := by decide +kernel
theorem dX9_bestParting_32 : decode cX9_bestParting 32 = .ok (.aload_n 0, 1) := by decide +kernel
theorem dX9_bestParting_33 : decode cX9_bestParting 33 = .ok (.getfield 30, 3) := by decide +kernel
theorem dX9_bestParting_36 : decode cX9_bestParting 36 = .ok (.getfield 57, 3) := by decide +kernel
theorem dX9_bestParting_39 : decode cX9_bestParting 39 = .ok (.iload 4, 2) := by decide +kernel
theorem dX9_bestParting_41 : decode cX9_bestParting 41 = .ok (.isub, 1) := by decide +kernel
theorem dX9_bestParting_42 : decode cX9_bestParting 42 = .ok (.invokestatic 69, 3) := by decide +kernel
theorem dX9_bestParting_45 : decode cX9_bestParting 45 = .ok (.istore 5, 2) := by decide +kernel
theorem dX9_bestParting_47 : decode cX9_bestParting 47 = .ok (.iload 5, 2) := by decide +kernel
theorem dX9_bestParting_49 : decode cX9_bestParting 49 = .ok (.iload_n 2, 1) := by decide +kernel
theorem dX9_bestParting_50 : decode cX9_bestParting 50 = .ok (.if_icmp .ge 8, 3) := by decide +kernel
theorem dX9_bestParting_53 : decode cX9_bestParting 53 = .ok (.iload 5, 2) := by decide +kernel
theorem dX9_bestParting_55 : decode cX9_bestParting 55 = .ok (.istore_n 2, 1) := by decide +kernel
theorem dX9_bestParting_56 : decode cX9_bestParting 56 = .ok (.iload_n 3, 1) := by decide +kernel
theorem dX9_bestParting_57 : decode cX9_bestParting 57 = .ok (.istore_n 1, 1) := by decide +kernel
theorem dX9_bestParting_58 : decode cX9_bestParting 58 = .ok (.iinc 3 1, 3) := by decide +kernel
theorem dX9_bestParting_61 : decode cX9_bestParting 61 = .ok (.goto (-49), 3) := by decide +kernel
theorem dX9_bestParting_64 : decode cX9_bestParting 64 = .ok (.iload_n 1, 1) := by decide +kernel
theorem dX9_bestParting_65 : decode cX9_bestParting 65 = .ok (.ireturn, 1) := by decide +kernel
set_option maxRecDepth 20000 in
theorem ggX9_countWith_X5_get : GoodIn wsX9_countWith wsX5_get := goodIn_r _ [6, 7, 8, 18, 19] (by decide +kernel) (by decide +kernel)
set_option maxRecDepth 20000 in
theorem gX9_countWith_X5_get : GoodIn wsX9_countWith (wsV RX9 75 RX5 yX5_get wsX5_get) := goodIn_app (goodIn_of _ (by decide +kernel)) ggX9_countWith_X5_get
set_option maxRecDepth 20000 in
theorem ggX9_countWith_X10_bit : GoodIn wsX9_countWith wsX10_bit := goodIn_r _ [11] (by decide +kernel) (by decide +kernel)
set_option maxRecDepth 20000 in
theorem gX9_countWith_X10_bit_n78 : GoodIn wsX9_countWith (wsX10_bit) := ggX9_countWith_X10_bit
theorem dX9_countWith_0 : decode cX9_countWith 0 = .ok (.iconst 0, 1) := by decide +kernel
theorem dX9_countWith_1 : decode cX9_countWith 1 = .ok (.istore_n 2, 1) := by decide +kernel
theorem dX9_countWith_2 : decode cX9_countWith 2 = .ok (.iconst 0, 1) := by decide +kernel
theorem dX9_countWith_3 : decode cX9_countWith 3 = .ok (.istore_n 3, 1) := by decide +kernel
theorem dX9_countWith_4 : decode cX9_countWith 4 = .ok (.iload_n 3, 1) := by decide +kernel
theorem dX9_countWith_5 : decode cX9_countWith 5 = .ok (.aload_n 0, 1) := by decide +kernel
theorem dX9_countWith_6 : decode cX9_countWith 6 = .ok (.getfield 30, 3) := by decide +kernel
theorem dX9_countWith_9 : decode cX9_countWith 9 = .ok (.getfield 57, 3) := by decide +kernel
theorem dX9_countWith_12 : decode cX9_countWith 12 = .ok (.if_icmp .ge 24, 3) := by decide +kernel
theorem dX9_countWith_15 : decode cX9_countWith 15 = .ok (.iload_n 2, 1) := by decide +kernel
theorem dX9_countWith_16 : decode cX9_countWith 16 = .ok (.aload_n 0, 1) := by decide +kernel
theorem dX9_countWith_17 : decode cX9_countWith 17 = .ok (.getfield 30, 3) := by decide +kernel
