theorem dX7_doesStrike_1 : decode cX7_doesStrike 1 = .ok (.istore_n 1, 1) := by decide +kernel
theorem dX7_doesStrike_2 : decode cX7_doesStrike 2 = .ok (.iconst 0, 1) := by decide +kernel
theorem dX7_doesStrike_3 : decode cX7_doesStrike 3 = .ok (.istore_n 2, 1) := by decide +kernel
theorem dX7_doesStrike_4 : decode cX7_doesStrike 4 = .ok (.iload_n 2, 1) := by decide +kernel
theorem dX7_doesStrike_5 : decode cX7_doesStrike 5 = .ok (.bipush 64, 2) := by decide +kernel
theorem dX7_doesStrike_7 : decode cX7_doesStrike 7 = .ok (.if_icmp .ge 46, 3) := by decide +kernel
theorem dX7_doesStrike_10 : decode cX7_doesStrike 10 = .ok (.iload_n 1, 1) := by decide +kernel
theorem dX7_doesStrike_11 : decode cX7_doesStrike 11 = .ok (.ifCond .ne 30, 3) := by decide +kernel
theorem dX7_doesStrike_14 : decode cX7_doesStrike 14 = .ok (.aload_n 0, 1) := by decide +kernel
theorem dX7_doesStrike_15 : decode cX7_doesStrike 15 = .ok (.getfield 186, 3) := by decide +kernel
theorem dX7_doesStrike_18 : decode cX7_doesStrike 18 = .ok (.iload_n 2, 1) := by decide +kernel
theorem dX7_doesStrike_19 : decode cX7_doesStrike 19 = .ok (.lshr, 1) := by decide +kernel
theorem dX7_doesStrike_20 : decode cX7_doesStrike 20 = .ok (.lconst 1, 1) := by decide +kernel
theorem dX7_doesStrike_21 : decode cX7_doesStrike 21 = .ok (.land, 1) := by decide +kernel
theorem dX7_doesStrike_22 : decode cX7_doesStrike 22 = .ok (.lconst 1, 1) := by decide +kernel
theorem dX7_doesStrike_23 : decode cX7_doesStrike 23 = .ok (.lcmp, 1) := by decide +kernel
theorem dX7_doesStrike_24 : decode cX7_doesStrike 24 = .ok (.ifCond .ne 21, 3) := by decide +kernel
theorem dX7_doesStrike_27 : decode cX7_doesStrike 27 = .ok (.aload_n 0, 1) := by decide +kernel
theorem dX7_doesStrike_28 : decode cX7_doesStrike 28 = .ok (.getfield 9, 3) := by decide +kernel
theorem dX7_doesStrike_31 : decode cX7_doesStrike 31 = .ok (.sipush 210, 3) := by decide +kernel
theorem dX7_doesStrike_34 : decode cX7_doesStrike 34 = .ok (.iload_n 2, 1) := by decide +kernel
theorem dX7_doesStrike_35 : decode cX7_doesStrike 35 = .ok (.iadd, 1) := by decide +kernel
theorem dX7_doesStrike_36 : decode cX7_doesStrike 36 = .ok (.iaload, 1) := by decide +kernel
theorem dX7_doesStrike_37 : decode cX7_doesStrike 37 = .ok (.iconst 1, 1) := by decide +kernel
theorem dX7_doesStrike_38 : decode cX7_doesStrike 38 = .ok (.if_icmp .ne 7, 3) := by decide +kernel
theorem dX7_doesStrike_41 : decode cX7_doesStrike 41 = .ok (.iconst 1, 1) := by decide +kernel
theorem dX7_doesStrike_42 : decode cX7_doesStrike 42 = .ok (.goto 4, 3) := by decide +kernel
theorem dX7_doesStrike_45 : decode cX7_doesStrike 45 = .ok (.iconst 0, 1) := by decide +kernel
theorem dX7_doesStrike_46 : decode cX7_doesStrike 46 = .ok (.istore_n 1, 1) := by decide +kernel
theorem dX7_doesStrike_47 : decode cX7_doesStrike 47 = .ok (.iinc 2 1, 3) := by decide +kernel
theorem dX7_doesStrike_50 : decode cX7_doesStrike 50 = .ok (.goto (-46), 3) := by decide +kernel
theorem dX7_doesStrike_53 : decode cX7_doesStrike 53 = .ok (.iload_n 1, 1) := by decide +kernel
theorem dX7_doesStrike_54 : decode cX7_doesStrike 54 = .ok (.ireturn, 1) := by decide +kernel
set_option maxRecDepth 20000 in
theorem ggX7_goesNow_X7_goesIn : GoodIn wsX7_goesNow wsX7_goesIn := goodIn_r _ [5, 6, 7, 8, 9, 10, 11, 12, 13, 14, 15, 16, 17, 4, 18, 19, 20, 21, 22, 23, 24, 25, 26, 27, 28, 29, 30, 31, 32, 33, 34, 35, 36, 37, 38, 39, 40, 41, 42, 64, 65, 66, 67, 68, 69, 70, 71, 72, 73, 74, 75, 76, 77, 78, 79, 80, 81, 82, 83, 84, 85, 86, 87, 88, 89, 90, 91, 92, 93, 94] (by decide +kernel) (by decide +kernel)
set_option maxRecDepth 20000 in
theorem gX7_goesNow_X7_goesIn : GoodIn wsX7_goesNow (wsV RX7 202 RX7 yX7_goesIn wsX7_goesIn) := goodIn_app (goodIn_of _ (by decide +kernel)) ggX7_goesNow_X7_goesIn
set_option maxRecDepth 20000 in
theorem ggX7_goesNow_X7_lays : GoodIn wsX7_goesNow wsX7_lays := goodIn_r _ [46, 47, 48, 49, 14, 6, 15, 50, 51, 4, 52, 53, 54, 55, 56, 57, 58, 59, 60, 61, 62, 63, 64, 65, 66, 67, 68, 69, 70, 71, 72, 73, 74, 75, 76, 77, 78, 79, 80, 81, 82, 83, 84, 85, 86, 87, 88, 89, 90, 91, 92, 93, 94] (by decide +kernel) (by decide +kernel)
set_option maxRecDepth 20000 in
theorem gX7_goesNow_X7_lays : GoodIn wsX7_goesNow (wsV RX7 205 RX7 yX7_lays wsX7_lays) := goodIn_app (goodIn_of _ (by decide +kernel)) ggX7_goesNow_X7_lays
theorem dX7_goesNow_0 : decode cX7_goesNow 0 = .ok (.aload_n 0, 1) := by decide +kernel
theorem dX7_goesNow_1 : decode cX7_goesNow 1 = .ok (.iload_n 1, 1) := by decide +kernel
theorem dX7_goesNow_2 : decode cX7_goesNow 2 = .ok (.iload_n 2, 1) := by decide +kernel
theorem dX7_goesNow_3 : decode cX7_goesNow 3 = .ok (.invokevirtual 202, 3) := by decide +kernel
theorem dX7_goesNow_6 : decode cX7_goesNow 6 = .ok (.aload_n 0, 1) := by decide +kernel
theorem dX7_goesNow_7 : decode cX7_goesNow 7 = .ok (.iload_n 1, 1) := by decide +kernel
theorem dX7_goesNow_8 : decode cX7_goesNow 8 = .ok (.invokevirtual 205, 3) := by decide +kernel
theorem dX7_goesNow_11 : decode cX7_goesNow 11 = .ok (.return_, 1) := by decide +kernel
set_option maxRecDepth 20000 in
theorem ggX7_goes_X7_isTree : GoodIn wsX7_goes wsX7_isTree := goodIn_r _ [13, 14, 15, 16, 12, 17, 72, 73, 74, 75, 76, 77, 78, 79, 80, 81, 82, 83, 84, 85, 86, 87, 88, 89, 90, 91, 92, 93, 94, 95, 96, 97, 98, 99, 100, 101, 102] (by decide +kernel) (by decide +kernel)
set_option maxRecDepth 20000 in
theorem gX7_goes_X7_isTree : GoodIn wsX7_goes (wsV RX7 138 RX7 yX7_isTree wsX7_isTree) := goodIn_app (goodIn_of _ (by decide +kernel)) ggX7_goes_X7_isTree
set_option maxRecDepth 20000 in
theorem ggX7_goes_X7_in : GoodIn wsX7_goes wsX7_in := goodIn_r _ [17] (by decide +kernel) (by decide +kernel)
set_option maxRecDepth 20000 in
theorem gX7_goes_X7_in : GoodIn wsX7_goes (va_wsS RX7 41 yX7_in wsX7_in) := goodIn_app (goodIn_of _ (by decide +kernel)) ggX7_goes_X7_in
set_option maxRecDepth 20000 in
theorem ggX7_goes_X7_isStanding : GoodIn wsX7_goes wsX7_isStanding := goodIn_r _ [21, 14, 72, 73, 74, 75, 76, 77, 78, 79, 80, 81, 82, 83, 84, 85, 86, 87, 88, 89, 90, 91, 92, 93, 94, 95, 96, 97, 98, 99, 100, 101, 102] (by decide +kernel) (by decide +kernel)
set_option maxRecDepth 20000 in
theorem gX7_goes_X7_isStanding : GoodIn wsX7_goes (wsV RX7 183 RX7 yX7_isStanding wsX7_isStanding) := goodIn_app (goodIn_of _ (by decide +kernel)) ggX7_goes_X7_isStanding
set_option maxRecDepth 20000 in
theorem ggX7_goes_X7_goesNow : GoodIn wsX7_goes wsX7_goesNow := goodIn_r _ [25, 26, 27, 28, 12, 29, 14, 1, 2, 30, 31, 3, 32, 4, 5, 6, 33, 34, 35, 36, 37, 38, 39, 40, 41, 42, 43, 44, 45, 46, 47, 48, 49, 50, 51, 52, 53, 54, 55, 56, 57, 58, 59, 60, 61, 62, 63, 64, 7, 8, 65, 66, 67, 15, 16, 17, 68, 69, 70, 71, 18, 19, 20, 21, 72, 73, 74, 75, 76, 77, 78, 79, 80, 81, 82, 83, 84, 85, 86, 87, 88, 89, 90, 91, 92, 93, 94, 95, 96, 97, 98, 99, 100, 101, 102] (by decide +kernel) (by decide +kernel)
set_option maxRecDepth 20000 in
theorem gX7_goes_X7_goesNow : GoodIn wsX7_goes (wsV RX7 208 RX7 yX7_goesNow wsX7_goesNow) := goodIn_app (goodIn_of _ (by decide +kernel)) ggX7_goes_X7_goesNow
theorem dX7_goes_0 : decode cX7_goes 0 = .ok (.aload_n 0, 1) := by decide +kernel
theorem dX7_goes_1 : decode cX7_goes 1 = .ok (.iload_n 1, 1) := by decide +kernel
theorem dX7_goes_2 : decode cX7_goes 2 = .ok (.invokevirtual 138, 3) := by decide +kernel
theorem dX7_goes_5 : decode cX7_goes 5 = .ok (.ifCond .eq 13, 3) := by decide +kernel
theorem dX7_goes_8 : decode cX7_goes 8 = .ok (.iload_n 2, 1) := by decide +kernel
theorem dX7_goes_9 : decode cX7_goes 9 = .ok (.iconst 0, 1) := by decide +kernel
theorem dX7_goes_10 : decode cX7_goes 10 = .ok (.bipush 7, 2) := by decide +kernel
theorem dX7_goes_12 : decode cX7_goes 12 = .ok (.invokestatic 41, 3) := by decide +kernel
theorem dX7_goes_15 : decode cX7_goes 15 = .ok (.ifCond .ne 7, 3) := by decide +kernel
theorem dX7_goes_18 : decode cX7_goes 18 = .ok (.sipush (-10001), 3) := by decide +kernel
theorem dX7_goes_21 : decode cX7_goes 21 = .ok (.ireturn, 1) := by decide +kernel
theorem dX7_goes_22 : decode cX7_goes 22 = .ok (.aload_n 0, 1) := by decide +kernel
theorem dX7_goes_23 : decode cX7_goes 23 = .ok (.iload_n 1, 1) := by decide +kernel
theorem dX7_goes_24 : decode cX7_goes 24 = .ok (.invokevirtual 183, 3) := by decide +kernel
theorem dX7_goes_27 : decode cX7_goes 27 = .ok (.ifCond .ne 7, 3) := by decide +kernel
theorem dX7_goes_30 : decode cX7_goes 30 = .ok (.sipush (-10002), 3) := by decide +kernel
theorem dX7_goes_33 : decode cX7_goes 33 = .ok (.ireturn, 1) := by decide +kernel
theorem dX7_goes_34 : decode cX7_goes 34 = .ok (.aload_n 0, 1) := by decide +kernel
theorem dX7_goes_35 : decode cX7_goes 35 = .ok (.iload_n 1, 1) := by decide +kernel
theorem dX7_goes_36 : decode cX7_goes 36 = .ok (.iconst (-1), 1) := by decide +kernel
theorem dX7_goes_37 : decode cX7_goes 37 = .ok (.invokevirtual 208, 3) := by decide +kernel
theorem dX7_goes_40 : decode cX7_goes 40 = .ok (.iload_n 2, 1) := by decide +kernel
theorem dX7_goes_41 : decode cX7_goes 41 = .ok (.tableswitch 78 0 6 #[43, 48, 53, 58, 63, 68, 73], 43) := by decide +kernel
theorem dX7_goes_84 : decode cX7_goes 84 = .ok (.aload_n 0, 1) := by decide +kernel
theorem dX7_goes_85 : decode cX7_goes 85 = .ok (.getfield 152, 3) := by decide +kernel
theorem dX7_goes_88 : decode cX7_goes 88 = .ok (.ireturn, 1) := by decide +kernel
theorem dX7_goes_89 : decode cX7_goes 89 = .ok (.aload_n 0, 1) := by decide +kernel
theorem dX7_goes_90 : decode cX7_goes 90 = .ok (.getfield 158, 3) := by decide +kernel
theorem dX7_goes_93 : decode cX7_goes 93 = .ok (.ireturn, 1) := by decide +kernel
theorem dX7_goes_94 : decode cX7_goes 94 = .ok (.aload_n 0, 1) := by decide +kernel
theorem dX7_goes_95 : decode cX7_goes 95 = .ok (.getfield 165, 3) := by decide +kernel
theorem dX7_goes_98 : decode cX7_goes 98 = .ok (.ireturn, 1) := by decide +kernel
theorem dX7_goes_99 : decode cX7_goes 99 = .ok (.aload_n 0, 1) := by decide +kernel
theorem dX7_goes_100 : decode cX7_goes 100 = .ok (.getfield 168, 3) := by decide +kernel
theorem dX7_goes_103 : decode cX7_goes 103 = .ok (.ireturn, 1) := by decide +kernel
theorem dX7_goes_104 : decode cX7_goes 104 = .ok (.aload_n 0, 1) := by decide +kernel
theorem dX7_goes_105 : decode cX7_goes 105 = .ok (.getfield 177, 3) := by decide +kernel
theorem dX7_goes_108 : decode cX7_goes 108 = .ok (.ireturn, 1) := by decide +kernel
theorem dX7_goes_109 : decode cX7_goes 109 = .ok (.aload_n 0, 1) := by decide +kernel
theorem dX7_goes_110 : decode cX7_goes 110 = .ok (.getfield 180, 3) := by decide +kernel
theorem dX7_goes_113 : decode cX7_goes 113 = .ok (.ireturn, 1) := by decide +kernel
theorem dX7_goes_114 : decode cX7_goes 114 = .ok (.aload_n 0, 1) := by decide +kernel
theorem dX7_goes_115 : decode cX7_goes 115 = .ok (.getfield 190, 3) := by decide +kernel
theorem dX7_goes_118 : decode cX7_goes 118 = .ok (.ireturn, 1) := by decide +kernel
theorem dX7_goes_119 : decode cX7_goes 119 = .ok (.aload_n 0, 1) := by decide +kernel
theorem dX7_goes_120 : decode cX7_goes 120 = .ok (.getfield 193, 3) := by decide +kernel
theorem dX7_goes_123 : decode cX7_goes 123 = .ok (.ireturn, 1) := by decide +kernel
set_option maxRecDepth 20000 in
theorem ggX7_lies_X7_isTree : GoodIn wsX7_lies wsX7_isTree := goodIn_r _ [7, 8, 9, 10, 6, 11, 73, 74, 75, 76, 77, 78, 79, 80, 81, 82, 83, 84, 85, 86, 87, 88, 89, 90, 91, 92, 93, 94, 95, 96, 97, 98, 99, 100, 101, 102, 103] (by decide +kernel) (by decide +kernel)
set_option maxRecDepth 20000 in
theorem gX7_lies_X7_isTree : GoodIn wsX7_lies (wsV RX7 138 RX7 yX7_isTree wsX7_isTree) := goodIn_app (goodIn_of _ (by decide +kernel)) ggX7_lies_X7_isTree
set_option maxRecDepth 20000 in
theorem ggX7_lies_X7_isStanding : GoodIn wsX7_lies wsX7_isStanding := goodIn_r _ [15, 8, 73, 74, 75, 76, 77, 78, 79, 80, 81, 82, 83, 84, 85, 86, 87, 88, 89, 90, 91, 92, 93, 94, 95, 96, 97, 98, 99, 100, 101, 102, 103] (by decide +kernel) (by decide +kernel)
set_option maxRecDepth 20000 in
theorem gX7_lies_X7_isStanding : GoodIn wsX7_lies (wsV RX7 183 RX7 yX7_isStanding wsX7_isStanding) := goodIn_app (goodIn_of _ (by decide +kernel)) ggX7_lies_X7_isStanding
set_option maxRecDepth 20000 in
theorem ggX7_lies_X7_goesNow : GoodIn wsX7_lies wsX7_goesNow := goodIn_r _ [19, 20, 21, 22, 6, 23, 8, 24, 25, 26, 27, 28, 29, 30, 31, 32, 33, 34, 35, 36, 37, 38, 39, 40, 41, 42, 43, 44, 45, 46, 47, 48, 49, 50, 51, 52, 53, 54, 55, 56, 57, 58, 59, 60, 61, 62, 63, 2, 64, 65, 66, 67, 68, 9, 10, 11, 69, 70, 71, 72, 12, 13, 14, 15, 73, 74, 75, 76, 77, 78, 79, 80, 81, 82, 83, 84, 85, 86, 87, 88, 89, 90, 91, 92, 93, 94, 95, 96, 97, 98, 99, 100, 101, 102, 103] (by decide +kernel) (by decide +kernel)
set_option maxRecDepth 20000 in
theorem gX7_lies_X7_goesNow : GoodIn wsX7_lies (wsV RX7 208 RX7 yX7_goesNow wsX7_goesNow) := goodIn_app (goodIn_of _ (by decide +kernel)) ggX7_lies_X7_goesNow
theorem dX7_lies_0 : decode cX7_lies 0 = .ok (.aload_n 0, 1) := by decide +kernel
theorem dX7_lies_1 : decode cX7_lies 1 = .ok (.iload_n 1, 1) := by decide +kernel
theorem dX7_lies_2 : decode cX7_lies 2 = .ok (.invokevirtual 138, 3) := by decide +kernel
theorem dX7_lies_5 : decode cX7_lies 5 = .ok (.ifCond .eq 11, 3) := by decide +kernel
theorem dX7_lies_8 : decode cX7_lies 8 = .ok (.aload_n 0, 1) := by decide +kernel
theorem dX7_lies_9 : decode cX7_lies 9 = .ok (.iload_n 1, 1) := by decide +kernel
theorem dX7_lies_10 : decode cX7_lies 10 = .ok (.invokevirtual 183, 3) := by decide +kernel
theorem dX7_lies_13 : decode cX7_lies 13 = .ok (.ifCond .ne 7, 3) := by decide +kernel
theorem dX7_lies_16 : decode cX7_lies 16 = .ok (.ldc2_w 211, 3) := by decide +kernel
theorem dX7_lies_19 : decode cX7_lies 19 = .ok (.lreturn, 1) := by decide +kernel
theorem dX7_lies_20 : decode cX7_lies 20 = .ok (.aload_n 0, 1) := by decide +kernel
theorem dX7_lies_21 : decode cX7_lies 21 = .ok (.iload_n 1, 1) := by decide +kernel
theorem dX7_lies_22 : decode cX7_lies 22 = .ok (.iconst (-1), 1) := by decide +kernel
theorem dX7_lies_23 : decode cX7_lies 23 = .ok (.invokevirtual 208, 3) := by decide +kernel
theorem dX7_lies_26 : decode cX7_lies 26 = .ok (.aload_n 0, 1) := by decide +kernel
theorem dX7_lies_27 : decode cX7_lies 27 = .ok (.getfield 186, 3) := by decide +kernel
theorem dX7_lies_30 : decode cX7_lies 30 = .ok (.lreturn, 1) := by decide +kernel
set_option maxRecDepth 20000 in
theorem ggX7_fell_X7_isTree : GoodIn wsX7_fell wsX7_isTree := goodIn_r _ [7, 1, 8, 9, 6, 10, 72, 73, 74, 75, 76, 77, 78, 79, 80, 81, 82, 83, 84, 85, 86, 87, 88, 89, 90, 91, 92, 93, 94, 95, 96, 97, 98, 99, 100, 101, 102] (by decide +kernel) (by decide +kernel)
set_option maxRecDepth 20000 in
theorem gX7_fell_X7_isTree : GoodIn wsX7_fell (wsV RX7 138 RX7 yX7_isTree wsX7_isTree) := goodIn_app (goodIn_of _ (by decide +kernel)) ggX7_fell_X7_isTree
set_option maxRecDepth 20000 in
theorem ggX7_fell_X7_isStanding : GoodIn wsX7_fell wsX7_isStanding := goodIn_r _ [14, 1, 72, 73, 74, 75, 76, 77, 78, 79, 80, 81, 82, 83, 84, 85, 86, 87, 88, 89, 90, 91, 92, 93, 94, 95, 96, 97, 98, 99, 100, 101, 102] (by decide +kernel) (by decide +kernel)
set_option maxRecDepth 20000 in
theorem gX7_fell_X7_isStanding : GoodIn wsX7_fell (wsV RX7 183 RX7 yX7_isStanding wsX7_isStanding) := goodIn_app (goodIn_of _ (by decide +kernel)) ggX7_fell_X7_isStanding
set_option maxRecDepth 20000 in
theorem ggX7_fell_X7_goesNow : GoodIn wsX7_fell wsX7_goesNow := goodIn_r _ [18, 19, 20, 21, 6, 22, 1, 23, 24, 25, 26, 27, 28, 29, 2, 30, 31, 32, 33, 34, 35, 36, 37, 38, 39, 40, 41, 42, 43, 44, 45, 46, 47, 48, 49, 50, 51, 52, 53, 54, 55, 56, 57, 58, 59, 60, 61, 62, 63, 64, 65, 66, 67, 8, 9, 10, 68, 69, 70, 71, 11, 12, 13, 14, 72, 73, 74, 75, 76, 77, 78, 79, 80, 81, 82, 83, 84, 85, 86, 87, 88, 89, 90, 91, 92, 93, 94, 95, 96, 97, 98, 99, 100, 101, 102] (by decide +kernel) (by decide +kernel)
set_option maxRecDepth 20000 in
theorem gX7_fell_X7_goesNow : GoodIn wsX7_fell (wsV RX7 208 RX7 yX7_goesNow wsX7_goesNow) := goodIn_app (goodIn_of _ (by decide +kernel)) ggX7_fell_X7_goesNow
theorem dX7_fell_0 : decode cX7_fell 0 = .ok (.aload_n 0, 1) := by decide +kernel
theorem dX7_fell_1 : decode cX7_fell 1 = .ok (.iload_n 1, 1) := by decide +kernel
theorem dX7_fell_2 : decode cX7_fell 2 = .ok (.invokevirtual 138, 3) := by decide +kernel
theorem dX7_fell_5 : decode cX7_fell 5 = .ok (.ifCond .ne 5, 3) := by decide +kernel
theorem dX7_fell_8 : decode cX7_fell 8 = .ok (.iconst (-1), 1) := by decide +kernel
theorem dX7_fell_9 : decode cX7_fell 9 = .ok (.ireturn, 1) := by decide +kernel
theorem dX7_fell_10 : decode cX7_fell 10 = .ok (.aload_n 0, 1) := by decide +kernel
theorem dX7_fell_11 : decode cX7_fell 11 = .ok (.iload_n 1, 1) := by decide +kernel
theorem dX7_fell_12 : decode cX7_fell 12 = .ok (.invokevirtual 183, 3) := by decide +kernel
theorem dX7_fell_15 : decode cX7_fell 15 = .ok (.ifCond .ne 6, 3) := by decide +kernel
theorem dX7_fell_18 : decode cX7_fell 18 = .ok (.bipush (-3), 2) := by decide +kernel
theorem dX7_fell_20 : decode cX7_fell 20 = .ok (.ireturn, 1) := by decide +kernel
theorem dX7_fell_21 : decode cX7_fell 21 = .ok (.aload_n 0, 1) := by decide +kernel
theorem dX7_fell_22 : decode cX7_fell 22 = .ok (.iload_n 1, 1) := by decide +kernel
theorem dX7_fell_23 : decode cX7_fell 23 = .ok (.iconst (-1), 1) := by decide +kernel
theorem dX7_fell_24 : decode cX7_fell 24 = .ok (.invokevirtual 208, 3) := by decide +kernel
theorem dX7_fell_27 : decode cX7_fell 27 = .ok (.aload_n 0, 1) := by decide +kernel
theorem dX7_fell_28 : decode cX7_fell 28 = .ok (.getfield 9, 3) := by decide +kernel
theorem dX7_fell_31 : decode cX7_fell 31 = .ok (.sipush 152, 3) := by decide +kernel
theorem dX7_fell_34 : decode cX7_fell 34 = .ok (.iload_n 1, 1) := by decide +kernel
theorem dX7_fell_35 : decode cX7_fell 35 = .ok (.iadd, 1) := by decide +kernel
theorem dX7_fell_36 : decode cX7_fell 36 = .ok (.aload_n 0, 1) := by decide +kernel
theorem dX7_fell_37 : decode cX7_fell 37 = .ok (.getfield 177, 3) := by decide +kernel
theorem dX7_fell_40 : decode cX7_fell 40 = .ok (.iconst 2, 1) := by decide +kernel
theorem dX7_fell_41 : decode cX7_fell 41 = .ok (.if_icmp .ne 7, 3) := by decide +kernel
theorem dX7_fell_44 : decode cX7_fell 44 = .ok (.iconst 1, 1) := by decide +kernel
theorem dX7_fell_45 : decode cX7_fell 45 = .ok (.goto 4, 3) := by decide +kernel
theorem dX7_fell_48 : decode cX7_fell 48 = .ok (.iconst 0, 1) := by decide +kernel
theorem dX7_fell_49 : decode cX7_fell 49 = .ok (.iastore, 1) := by decide +kernel
theorem dX7_fell_50 : decode cX7_fell 50 = .ok (.aload_n 0, 1) := by decide +kernel
theorem dX7_fell_51 : decode cX7_fell 51 = .ok (.getfield 177, 3) := by decide +kernel
theorem dX7_fell_54 : decode cX7_fell 54 = .ok (.ireturn, 1) := by decide +kernel
theorem dX7_keepsPlans_0 : decode cX7_keepsPlans 0 = .ok (.iconst 0, 1) := by decide +kernel
theorem dX7_keepsPlans_1 : decode cX7_keepsPlans 1 = .ok (.istore_n 1, 1) := by decide +kernel
theorem dX7_keepsPlans_2 : decode cX7_keepsPlans 2 = .ok (.iload_n 1, 1) := by decide +kernel
theorem dX7_keepsPlans_3 : decode cX7_keepsPlans 3 = .ok (.bipush 36, 2) := by decide +kernel
theorem dX7_keepsPlans_5 : decode cX7_keepsPlans 5 = .ok (.if_icmp .ge 25, 3) := by decide +kernel
theorem dX7_keepsPlans_8 : decode cX7_keepsPlans 8 = .ok (.aload_n 0, 1) := by decide +kernel
theorem dX7_keepsPlans_9 : decode cX7_keepsPlans 9 = .ok (.getfield 25, 3) := by decide +kernel
theorem dX7_keepsPlans_12 : decode cX7_keepsPlans 12 = .ok (.iload_n 1, 1) := by decide +kernel
theorem dX7_keepsPlans_13 : decode cX7_keepsPlans 13 = .ok (.aload_n 0, 1) := by decide +kernel
theorem dX7_keepsPlans_14 : decode cX7_keepsPlans 14 = .ok (.getfield 9, 3) := by decide +kernel
theorem dX7_keepsPlans_17 : decode cX7_keepsPlans 17 = .ok (.sipush 158, 3) := by decide +kernel
theorem dX7_keepsPlans_20 : decode cX7_keepsPlans 20 = .ok (.iload_n 1, 1) := by decide +kernel
theorem dX7_keepsPlans_21 : decode cX7_keepsPlans 21 = .ok (.iadd, 1) := by decide +kernel
theorem dX7_keepsPlans_22 : decode cX7_keepsPlans 22 = .ok (.iaload, 1) := by decide +kernel
theorem dX7_keepsPlans_23 : decode cX7_keepsPlans 23 = .ok (.iastore, 1) := by decide +kernel
theorem dX7_keepsPlans_24 : decode cX7_keepsPlans 24 = .ok (.iinc 1 1, 3) := by decide +kernel
theorem dX7_keepsPlans_27 : decode cX7_keepsPlans 27 = .ok (.goto (-25), 3) := by decide +kernel
theorem dX7_keepsPlans_30 : decode cX7_keepsPlans 30 = .ok (.return_, 1) := by decide +kernel
theorem dX7_putsPlansBack_0 : decode cX7_putsPlansBack 0 = .ok (.iconst 0, 1) := by decide +kernel
theorem dX7_putsPlansBack_1 : decode cX7_putsPlansBack 1 = .ok (.istore_n 1, 1) := by decide +kernel
theorem dX7_putsPlansBack_2 : decode cX7_putsPlansBack 2 = .ok (.iload_n 1, 1) := by decide +kernel
theorem dX7_putsPlansBack_3 : decode cX7_putsPlansBack 3 = .ok (.bipush 36, 2) := by decide +kernel
theorem dX7_putsPlansBack_5 : decode cX7_putsPlansBack 5 = .ok (.if_icmp .ge 25, 3) := by decide +kernel
theorem dX7_putsPlansBack_8 : decode cX7_putsPlansBack 8 = .ok (.aload_n 0, 1) := by decide +kernel
theorem dX7_putsPlansBack_9 : decode cX7_putsPlansBack 9 = .ok (.getfield 9, 3) := by decide +kernel
theorem dX7_putsPlansBack_12 : decode cX7_putsPlansBack 12 = .ok (.sipush 158, 3) := by decide +kernel
theorem dX7_putsPlansBack_15 : decode cX7_putsPlansBack 15 = .ok (.iload_n 1, 1) := by decide +kernel
theorem dX7_putsPlansBack_16 : decode cX7_putsPlansBack 16 = .ok (.iadd, 1) := by decide +kernel
theorem dX7_putsPlansBack_17 : decode cX7_putsPlansBack 17 = .ok (.aload_n 0, 1) := by decide +kernel
theorem dX7_putsPlansBack_18 : decode cX7_putsPlansBack 18 = .ok (.getfield 25, 3) := by decide +kernel
theorem dX7_putsPlansBack_21 : decode cX7_putsPlansBack 21 = .ok (.iload_n 1, 1) := by decide +kernel
theorem dX7_putsPlansBack_22 : decode cX7_putsPlansBack 22 = .ok (.iaload, 1) := by decide +kernel
theorem dX7_putsPlansBack_23 : decode cX7_putsPlansBack 23 = .ok (.iastore, 1) := by decide +kernel
theorem dX7_putsPlansBack_24 : decode cX7_putsPlansBack 24 = .ok (.iinc 1 1, 3) := by decide +kernel
theorem dX7_putsPlansBack_27 : decode cX7_putsPlansBack 27 = .ok (.goto (-25), 3) := by decide +kernel
theorem dX7_putsPlansBack_30 : decode cX7_putsPlansBack 30 = .ok (.return_, 1) := by decide +kernel
theorem dX7_plans_0 : decode cX7_plans 0 = .ok (.sipush 158, 3) := by decide +kernel
theorem dX7_plans_3 : decode cX7_plans 3 = .ok (.bipush 6, 2) := by decide +kernel
theorem dX7_plans_5 : decode cX7_plans 5 = .ok (.iload_n 1, 1) := by decide +kernel
theorem dX7_plans_6 : decode cX7_plans 6 = .ok (.imul, 1) := by decide +kernel
theorem dX7_plans_7 : decode cX7_plans 7 = .ok (.iadd, 1) := by decide +kernel
theorem dX7_plans_8 : decode cX7_plans 8 = .ok (.istore 6, 2) := by decide +kernel
theorem dX7_plans_10 : decode cX7_plans 10 = .ok (.aload_n 0, 1) := by decide +kernel
theorem dX7_plans_11 : decode cX7_plans 11 = .ok (.getfield 9, 3) := by decide +kernel
theorem dX7_plans_14 : decode cX7_plans 14 = .ok (.iload 6, 2) := by decide +kernel
theorem dX7_plans_16 : decode cX7_plans 16 = .ok (.iload_n 2, 1) := by decide +kernel
theorem dX7_plans_17 : decode cX7_plans 17 = .ok (.iastore, 1) := by decide +kernel
theorem dX7_plans_18 : decode cX7_plans 18 = .ok (.aload_n 0, 1) := by decide +kernel
theorem dX7_plans_19 : decode cX7_plans 19 = .ok (.getfield 9, 3) := by decide +kernel
theorem dX7_plans_22 : decode cX7_plans 22 = .ok (.iload 6, 2) := by decide +kernel
theorem dX7_plans_24 : decode cX7_plans 24 = .ok (.iconst 1, 1) := by decide +kernel
theorem dX7_plans_25 : decode cX7_plans 25 = .ok (.iadd, 1) := by decide +kernel
theorem dX7_plans_26 : decode cX7_plans 26 = .ok (.iload_n 3, 1) := by decide +kernel
theorem dX7_plans_27 : decode cX7_plans 27 = .ok (.iastore, 1) := by decide +kernel
theorem dX7_plans_28 : decode cX7_plans 28 = .ok (.aload_n 0, 1) := by decide +kernel
theorem dX7_plans_29 : decode cX7_plans 29 = .ok (.getfield 9, 3) := by decide +kernel
theorem dX7_plans_32 : decode cX7_plans 32 = .ok (.iload 6, 2) := by decide +kernel
theorem dX7_plans_34 : decode cX7_plans 34 = .ok (.iconst 2, 1) := by decide +kernel
theorem dX7_plans_35 : decode cX7_plans 35 = .ok (.iadd, 1) := by decide +kernel
theorem dX7_plans_36 : decode cX7_plans 36 = .ok (.iload 4, 2) := by decide +kernel
theorem dX7_plans_38 : decode cX7_plans 38 = .ok (.iastore, 1) := by decide +kernel
theorem dX7_plans_39 : decode cX7_plans 39 = .ok (.aload_n 0, 1) := by decide +kernel
theorem dX7_plans_40 : decode cX7_plans 40 = .ok (.getfield 9, 3) := by decide +kernel
theorem dX7_plans_43 : decode cX7_plans 43 = .ok (.iload 6, 2) := by decide +kernel
theorem dX7_plans_45 : decode cX7_plans 45 = .ok (.iconst 3, 1) := by decide +kernel
theorem dX7_plans_46 : decode cX7_plans 46 = .ok (.iadd, 1) := by decide +kernel
theorem dX7_plans_47 : decode cX7_plans 47 = .ok (.iload 5, 2) := by decide +kernel
theorem dX7_plans_49 : decode cX7_plans 49 = .ok (.iastore, 1) := by decide +kernel
theorem dX7_plans_50 : decode cX7_plans 50 = .ok (.aload_n 0, 1) := by decide +kernel
theorem dX7_plans_51 : decode cX7_plans 51 = .ok (.getfield 9, 3) := by decide +kernel
theorem dX7_plans_54 : decode cX7_plans 54 = .ok (.iload 6, 2) := by decide +kernel
theorem dX7_plans_56 : decode cX7_plans 56 = .ok (.iconst 4, 1) := by decide +kernel
theorem dX7_plans_57 : decode cX7_plans 57 = .ok (.iadd, 1) := by decide +kernel
theorem dX7_plans_58 : decode cX7_plans 58 = .ok (.iconst 0, 1) := by decide +kernel
theorem dX7_plans_59 : decode cX7_plans 59 = .ok (.iastore, 1) := by decide +kernel
theorem dX7_plans_60 : decode cX7_plans 60 = .ok (.aload_n 0, 1) := by decide +kernel
theorem dX7_plans_61 : decode cX7_plans 61 = .ok (.getfield 9, 3) := by decide +kernel
theorem dX7_plans_64 : decode cX7_plans 64 = .ok (.iload 6, 2) := by decide +kernel
theorem dX7_plans_66 : decode cX7_plans 66 = .ok (.iconst 5, 1) := by decide +kernel
theorem dX7_plans_67 : decode cX7_plans 67 = .ok (.iadd, 1) := by decide +kernel
theorem dX7_plans_68 : decode cX7_plans 68 = .ok (.iconst 0, 1) := by decide +kernel
theorem dX7_plans_69 : decode cX7_plans 69 = .ok (.iastore, 1) := by decide +kernel
theorem dX7_plans_70 : decode cX7_plans 70 = .ok (.return_, 1) := by decide +kernel
set_option maxRecDepth 20000 in
theorem ggX7_wide_X7_isTree : GoodIn wsX7_wide wsX7_isTree := goodIn_r _ [6, 7, 8, 9, 5, 10, 67, 68, 69, 70, 71, 72, 73, 74, 75, 76, 77, 78, 79, 80, 81, 82, 83, 84, 85, 86, 87, 88, 89, 90, 91, 92, 93, 94, 95, 96, 97] (by decide +kernel) (by decide +kernel)
set_option maxRecDepth 20000 in
theorem gX7_wide_X7_isTree : GoodIn wsX7_wide (wsV RX7 138 RX7 yX7_isTree wsX7_isTree) := goodIn_app (goodIn_of _ (by decide +kernel)) ggX7_wide_X7_isTree
set_option maxRecDepth 20000 in
theorem ggX7_wide_X7_in : GoodIn wsX7_wide wsX7_in := goodIn_r _ [10] (by decide +kernel) (by decide +kernel)
set_option maxRecDepth 20000 in
theorem gX7_wide_X7_in : GoodIn wsX7_wide (va_wsS RX7 41 yX7_in wsX7_in) := goodIn_app (goodIn_of _ (by decide +kernel)) ggX7_wide_X7_in
set_option maxRecDepth 20000 in
theorem ggX7_wide_X7_isStanding : GoodIn wsX7_wide wsX7_isStanding := goodIn_r _ [14, 7, 67, 68, 69, 70, 71, 72, 73, 74, 75, 76, 77, 78, 79, 80, 81, 82, 83, 84, 85, 86, 87, 88, 89, 90, 91, 92, 93, 94, 95, 96, 97] (by decide +kernel) (by decide +kernel)
set_option maxRecDepth 20000 in
theorem gX7_wide_X7_isStanding : GoodIn wsX7_wide (wsV RX7 183 RX7 yX7_isStanding wsX7_isStanding) := goodIn_app (goodIn_of _ (by decide +kernel)) ggX7_wide_X7_isStanding
set_option maxRecDepth 20000 in
theorem ggX7_wide_X7_keepsPlans : GoodIn wsX7_wide wsX7_keepsPlans := goodIn_r _ [18, 19, 7, 67, 68, 69, 70, 71, 72, 73, 74, 75, 76, 77, 78, 79, 80, 81, 82, 83, 84, 85, 86, 87, 88, 89, 90, 91, 92, 93, 94, 95, 96, 97] (by decide +kernel) (by decide +kernel)
set_option maxRecDepth 20000 in
theorem gX7_wide_X7_keepsPlans : GoodIn wsX7_wide (wsV RX7 213 RX7 yX7_keepsPlans wsX7_keepsPlans) := goodIn_app (goodIn_of _ (by decide +kernel)) ggX7_wide_X7_keepsPlans
set_option maxRecDepth 20000 in
theorem ggX7_wide_X7_plans : GoodIn wsX7_wide wsX7_plans := goodIn_r _ [23, 7, 67, 68, 69, 70, 71, 72, 73, 74, 75, 76, 77, 78, 79, 80, 81, 82, 83, 84, 85, 86, 87, 88, 89, 90, 91, 92, 93, 94, 95, 96, 97] (by decide +kernel) (by decide +kernel)
set_option maxRecDepth 20000 in
theorem gX7_wide_X7_plans : GoodIn wsX7_wide (wsV RX7 216 RX7 yX7_plans wsX7_plans) := goodIn_app (goodIn_of _ (by decide +kernel)) ggX7_wide_X7_plans
set_option maxRecDepth 20000 in
theorem ggX7_wide_X7_goesIn : GoodIn wsX7_wide wsX7_goesIn := goodIn_r _ [27, 7, 28, 29, 30, 31, 32, 33, 34, 35, 1, 36, 37, 5, 38, 39, 40, 41, 42, 43, 44, 45, 46, 47, 48, 49, 50, 51, 52, 53, 54, 55, 56, 57, 58, 59, 60, 61, 62, 67, 68, 69, 70, 71, 72, 73, 74, 75, 76, 77, 78, 79, 80, 81, 82, 83, 84, 85, 86, 87, 88, 89, 90, 91, 92, 93, 94, 95, 96, 97] (by decide +kernel) (by decide +kernel)
set_option maxRecDepth 20000 in
theorem gX7_wide_X7_goesIn : GoodIn wsX7_wide (wsV RX7 202 RX7 yX7_goesIn wsX7_goesIn) := goodIn_app (goodIn_of _ (by decide +kernel)) ggX7_wide_X7_goesIn
set_option maxRecDepth 20000 in
theorem ggX7_wide_X7_putsPlansBack : GoodIn wsX7_wide wsX7_putsPlansBack := goodIn_r _ [66, 7, 19, 67, 68, 69, 70, 71, 72, 73, 74, 75, 76, 77, 78, 79, 80, 81, 82, 83, 84, 85, 86, 87, 88, 89, 90, 91, 92, 93, 94, 95, 96, 97] (by decide +kernel) (by decide +kernel)
set_option maxRecDepth 20000 in
theorem gX7_wide_X7_putsPlansBack : GoodIn wsX7_wide (wsV RX7 220 RX7 yX7_putsPlansBack wsX7_putsPlansBack) := goodIn_app (goodIn_of _ (by decide +kernel)) ggX7_wide_X7_putsPlansBack
theorem dX7_wide_0 : decode cX7_wide 0 = .ok (.aload_n 0, 1) := by decide +kernel
theorem dX7_wide_1 : decode cX7_wide 1 = .ok (.iload_n 1, 1) := by decide +kernel
theorem dX7_wide_2 : decode cX7_wide 2 = .ok (.invokevirtual 138, 3) := by decide +kernel
theorem dX7_wide_5 : decode cX7_wide 5 = .ok (.ifCond .ne 5, 3) := by decide +kernel
theorem dX7_wide_8 : decode cX7_wide 8 = .ok (.iconst (-1), 1) := by decide +kernel
theorem dX7_wide_9 : decode cX7_wide 9 = .ok (.ireturn, 1) := by decide +kernel
theorem dX7_wide_10 : decode cX7_wide 10 = .ok (.iload_n 2, 1) := by decide +kernel
theorem dX7_wide_11 : decode cX7_wide 11 = .ok (.iconst 0, 1) := by decide +kernel
theorem dX7_wide_12 : decode cX7_wide 12 = .ok (.bipush 9, 2) := by decide +kernel
theorem dX7_wide_14 : decode cX7_wide 14 = .ok (.invokestatic 41, 3) := by decide +kernel
theorem dX7_wide_17 : decode cX7_wide 17 = .ok (.ifCond .ne 6, 3) := by decide +kernel
theorem dX7_wide_20 : decode cX7_wide 20 = .ok (.bipush (-2), 2) := by decide +kernel
theorem dX7_wide_22 : decode cX7_wide 22 = .ok (.ireturn, 1) := by decide +kernel
theorem dX7_wide_23 : decode cX7_wide 23 = .ok (.aload_n 0, 1) := by decide +kernel
theorem dX7_wide_24 : decode cX7_wide 24 = .ok (.iload_n 1, 1) := by decide +kernel
theorem dX7_wide_25 : decode cX7_wide 25 = .ok (.invokevirtual 183, 3) := by decide +kernel
theorem dX7_wide_28 : decode cX7_wide 28 = .ok (.ifCond .ne 6, 3) := by decide +kernel
theorem dX7_wide_31 : decode cX7_wide 31 = .ok (.bipush (-3), 2) := by decide +kernel
theorem dX7_wide_33 : decode cX7_wide 33 = .ok (.ireturn, 1) := by decide +kernel
theorem dX7_wide_34 : decode cX7_wide 34 = .ok (.aload_n 0, 1) := by decide +kernel
theorem dX7_wide_35 : decode cX7_wide 35 = .ok (.invokevirtual 213, 3) := by decide +kernel
theorem dX7_wide_38 : decode cX7_wide 38 = .ok (.iconst 0, 1) := by decide +kernel
theorem dX7_wide_39 : decode cX7_wide 39 = .ok (.istore_n 3, 1) := by decide +kernel
theorem dX7_wide_40 : decode cX7_wide 40 = .ok (.iconst 0, 1) := by decide +kernel
theorem dX7_wide_41 : decode cX7_wide 41 = .ok (.istore 4, 2) := by decide +kernel
theorem dX7_wide_43 : decode cX7_wide 43 = .ok (.iload 4, 2) := by decide +kernel
theorem dX7_wide_45 : decode cX7_wide 45 = .ok (.sipush 800, 3) := by decide +kernel
theorem dX7_wide_48 : decode cX7_wide 48 = .ok (.iload_n 2, 1) := by decide +kernel
theorem dX7_wide_49 : decode cX7_wide 49 = .ok (.iconst 1, 1) := by decide +kernel
theorem dX7_wide_50 : decode cX7_wide 50 = .ok (.iadd, 1) := by decide +kernel
theorem dX7_wide_51 : decode cX7_wide 51 = .ok (.imul, 1) := by decide +kernel
theorem dX7_wide_52 : decode cX7_wide 52 = .ok (.if_icmp .ge 69, 3) := by decide +kernel
theorem dX7_wide_55 : decode cX7_wide 55 = .ok (.aload_n 0, 1) := by decide +kernel
theorem dX7_wide_56 : decode cX7_wide 56 = .ok (.iload_n 1, 1) := by decide +kernel
theorem dX7_wide_57 : decode cX7_wide 57 = .ok (.iload 4, 2) := by decide +kernel
theorem dX7_wide_59 : decode cX7_wide 59 = .ok (.bipush 100, 2) := by decide +kernel
theorem dX7_wide_61 : decode cX7_wide 61 = .ok (.idiv, 1) := by decide +kernel
theorem dX7_wide_62 : decode cX7_wide 62 = .ok (.bipush 8, 2) := by decide +kernel
theorem dX7_wide_64 : decode cX7_wide 64 = .ok (.irem, 1) := by decide +kernel
theorem dX7_wide_65 : decode cX7_wide 65 = .ok (.iload 4, 2) := by decide +kernel
theorem dX7_wide_67 : decode cX7_wide 67 = .ok (.bipush 10, 2) := by decide +kernel
theorem dX7_wide_69 : decode cX7_wide 69 = .ok (.idiv, 1) := by decide +kernel
theorem dX7_wide_70 : decode cX7_wide 70 = .ok (.bipush 10, 2) := by decide +kernel
theorem dX7_wide_72 : decode cX7_wide 72 = .ok (.irem, 1) := by decide +kernel
theorem dX7_wide_73 : decode cX7_wide 73 = .ok (.iload 4, 2) := by decide +kernel
theorem dX7_wide_75 : decode cX7_wide 75 = .ok (.bipush 10, 2) := by decide +kernel
theorem dX7_wide_77 : decode cX7_wide 77 = .ok (.irem, 1) := by decide +kernel
theorem dX7_wide_78 : decode cX7_wide 78 = .ok (.iload 4, 2) := by decide +kernel
theorem dX7_wide_80 : decode cX7_wide 80 = .ok (.sipush 800, 3) := by decide +kernel
theorem dX7_wide_83 : decode cX7_wide 83 = .ok (.idiv, 1) := by decide +kernel
theorem dX7_wide_84 : decode cX7_wide 84 = .ok (.invokevirtual 216, 3) := by decide +kernel
theorem dX7_wide_87 : decode cX7_wide 87 = .ok (.aload_n 0, 1) := by decide +kernel
theorem dX7_wide_88 : decode cX7_wide 88 = .ok (.iload_n 1, 1) := by decide +kernel
theorem dX7_wide_89 : decode cX7_wide 89 = .ok (.iconst (-1), 1) := by decide +kernel
theorem dX7_wide_90 : decode cX7_wide 90 = .ok (.invokevirtual 202, 3) := by decide +kernel
theorem dX7_wide_93 : decode cX7_wide 93 = .ok (.iload_n 3, 1) := by decide +kernel
theorem dX7_wide_94 : decode cX7_wide 94 = .ok (.aload_n 0, 1) := by decide +kernel
theorem dX7_wide_95 : decode cX7_wide 95 = .ok (.getfield 180, 3) := by decide +kernel
theorem dX7_wide_98 : decode cX7_wide 98 = .ok (.bipush (-5), 2) := by decide +kernel
theorem dX7_wide_100 : decode cX7_wide 100 = .ok (.if_icmp .ne 7, 3) := by decide +kernel
theorem dX7_wide_103 : decode cX7_wide 103 = .ok (.iconst 0, 1) := by decide +kernel
theorem dX7_wide_104 : decode cX7_wide 104 = .ok (.goto 9, 3) := by decide +kernel
theorem dX7_wide_107 : decode cX7_wide 107 = .ok (.iconst 1, 1) := by decide +kernel
theorem dX7_wide_108 : decode cX7_wide 108 = .ok (.aload_n 0, 1) := by decide +kernel
theorem dX7_wide_109 : decode cX7_wide 109 = .ok (.getfield 180, 3) := by decide +kernel
theorem dX7_wide_112 : decode cX7_wide 112 = .ok (.ishl, 1) := by decide +kernel
theorem dX7_wide_113 : decode cX7_wide 113 = .ok (.ior, 1) := by decide +kernel
theorem dX7_wide_114 : decode cX7_wide 114 = .ok (.istore_n 3, 1) := by decide +kernel
theorem dX7_wide_115 : decode cX7_wide 115 = .ok (.iinc 4 1, 3) := by decide +kernel
theorem dX7_wide_118 : decode cX7_wide 118 = .ok (.goto (-75), 3) := by decide +kernel
theorem dX7_wide_121 : decode cX7_wide 121 = .ok (.aload_n 0, 1) := by decide +kernel
theorem dX7_wide_122 : decode cX7_wide 122 = .ok (.invokevirtual 220, 3) := by decide +kernel
theorem dX7_wide_125 : decode cX7_wide 125 = .ok (.iload_n 3, 1) := by decide +kernel
theorem dX7_wide_126 : decode cX7_wide 126 = .ok (.ireturn, 1) := by decide +kernel
set_option maxRecDepth 20000 in
theorem ggX7_least_X7_isTree : GoodIn wsX7_least wsX7_isTree := goodIn_r _ [6, 7, 8, 9, 5, 10, 70, 71, 72, 73, 74, 75, 76, 77, 78, 79, 80, 81, 82, 83, 84, 85, 86, 87, 88, 89, 90, 91, 92, 93, 94, 95, 96, 97, 98, 99, 100] (by decide +kernel) (by decide +kernel)
set_option maxRecDepth 20000 in
theorem gX7_least_X7_isTree : GoodIn wsX7_least (wsV RX7 138 RX7 yX7_isTree wsX7_isTree) := goodIn_app (goodIn_of _ (by decide +kernel)) ggX7_least_X7_isTree
set_option maxRecDepth 20000 in
theorem ggX7_least_X7_isWay : GoodIn wsX7_least wsX7_isWay := goodIn_r _ [13, 8, 9, 5, 10] (by decide +kernel) (by decide +kernel)
set_option maxRecDepth 20000 in
theorem gX7_least_X7_isWay : GoodIn wsX7_least (va_wsS RX7 142 yX7_isWay wsX7_isWay) := goodIn_app (goodIn_of _ (by decide +kernel)) ggX7_least_X7_isWay
set_option maxRecDepth 20000 in
theorem ggX7_least_X7_isStanding : GoodIn wsX7_least wsX7_isStanding := goodIn_r _ [17, 7, 70, 71, 72, 73, 74, 75, 76, 77, 78, 79, 80, 81, 82, 83, 84, 85, 86, 87, 88, 89, 90, 91, 92, 93, 94, 95, 96, 97, 98, 99, 100] (by decide +kernel) (by decide +kernel)
set_option maxRecDepth 20000 in
theorem gX7_least_X7_isStanding : GoodIn wsX7_least (wsV RX7 183 RX7 yX7_isStanding wsX7_isStanding) := goodIn_app (goodIn_of _ (by decide +kernel)) ggX7_least_X7_isStanding
set_option maxRecDepth 20000 in
theorem ggX7_least_X7_keepsPlans : GoodIn wsX7_least wsX7_keepsPlans := goodIn_r _ [21, 22, 7, 70, 71, 72, 73, 74, 75, 76, 77, 78, 79, 80, 81, 82, 83, 84, 85, 86, 87, 88, 89, 90, 91, 92, 93, 94, 95, 96, 97, 98, 99, 100] (by decide +kernel) (by decide +kernel)
set_option maxRecDepth 20000 in
theorem gX7_least_X7_keepsPlans : GoodIn wsX7_least (wsV RX7 213 RX7 yX7_keepsPlans wsX7_keepsPlans) := goodIn_app (goodIn_of _ (by decide +kernel)) ggX7_least_X7_keepsPlans
set_option maxRecDepth 20000 in
theorem ggX7_least_X7_plans : GoodIn wsX7_least wsX7_plans := goodIn_r _ [26, 7, 70, 71, 72, 73, 74, 75, 76, 77, 78, 79, 80, 81, 82, 83, 84, 85, 86, 87, 88, 89, 90, 91, 92, 93, 94, 95, 96, 97, 98, 99, 100] (by decide +kernel) (by decide +kernel)
set_option maxRecDepth 20000 in
theorem gX7_least_X7_plans : GoodIn wsX7_least (wsV RX7 216 RX7 yX7_plans wsX7_plans) := goodIn_app (goodIn_of _ (by decide +kernel)) ggX7_least_X7_plans
set_option maxRecDepth 20000 in
theorem ggX7_least_X7_goesIn : GoodIn wsX7_least wsX7_goesIn := goodIn_r _ [30, 7, 31, 32, 33, 34, 35, 36, 37, 1, 38, 39, 40, 5, 41, 42, 43, 44, 45, 46, 47, 48, 49, 50, 51, 52, 53, 54, 55, 56, 57, 58, 59, 60, 61, 62, 63, 64, 65, 70, 71, 72, 73, 74, 75, 76, 77, 78, 79, 80, 81, 82, 83, 84, 85, 86, 87, 88, 89, 90, 91, 92, 93, 94, 95, 96, 97, 98, 99, 100] (by decide +kernel) (by decide +kernel)
set_option maxRecDepth 20000 in
theorem gX7_least_X7_goesIn : GoodIn wsX7_least (wsV RX7 202 RX7 yX7_goesIn wsX7_goesIn) := goodIn_app (goodIn_of _ (by decide +kernel)) ggX7_least_X7_goesIn
set_option maxRecDepth 20000 in
theorem ggX7_least_X7_putsPlansBack : GoodIn wsX7_least wsX7_putsPlansBack := goodIn_r _ [69, 7, 22, 70, 71, 72, 73, 74, 75, 76, 77, 78, 79, 80, 81, 82, 83, 84, 85, 86, 87, 88, 89, 90, 91, 92, 93, 94, 95, 96, 97, 98, 99, 100] (by decide +kernel) (by decide +kernel)
set_option maxRecDepth 20000 in
theorem gX7_least_X7_putsPlansBack : GoodIn wsX7_least (wsV RX7 220 RX7 yX7_putsPlansBack wsX7_putsPlansBack) := goodIn_app (goodIn_of _ (by decide +kernel)) ggX7_least_X7_putsPlansBack
theorem dX7_least_0 : decode cX7_least 0 = .ok (.aload_n 0, 1) := by decide +kernel
theorem dX7_least_1 : decode cX7_least 1 = .ok (.iload_n 1, 1) := by decide +kernel
theorem dX7_least_2 : decode cX7_least 2 = .ok (.invokevirtual 138, 3) := by decide +kernel
theorem dX7_least_5 : decode cX7_least 5 = .ok (.ifCond .eq 10, 3) := by decide +kernel
theorem dX7_least_8 : decode cX7_least 8 = .ok (.iload_n 2, 1) := by decide +kernel
theorem dX7_least_9 : decode cX7_least 9 = .ok (.invokestatic 142, 3) := by decide +kernel
theorem dX7_least_12 : decode cX7_least 12 = .ok (.ifCond .ne 5, 3) := by decide +kernel
theorem dX7_least_15 : decode cX7_least 15 = .ok (.iconst (-1), 1) := by decide +kernel
theorem dX7_least_16 : decode cX7_least 16 = .ok (.ireturn, 1) := by decide +kernel
theorem dX7_least_17 : decode cX7_least 17 = .ok (.aload_n 0, 1) := by decide +kernel
theorem dX7_least_18 : decode cX7_least 18 = .ok (.iload_n 1, 1) := by decide +kernel
theorem dX7_least_19 : decode cX7_least 19 = .ok (.invokevirtual 183, 3) := by decide +kernel
theorem dX7_least_22 : decode cX7_least 22 = .ok (.ifCond .ne 6, 3) := by decide +kernel
theorem dX7_least_25 : decode cX7_least 25 = .ok (.bipush (-3), 2) := by decide +kernel
theorem dX7_least_27 : decode cX7_least 27 = .ok (.ireturn, 1) := by decide +kernel
theorem dX7_least_28 : decode cX7_least 28 = .ok (.aload_n 0, 1) := by decide +kernel
theorem dX7_least_29 : decode cX7_least 29 = .ok (.invokevirtual 213, 3) := by decide +kernel
theorem dX7_least_32 : decode cX7_least 32 = .ok (.bipush (-5), 2) := by decide +kernel
theorem dX7_least_34 : decode cX7_least 34 = .ok (.istore_n 3, 1) := by decide +kernel
theorem dX7_least_35 : decode cX7_least 35 = .ok (.iconst 0, 1) := by decide +kernel
theorem dX7_least_36 : decode cX7_least 36 = .ok (.istore 4, 2) := by decide +kernel
theorem dX7_least_38 : decode cX7_least 38 = .ok (.iload 4, 2) := by decide +kernel
theorem dX7_least_40 : decode cX7_least 40 = .ok (.sipush 1000, 3) := by decide +kernel
theorem dX7_least_43 : decode cX7_least 43 = .ok (.if_icmp .ge 59, 3) := by decide +kernel
theorem dX7_least_46 : decode cX7_least 46 = .ok (.iload_n 3, 1) := by decide +kernel
theorem dX7_least_47 : decode cX7_least 47 = .ok (.bipush (-5), 2) := by decide +kernel
theorem dX7_least_49 : decode cX7_least 49 = .ok (.if_icmp .ne 53, 3) := by decide +kernel
theorem dX7_least_52 : decode cX7_least 52 = .ok (.aload_n 0, 1) := by decide +kernel
theorem dX7_least_53 : decode cX7_least 53 = .ok (.iload_n 1, 1) := by decide +kernel
theorem dX7_least_54 : decode cX7_least 54 = .ok (.iload_n 2, 1) := by decide +kernel
theorem dX7_least_55 : decode cX7_least 55 = .ok (.iload 4, 2) := by decide +kernel
theorem dX7_least_57 : decode cX7_least 57 = .ok (.bipush 10, 2) := by decide +kernel
theorem dX7_least_59 : decode cX7_least 59 = .ok (.idiv, 1) := by decide +kernel
theorem dX7_least_60 : decode cX7_least 60 = .ok (.bipush 10, 2) := by decide +kernel
theorem dX7_least_62 : decode cX7_least 62 = .ok (.irem, 1) := by decide +kernel
theorem dX7_least_63 : decode cX7_least 63 = .ok (.iload 4, 2) := by decide +kernel
theorem dX7_least_65 : decode cX7_least 65 = .ok (.bipush 10, 2) := by decide +kernel
theorem dX7_least_67 : decode cX7_least 67 = .ok (.irem, 1) := by decide +kernel
theorem dX7_least_68 : decode cX7_least 68 = .ok (.iload 4, 2) := by decide +kernel
theorem dX7_least_70 : decode cX7_least 70 = .ok (.bipush 100, 2) := by decide +kernel
theorem dX7_least_72 : decode cX7_least 72 = .ok (.idiv, 1) := by decide +kernel
theorem dX7_least_73 : decode cX7_least 73 = .ok (.invokevirtual 216, 3) := by decide +kernel
theorem dX7_least_76 : decode cX7_least 76 = .ok (.aload_n 0, 1) := by decide +kernel
theorem dX7_least_77 : decode cX7_least 77 = .ok (.iload_n 1, 1) := by decide +kernel
theorem dX7_least_78 : decode cX7_least 78 = .ok (.iconst (-1), 1) := by decide +kernel
theorem dX7_least_79 : decode cX7_least 79 = .ok (.invokevirtual 202, 3) := by decide +kernel
theorem dX7_least_82 : decode cX7_least 82 = .ok (.aload_n 0, 1) := by decide +kernel
theorem dX7_least_83 : decode cX7_least 83 = .ok (.getfield 177, 3) := by decide +kernel
theorem dX7_least_86 : decode cX7_least 86 = .ok (.ifCond .ne 8, 3) := by decide +kernel
theorem dX7_least_89 : decode cX7_least 89 = .ok (.iload 4, 2) := by decide +kernel
theorem dX7_least_91 : decode cX7_least 91 = .ok (.goto 4, 3) := by decide +kernel
theorem dX7_least_94 : decode cX7_least 94 = .ok (.iload_n 3, 1) := by decide +kernel
theorem dX7_least_95 : decode cX7_least 95 = .ok (.istore_n 3, 1) := by decide +kernel
theorem dX7_least_96 : decode cX7_least 96 = .ok (.iinc 4 1, 3) := by decide +kernel
theorem dX7_least_99 : decode cX7_least 99 = .ok (.goto (-61), 3) := by decide +kernel
theorem dX7_least_102 : decode cX7_least 102 = .ok (.aload_n 0, 1) := by decide +kernel
theorem dX7_least_103 : decode cX7_least 103 = .ok (.invokevirtual 220, 3) := by decide +kernel
theorem dX7_least_106 : decode cX7_least 106 = .ok (.iload_n 3, 1) := by decide +kernel
theorem dX7_least_107 : decode cX7_least 107 = .ok (.ireturn, 1) := by decide +kernel
set_option maxRecDepth 20000 in
theorem ggX7_gusts_X7_in : GoodIn wsX7_gusts wsX7_in := goodIn_r _ [5] (by decide +kernel) (by decide +kernel)
set_option maxRecDepth 20000 in
theorem gX7_gusts_X7_in : GoodIn wsX7_gusts (va_wsS RX7 41 yX7_in wsX7_in) := goodIn_app (goodIn_of _ (by decide +kernel)) ggX7_gusts_X7_in
theorem dX7_gusts_0 : decode cX7_gusts 0 = .ok (.iload_n 1, 1) := by decide +kernel
theorem dX7_gusts_1 : decode cX7_gusts 1 = .ok (.iconst 0, 1) := by decide +kernel
theorem dX7_gusts_2 : decode cX7_gusts 2 = .ok (.bipush 10, 2) := by decide +kernel
theorem dX7_gusts_4 : decode cX7_gusts 4 = .ok (.invokestatic 41, 3) := by decide +kernel
theorem dX7_gusts_7 : decode cX7_gusts 7 = .ok (.ifCond .ne 6, 3) := by decide +kernel
theorem dX7_gusts_10 : decode cX7_gusts 10 = .ok (.bipush (-2), 2) := by decide +kernel
theorem dX7_gusts_12 : decode cX7_gusts 12 = .ok (.ireturn, 1) := by decide +kernel
theorem dX7_gusts_13 : decode cX7_gusts 13 = .ok (.aload_n 0, 1) := by decide +kernel
theorem dX7_gusts_14 : decode cX7_gusts 14 = .ok (.getfield 9, 3) := by decide +kernel
theorem dX7_gusts_17 : decode cX7_gusts 17 = .ok (.iconst 5, 1) := by decide +kernel
theorem dX7_gusts_18 : decode cX7_gusts 18 = .ok (.iaload, 1) := by decide +kernel
theorem dX7_gusts_19 : decode cX7_gusts 19 = .ok (.istore_n 2, 1) := by decide +kernel
theorem dX7_gusts_20 : decode cX7_gusts 20 = .ok (.aload_n 0, 1) := by decide +kernel
theorem dX7_gusts_21 : decode cX7_gusts 21 = .ok (.getfield 9, 3) := by decide +kernel
theorem dX7_gusts_24 : decode cX7_gusts 24 = .ok (.iconst 5, 1) := by decide +kernel
theorem dX7_gusts_25 : decode cX7_gusts 25 = .ok (.iload_n 1, 1) := by decide +kernel
theorem dX7_gusts_26 : decode cX7_gusts 26 = .ok (.iastore, 1) := by decide +kernel
theorem dX7_gusts_27 : decode cX7_gusts 27 = .ok (.iload_n 2, 1) := by decide +kernel
theorem dX7_gusts_28 : decode cX7_gusts 28 = .ok (.ireturn, 1) := by decide +kernel
theorem dX7_divisor_0 : decode cX7_divisor 0 = .ok (.iload_n 0, 1) := by decide +kernel
theorem dX7_divisor_1 : decode cX7_divisor 1 = .ok (.istore_n 2, 1) := by decide +kernel
theorem dX7_divisor_2 : decode cX7_divisor 2 = .ok (.iload_n 1, 1) := by decide +kernel
theorem dX7_divisor_3 : decode cX7_divisor 3 = .ok (.istore_n 3, 1) := by decide +kernel
theorem dX7_divisor_4 : decode cX7_divisor 4 = .ok (.iload_n 3, 1) := by decide +kernel
theorem dX7_divisor_5 : decode cX7_divisor 5 = .ok (.ifCond .eq 16, 3) := by decide +kernel
theorem dX7_divisor_8 : decode cX7_divisor 8 = .ok (.iload_n 2, 1) := by decide +kernel
theorem dX7_divisor_9 : decode cX7_divisor 9 = .ok (.iload_n 3, 1) := by decide +kernel
theorem dX7_divisor_10 : decode cX7_divisor 10 = .ok (.irem, 1) := by decide +kernel
theorem dX7_divisor_11 : decode cX7_divisor 11 = .ok (.istore 4, 2) := by decide +kernel
theorem dX7_divisor_13 : decode cX7_divisor 13 = .ok (.iload_n 3, 1) := by decide +kernel
theorem dX7_divisor_14 : decode cX7_divisor 14 = .ok (.istore_n 2, 1) := by decide +kernel
theorem dX7_divisor_15 : decode cX7_divisor 15 = .ok (.iload 4, 2) := by decide +kernel
theorem dX7_divisor_17 : decode cX7_divisor 17 = .ok (.istore_n 3, 1) := by decide +kernel
theorem dX7_divisor_18 : decode cX7_divisor 18 = .ok (.goto (-14), 3) := by decide +kernel
theorem dX7_divisor_21 : decode cX7_divisor 21 = .ok (.iload_n 2, 1) := by decide +kernel
theorem dX7_divisor_22 : decode cX7_divisor 22 = .ok (.ireturn, 1) := by decide +kernel
theorem dX7_oftenOf_0 : decode cX7_oftenOf 0 = .ok (.iload_n 1, 1) := by decide +kernel
theorem dX7_oftenOf_1 : decode cX7_oftenOf 1 = .ok (.iconst (-1), 1) := by decide +kernel
theorem dX7_oftenOf_2 : decode cX7_oftenOf 2 = .ok (.if_icmp .ne 18, 3) := by decide +kernel
theorem dX7_oftenOf_5 : decode cX7_oftenOf 5 = .ok (.bipush 8, 2) := by decide +kernel
theorem dX7_oftenOf_7 : decode cX7_oftenOf 7 = .ok (.bipush 10, 2) := by decide +kernel
theorem dX7_oftenOf_9 : decode cX7_oftenOf 9 = .ok (.aload_n 0, 1) := by decide +kernel
theorem dX7_oftenOf_10 : decode cX7_oftenOf 10 = .ok (.getfield 9, 3) := by decide +kernel
theorem dX7_oftenOf_13 : decode cX7_oftenOf 13 = .ok (.iconst 5, 1) := by decide +kernel
theorem dX7_oftenOf_14 : decode cX7_oftenOf 14 = .ok (.iaload, 1) := by decide +kernel
theorem dX7_oftenOf_15 : decode cX7_oftenOf 15 = .ok (.isub, 1) := by decide +kernel
theorem dX7_oftenOf_16 : decode cX7_oftenOf 16 = .ok (.imul, 1) := by decide +kernel
theorem dX7_oftenOf_17 : decode cX7_oftenOf 17 = .ok (.goto 9, 3) := by decide +kernel
theorem dX7_oftenOf_20 : decode cX7_oftenOf 20 = .ok (.aload_n 0, 1) := by decide +kernel
theorem dX7_oftenOf_21 : decode cX7_oftenOf 21 = .ok (.getfield 9, 3) := by decide +kernel
theorem dX7_oftenOf_24 : decode cX7_oftenOf 24 = .ok (.iconst 5, 1) := by decide +kernel
theorem dX7_oftenOf_25 : decode cX7_oftenOf 25 = .ok (.iaload, 1) := by decide +kernel
theorem dX7_oftenOf_26 : decode cX7_oftenOf 26 = .ok (.ireturn, 1) := by decide +kernel
set_option maxRecDepth 20000 in
theorem ggX7_sure_X7_isTree : GoodIn wsX7_sure wsX7_isTree := goodIn_r _ [7, 8, 9, 10, 6, 11, 84, 85, 86, 87, 88, 89, 90, 91, 92, 93, 94, 95, 96, 97, 98, 99, 100, 101, 102, 103, 104, 105, 106, 107, 108, 109, 110, 111, 112, 113, 114] (by decide +kernel) (by decide +kernel)
set_option maxRecDepth 20000 in
theorem gX7_sure_X7_isTree : GoodIn wsX7_sure (wsV RX7 138 RX7 yX7_isTree wsX7_isTree) := goodIn_app (goodIn_of _ (by decide +kernel)) ggX7_sure_X7_isTree
set_option maxRecDepth 20000 in
theorem ggX7_sure_X7_in : GoodIn wsX7_sure wsX7_in := goodIn_r _ [11] (by decide +kernel) (by decide +kernel)
set_option maxRecDepth 20000 in
theorem gX7_sure_X7_in : GoodIn wsX7_sure (va_wsS RX7 41 yX7_in wsX7_in) := goodIn_app (goodIn_of _ (by decide +kernel)) ggX7_sure_X7_in
set_option maxRecDepth 20000 in
theorem ggX7_sure_X7_isStanding : GoodIn wsX7_sure wsX7_isStanding := goodIn_r _ [15, 8, 84, 85, 86, 87, 88, 89, 90, 91, 92, 93, 94, 95, 96, 97, 98, 99, 100, 101, 102, 103, 104, 105, 106, 107, 108, 109, 110, 111, 112, 113, 114] (by decide +kernel) (by decide +kernel)
set_option maxRecDepth 20000 in
theorem gX7_sure_X7_isStanding : GoodIn wsX7_sure (wsV RX7 183 RX7 yX7_isStanding wsX7_isStanding) := goodIn_app (goodIn_of _ (by decide +kernel)) ggX7_sure_X7_isStanding
set_option maxRecDepth 20000 in
theorem ggX7_sure_X7_goesNow : GoodIn wsX7_sure wsX7_goesNow := goodIn_r _ [19, 20, 21, 22, 6, 23, 8, 24, 25, 26, 27, 28, 29, 30, 2, 31, 32, 33, 34, 35, 36, 37, 38, 39, 40, 41, 42, 43, 44, 45, 46, 47, 48, 49, 50, 51, 52, 53, 54, 55, 56, 57, 58, 59, 60, 61, 62, 63, 64, 65, 66, 67, 68, 9, 10, 11, 69, 70, 71, 72, 12, 13, 14, 15, 84, 85, 86, 87, 88, 89, 90, 91, 92, 93, 94, 95, 96, 97, 98, 99, 100, 101, 102, 103, 104, 105, 106, 107, 108, 109, 110, 111, 112, 113, 114] (by decide +kernel) (by decide +kernel)
set_option maxRecDepth 20000 in
theorem gX7_sure_X7_goesNow : GoodIn wsX7_sure (wsV RX7 208 RX7 yX7_goesNow wsX7_goesNow) := goodIn_app (goodIn_of _ (by decide +kernel)) ggX7_sure_X7_goesNow
set_option maxRecDepth 20000 in
theorem ggX7_sure_X7_doesStrike : GoodIn wsX7_sure wsX7_doesStrike := goodIn_r _ [76, 63, 8, 84, 85, 86, 87, 88, 89, 90, 91, 92, 93, 94, 95, 96, 97, 98, 99, 100, 101, 102, 103, 104, 105, 106, 107, 108, 109, 110, 111, 112, 113, 114] (by decide +kernel) (by decide +kernel)
set_option maxRecDepth 20000 in
theorem gX7_sure_X7_doesStrike : GoodIn wsX7_sure (wsV RX7 223 RX7 yX7_doesStrike wsX7_doesStrike) := goodIn_app (goodIn_of _ (by decide +kernel)) ggX7_sure_X7_doesStrike
set_option maxRecDepth 20000 in
theorem ggX7_sure_X7_oftenOf : GoodIn wsX7_sure wsX7_oftenOf := goodIn_r _ [80, 8, 84, 85, 86, 87, 88, 89, 90, 91, 92, 93, 94, 95, 96, 97, 98, 99, 100, 101, 102, 103, 104, 105, 106, 107, 108, 109, 110, 111, 112, 113, 114] (by decide +kernel) (by decide +kernel)
set_option maxRecDepth 20000 in
theorem gX7_sure_X7_oftenOf : GoodIn wsX7_sure (wsV RX7 227 RX7 yX7_oftenOf wsX7_oftenOf) := goodIn_app (goodIn_of _ (by decide +kernel)) ggX7_sure_X7_oftenOf
set_option maxRecDepth 20000 in
theorem ggX7_sure_X7_divisor : GoodIn wsX7_sure wsX7_divisor := goodIn_r _ [83] (by decide +kernel) (by decide +kernel)
set_option maxRecDepth 20000 in
theorem gX7_sure_X7_divisor : GoodIn wsX7_sure (va_wsS RX7 230 yX7_divisor wsX7_divisor) := goodIn_app (goodIn_of _ (by decide +kernel)) ggX7_sure_X7_divisor
theorem dX7_sure_0 : decode cX7_sure 0 = .ok (.aload_n 0, 1) := by decide +kernel
theorem dX7_sure_1 : decode cX7_sure 1 = .ok (.iload_n 1, 1) := by decide +kernel
theorem dX7_sure_2 : decode cX7_sure 2 = .ok (.invokevirtual 138, 3) := by decide +kernel
theorem dX7_sure_5 : decode cX7_sure 5 = .ok (.ifCond .eq 29, 3) := by decide +kernel
theorem dX7_sure_8 : decode cX7_sure 8 = .ok (.iload_n 2, 1) := by decide +kernel
theorem dX7_sure_9 : decode cX7_sure 9 = .ok (.iconst 0, 1) := by decide +kernel
theorem dX7_sure_10 : decode cX7_sure 10 = .ok (.iconst 1, 1) := by decide +kernel
theorem dX7_sure_11 : decode cX7_sure 11 = .ok (.invokestatic 41, 3) := by decide +kernel
theorem dX7_sure_14 : decode cX7_sure 14 = .ok (.ifCond .eq 20, 3) := by decide +kernel
theorem dX7_sure_17 : decode cX7_sure 17 = .ok (.iload_n 3, 1) := by decide +kernel
theorem dX7_sure_18 : decode cX7_sure 18 = .ok (.iconst 0, 1) := by decide +kernel
theorem dX7_sure_19 : decode cX7_sure 19 = .ok (.iconst 1, 1) := by decide +kernel
theorem dX7_sure_20 : decode cX7_sure 20 = .ok (.invokestatic 41, 3) := by decide +kernel
theorem dX7_sure_23 : decode cX7_sure 23 = .ok (.ifCond .eq 11, 3) := by decide +kernel
theorem dX7_sure_26 : decode cX7_sure 26 = .ok (.aload_n 0, 1) := by decide +kernel
theorem dX7_sure_27 : decode cX7_sure 27 = .ok (.iload_n 1, 1) := by decide +kernel
theorem dX7_sure_28 : decode cX7_sure 28 = .ok (.invokevirtual 183, 3) := by decide +kernel
theorem dX7_sure_31 : decode cX7_sure 31 = .ok (.ifCond .ne 7, 3) := by decide +kernel
theorem dX7_sure_34 : decode cX7_sure 34 = .ok (.ldc2_w 211, 3) := by decide +kernel
theorem dX7_sure_37 : decode cX7_sure 37 = .ok (.lreturn, 1) := by decide +kernel
theorem dX7_sure_38 : decode cX7_sure 38 = .ok (.iconst 0, 1) := by decide +kernel
theorem dX7_sure_39 : decode cX7_sure 39 = .ok (.istore 4, 2) := by decide +kernel
theorem dX7_sure_41 : decode cX7_sure 41 = .ok (.iconst (-1), 1) := by decide +kernel
theorem dX7_sure_42 : decode cX7_sure 42 = .ok (.istore 5, 2) := by decide +kernel
theorem dX7_sure_44 : decode cX7_sure 44 = .ok (.iload 5, 2) := by decide +kernel
theorem dX7_sure_46 : decode cX7_sure 46 = .ok (.bipush 8, 2) := by decide +kernel
theorem dX7_sure_48 : decode cX7_sure 48 = .ok (.if_icmp .ge 61, 3) := by decide +kernel
theorem dX7_sure_51 : decode cX7_sure 51 = .ok (.aload_n 0, 1) := by decide +kernel
theorem dX7_sure_52 : decode cX7_sure 52 = .ok (.iload_n 1, 1) := by decide +kernel
theorem dX7_sure_53 : decode cX7_sure 53 = .ok (.iload 5, 2) := by decide +kernel
theorem dX7_sure_55 : decode cX7_sure 55 = .ok (.invokevirtual 208, 3) := by decide +kernel
theorem dX7_sure_58 : decode cX7_sure 58 = .ok (.iload_n 2, 1) := by decide +kernel
theorem dX7_sure_59 : decode cX7_sure 59 = .ok (.ifCond .ne 18, 3) := by decide +kernel
theorem dX7_sure_62 : decode cX7_sure 62 = .ok (.aload_n 0, 1) := by decide +kernel
theorem dX7_sure_63 : decode cX7_sure 63 = .ok (.getfield 177, 3) := by decide +kernel
theorem dX7_sure_66 : decode cX7_sure 66 = .ok (.ifCond .ne 7, 3) := by decide +kernel
theorem dX7_sure_69 : decode cX7_sure 69 = .ok (.iconst 1, 1) := by decide +kernel
theorem dX7_sure_70 : decode cX7_sure 70 = .ok (.goto 11, 3) := by decide +kernel
theorem dX7_sure_73 : decode cX7_sure 73 = .ok (.iconst 0, 1) := by decide +kernel
theorem dX7_sure_74 : decode cX7_sure 74 = .ok (.goto 7, 3) := by decide +kernel
theorem dX7_sure_77 : decode cX7_sure 77 = .ok (.aload_n 0, 1) := by decide +kernel
theorem dX7_sure_78 : decode cX7_sure 78 = .ok (.invokevirtual 223, 3) := by decide +kernel
theorem dX7_sure_81 : decode cX7_sure 81 = .ok (.istore 6, 2) := by decide +kernel
theorem dX7_sure_83 : decode cX7_sure 83 = .ok (.iload 4, 2) := by decide +kernel
theorem dX7_sure_85 : decode cX7_sure 85 = .ok (.iload 6, 2) := by decide +kernel
theorem dX7_sure_87 : decode cX7_sure 87 = .ok (.ifCond .eq 12, 3) := by decide +kernel
theorem dX7_sure_90 : decode cX7_sure 90 = .ok (.aload_n 0, 1) := by decide +kernel
theorem dX7_sure_91 : decode cX7_sure 91 = .ok (.iload 5, 2) := by decide +kernel
theorem dX7_sure_93 : decode cX7_sure 93 = .ok (.invokevirtual 227, 3) := by decide +kernel
theorem dX7_sure_96 : decode cX7_sure 96 = .ok (.goto 4, 3) := by decide +kernel
theorem dX7_sure_99 : decode cX7_sure 99 = .ok (.iconst 0, 1) := by decide +kernel
theorem dX7_sure_100 : decode cX7_sure 100 = .ok (.iadd, 1) := by decide +kernel
theorem dX7_sure_101 : decode cX7_sure 101 = .ok (.istore 4, 2) := by decide +kernel
theorem dX7_sure_103 : decode cX7_sure 103 = .ok (.iinc 5 1, 3) := by decide +kernel
theorem dX7_sure_106 : decode cX7_sure 106 = .ok (.goto (-62), 3) := by decide +kernel
theorem dX7_sure_109 : decode cX7_sure 109 = .ok (.iload_n 3, 1) := by decide +kernel
theorem dX7_sure_110 : decode cX7_sure 110 = .ok (.ifCond .ne 8, 3) := by decide +kernel
theorem dX7_sure_113 : decode cX7_sure 113 = .ok (.iload 4, 2) := by decide +kernel
theorem dX7_sure_115 : decode cX7_sure 115 = .ok (.goto 5, 3) := by decide +kernel
theorem dX7_sure_118 : decode cX7_sure 118 = .ok (.bipush 80, 2) := by decide +kernel
theorem dX7_sure_120 : decode cX7_sure 120 = .ok (.iload 4, 2) := by decide +kernel
theorem dX7_sure_122 : decode cX7_sure 122 = .ok (.bipush 80, 2) := by decide +kernel
theorem dX7_sure_124 : decode cX7_sure 124 = .ok (.invokestatic 230, 3) := by decide +kernel
theorem dX7_sure_127 : decode cX7_sure 127 = .ok (.idiv, 1) := by decide +kernel
theorem dX7_sure_128 : decode cX7_sure 128 = .ok (.i2l, 1) := by decide +kernel
theorem dX7_sure_129 : decode cX7_sure 129 = .ok (.lreturn, 1) := by decide +kernel
set_option maxRecDepth 20000 in
theorem ggX7_stand_X7_isTree : GoodIn wsX7_stand wsX7_isTree := goodIn_r _ [8, 3, 9, 10, 7, 11, 77, 78, 79, 80, 81, 82, 83, 84, 85, 86, 87, 88, 89, 90, 91, 92, 93, 94, 95, 96, 97, 98, 99, 100, 101, 102, 103, 104, 105, 106, 107] (by decide +kernel) (by decide +kernel)
set_option maxRecDepth 20000 in
theorem gX7_stand_X7_isTree : GoodIn wsX7_stand (wsV RX7 138 RX7 yX7_isTree wsX7_isTree) := goodIn_app (goodIn_of _ (by decide +kernel)) ggX7_stand_X7_isTree
set_option maxRecDepth 20000 in
theorem ggX7_stand_X7_isStanding : GoodIn wsX7_stand wsX7_isStanding := goodIn_r _ [15, 3, 77, 78, 79, 80, 81, 82, 83, 84, 85, 86, 87, 88, 89, 90, 91, 92, 93, 94, 95, 96, 97, 98, 99, 100, 101, 102, 103, 104, 105, 106, 107] (by decide +kernel) (by decide +kernel)
set_option maxRecDepth 20000 in
theorem gX7_stand_X7_isStanding : GoodIn wsX7_stand (wsV RX7 183 RX7 yX7_isStanding wsX7_isStanding) := goodIn_app (goodIn_of _ (by decide +kernel)) ggX7_stand_X7_isStanding
set_option maxRecDepth 20000 in
theorem ggX7_stand_X7_goesNow : GoodIn wsX7_stand wsX7_goesNow := goodIn_r _ [19, 20, 21, 22, 7, 23, 3, 24, 25, 26, 27, 28, 29, 30, 31, 32, 33, 34, 35, 36, 37, 38, 39, 40, 41, 42, 43, 44, 45, 46, 47, 48, 49, 50, 51, 52, 53, 54, 55, 56, 57, 58, 59, 60, 61, 62, 63, 2, 64, 65, 66, 67, 68, 9, 10, 11, 69, 70, 71, 72, 12, 13, 14, 15, 77, 78, 79, 80, 81, 82, 83, 84, 85, 86, 87, 88, 89, 90, 91, 92, 93, 94, 95, 96, 97, 98, 99, 100, 101, 102, 103, 104, 105, 106, 107] (by decide +kernel) (by decide +kernel)
set_option maxRecDepth 20000 in
theorem gX7_stand_X7_goesNow : GoodIn wsX7_stand (wsV RX7 208 RX7 yX7_goesNow wsX7_goesNow) := goodIn_app (goodIn_of _ (by decide +kernel)) ggX7_stand_X7_goesNow
set_option maxRecDepth 20000 in
theorem ggX7_stand_X7_oftenOf : GoodIn wsX7_stand wsX7_oftenOf := goodIn_r _ [76, 3, 77, 78, 79, 80, 81, 82, 83, 84, 85, 86, 87, 88, 89, 90, 91, 92, 93, 94, 95, 96, 97, 98, 99, 100, 101, 102, 103, 104, 105, 106, 107] (by decide +kernel) (by decide +kernel)
set_option maxRecDepth 20000 in
theorem gX7_stand_X7_oftenOf : GoodIn wsX7_stand (wsV RX7 227 RX7 yX7_oftenOf wsX7_oftenOf) := goodIn_app (goodIn_of _ (by decide +kernel)) ggX7_stand_X7_oftenOf
set_option maxRecDepth 20000 in
theorem ggX7_stand_X7_size : GoodIn wsX7_stand wsX7_size := goodIn_r _ [59] (by decide +kernel) (by decide +kernel)
set_option maxRecDepth 20000 in
theorem gX7_stand_X7_size : GoodIn wsX7_stand (va_wsS RX7 174 yX7_size wsX7_size) := goodIn_app (goodIn_of _ (by decide +kernel)) ggX7_stand_X7_size
set_option maxRecDepth 20000 in
theorem ggX7_stand_X7_standingOn : GoodIn wsX7_stand wsX7_standingOn := goodIn_r _ [72, 3, 12, 13, 14, 7, 15, 77, 78, 79, 80, 81, 82, 83, 84, 85, 86, 87, 88, 89, 90, 91, 92, 93, 94, 95, 96, 97, 98, 99, 100, 101, 102, 103, 104, 105, 106, 107] (by decide +kernel) (by decide +kernel)
set_option maxRecDepth 20000 in
theorem gX7_stand_X7_standingOn : GoodIn wsX7_stand (wsV RX7 199 RX7 yX7_standingOn wsX7_standingOn) := goodIn_app (goodIn_of _ (by decide +kernel)) ggX7_stand_X7_standingOn
theorem dX7_stand_0 : decode cX7_stand 0 = .ok (.aload_n 0, 1) := by decide +kernel
theorem dX7_stand_1 : decode cX7_stand 1 = .ok (.iload_n 1, 1) := by decide +kernel
theorem dX7_stand_2 : decode cX7_stand 2 = .ok (.invokevirtual 138, 3) := by decide +kernel
theorem dX7_stand_5 : decode cX7_stand 5 = .ok (.ifCond .eq 11, 3) := by decide +kernel
theorem dX7_stand_8 : decode cX7_stand 8 = .ok (.aload_n 0, 1) := by decide +kernel
theorem dX7_stand_9 : decode cX7_stand 9 = .ok (.iload_n 1, 1) := by decide +kernel
theorem dX7_stand_10 : decode cX7_stand 10 = .ok (.invokevirtual 183, 3) := by decide +kernel
theorem dX7_stand_13 : decode cX7_stand 13 = .ok (.ifCond .ne 7, 3) := by decide +kernel
theorem dX7_stand_16 : decode cX7_stand 16 = .ok (.ldc2_w 211, 3) := by decide +kernel
theorem dX7_stand_19 : decode cX7_stand 19 = .ok (.lreturn, 1) := by decide +kernel
theorem dX7_stand_20 : decode cX7_stand 20 = .ok (.lconst 0, 1) := by decide +kernel
theorem dX7_stand_21 : decode cX7_stand 21 = .ok (.lstore_n 2, 1) := by decide +kernel
theorem dX7_stand_22 : decode cX7_stand 22 = .ok (.iconst (-1), 1) := by decide +kernel
theorem dX7_stand_23 : decode cX7_stand 23 = .ok (.istore 4, 2) := by decide +kernel
theorem dX7_stand_25 : decode cX7_stand 25 = .ok (.iload 4, 2) := by decide +kernel
theorem dX7_stand_27 : decode cX7_stand 27 = .ok (.bipush 8, 2) := by decide +kernel
theorem dX7_stand_29 : decode cX7_stand 29 = .ok (.if_icmp .ge 36, 3) := by decide +kernel
theorem dX7_stand_32 : decode cX7_stand 32 = .ok (.aload_n 0, 1) := by decide +kernel
theorem dX7_stand_33 : decode cX7_stand 33 = .ok (.iload_n 1, 1) := by decide +kernel
theorem dX7_stand_34 : decode cX7_stand 34 = .ok (.iload 4, 2) := by decide +kernel
theorem dX7_stand_36 : decode cX7_stand 36 = .ok (.invokevirtual 208, 3) := by decide +kernel
theorem dX7_stand_39 : decode cX7_stand 39 = .ok (.lload_n 2, 1) := by decide +kernel
theorem dX7_stand_40 : decode cX7_stand 40 = .ok (.aload_n 0, 1) := by decide +kernel
theorem dX7_stand_41 : decode cX7_stand 41 = .ok (.iload 4, 2) := by decide +kernel
theorem dX7_stand_43 : decode cX7_stand 43 = .ok (.invokevirtual 227, 3) := by decide +kernel
theorem dX7_stand_46 : decode cX7_stand 46 = .ok (.ifCond .le 10, 3) := by decide +kernel
theorem dX7_stand_49 : decode cX7_stand 49 = .ok (.aload_n 0, 1) := by decide +kernel
theorem dX7_stand_50 : decode cX7_stand 50 = .ok (.getfield 186, 3) := by decide +kernel
theorem dX7_stand_53 : decode cX7_stand 53 = .ok (.goto 4, 3) := by decide +kernel
theorem dX7_stand_56 : decode cX7_stand 56 = .ok (.lconst 0, 1) := by decide +kernel
theorem dX7_stand_57 : decode cX7_stand 57 = .ok (.lor, 1) := by decide +kernel
theorem dX7_stand_58 : decode cX7_stand 58 = .ok (.lstore_n 2, 1) := by decide +kernel
theorem dX7_stand_59 : decode cX7_stand 59 = .ok (.iinc 4 1, 3) := by decide +kernel
theorem dX7_stand_62 : decode cX7_stand 62 = .ok (.goto (-37), 3) := by decide +kernel
theorem dX7_stand_65 : decode cX7_stand 65 = .ok (.lconst 0, 1) := by decide +kernel
theorem dX7_stand_66 : decode cX7_stand 66 = .ok (.lstore 4, 2) := by decide +kernel
theorem dX7_stand_68 : decode cX7_stand 68 = .ok (.aload_n 0, 1) := by decide +kernel
theorem dX7_stand_69 : decode cX7_stand 69 = .ok (.getfield 9, 3) := by decide +kernel
theorem dX7_stand_72 : decode cX7_stand 72 = .ok (.bipush 122, 2) := by decide +kernel
theorem dX7_stand_74 : decode cX7_stand 74 = .ok (.iload_n 1, 1) := by decide +kernel
theorem dX7_stand_75 : decode cX7_stand 75 = .ok (.iadd, 1) := by decide +kernel
theorem dX7_stand_76 : decode cX7_stand 76 = .ok (.iaload, 1) := by decide +kernel
theorem dX7_stand_77 : decode cX7_stand 77 = .ok (.istore 6, 2) := by decide +kernel
theorem dX7_stand_79 : decode cX7_stand 79 = .ok (.iconst 0, 1) := by decide +kernel
theorem dX7_stand_80 : decode cX7_stand 80 = .ok (.istore 7, 2) := by decide +kernel
theorem dX7_stand_82 : decode cX7_stand 82 = .ok (.iload 7, 2) := by decide +kernel
theorem dX7_stand_84 : decode cX7_stand 84 = .ok (.bipush 64, 2) := by decide +kernel
theorem dX7_stand_86 : decode cX7_stand 86 = .ok (.if_icmp .ge 92, 3) := by decide +kernel
theorem dX7_stand_89 : decode cX7_stand 89 = .ok (.iload 7, 2) := by decide +kernel
theorem dX7_stand_91 : decode cX7_stand 91 = .ok (.bipush 8, 2) := by decide +kernel
theorem dX7_stand_93 : decode cX7_stand 93 = .ok (.idiv, 1) := by decide +kernel
theorem dX7_stand_94 : decode cX7_stand 94 = .ok (.iload 6, 2) := by decide +kernel
theorem dX7_stand_96 : decode cX7_stand 96 = .ok (.bipush 8, 2) := by decide +kernel
theorem dX7_stand_98 : decode cX7_stand 98 = .ok (.idiv, 1) := by decide +kernel
theorem dX7_stand_99 : decode cX7_stand 99 = .ok (.isub, 1) := by decide +kernel
theorem dX7_stand_100 : decode cX7_stand 100 = .ok (.invokestatic 174, 3) := by decide +kernel
theorem dX7_stand_103 : decode cX7_stand 103 = .ok (.iconst 1, 1) := by decide +kernel
theorem dX7_stand_104 : decode cX7_stand 104 = .ok (.if_icmp .gt 25, 3) := by decide +kernel
theorem dX7_stand_107 : decode cX7_stand 107 = .ok (.iload 7, 2) := by decide +kernel
theorem dX7_stand_109 : decode cX7_stand 109 = .ok (.bipush 8, 2) := by decide +kernel
theorem dX7_stand_111 : decode cX7_stand 111 = .ok (.irem, 1) := by decide +kernel
theorem dX7_stand_112 : decode cX7_stand 112 = .ok (.iload 6, 2) := by decide +kernel
theorem dX7_stand_114 : decode cX7_stand 114 = .ok (.bipush 8, 2) := by decide +kernel
theorem dX7_stand_116 : decode cX7_stand 116 = .ok (.irem, 1) := by decide +kernel
theorem dX7_stand_117 : decode cX7_stand 117 = .ok (.isub, 1) := by decide +kernel
theorem dX7_stand_118 : decode cX7_stand 118 = .ok (.invokestatic 174, 3) := by decide +kernel
theorem dX7_stand_121 : decode cX7_stand 121 = .ok (.iconst 1, 1) := by decide +kernel
theorem dX7_stand_122 : decode cX7_stand 122 = .ok (.if_icmp .gt 7, 3) := by decide +kernel
theorem dX7_stand_125 : decode cX7_stand 125 = .ok (.iconst 1, 1) := by decide +kernel
theorem dX7_stand_126 : decode cX7_stand 126 = .ok (.goto 4, 3) := by decide +kernel
theorem dX7_stand_129 : decode cX7_stand 129 = .ok (.iconst 0, 1) := by decide +kernel
theorem dX7_stand_130 : decode cX7_stand 130 = .ok (.istore 8, 2) := by decide +kernel
theorem dX7_stand_132 : decode cX7_stand 132 = .ok (.lload 4, 2) := by decide +kernel
theorem dX7_stand_134 : decode cX7_stand 134 = .ok (.iload 8, 2) := by decide +kernel
theorem dX7_stand_136 : decode cX7_stand 136 = .ok (.ifCond .ne 32, 3) := by decide +kernel
theorem dX7_stand_139 : decode cX7_stand 139 = .ok (.aload_n 0, 1) := by decide +kernel
theorem dX7_stand_140 : decode cX7_stand 140 = .ok (.iload 7, 2) := by decide +kernel
theorem dX7_stand_142 : decode cX7_stand 142 = .ok (.iconst (-1), 1) := by decide +kernel
theorem dX7_stand_143 : decode cX7_stand 143 = .ok (.invokevirtual 199, 3) := by decide +kernel
theorem dX7_stand_146 : decode cX7_stand 146 = .ok (.iconst (-1), 1) := by decide +kernel
theorem dX7_stand_147 : decode cX7_stand 147 = .ok (.if_icmp .ne 21, 3) := by decide +kernel
theorem dX7_stand_150 : decode cX7_stand 150 = .ok (.lload_n 2, 1) := by decide +kernel
theorem dX7_stand_151 : decode cX7_stand 151 = .ok (.iload 7, 2) := by decide +kernel
theorem dX7_stand_153 : decode cX7_stand 153 = .ok (.lshr, 1) := by decide +kernel
theorem dX7_stand_154 : decode cX7_stand 154 = .ok (.lconst 1, 1) := by decide +kernel
theorem dX7_stand_155 : decode cX7_stand 155 = .ok (.land, 1) := by decide +kernel
theorem dX7_stand_156 : decode cX7_stand 156 = .ok (.lconst 0, 1) := by decide +kernel
theorem dX7_stand_157 : decode cX7_stand 157 = .ok (.lcmp, 1) := by decide +kernel
theorem dX7_stand_158 : decode cX7_stand 158 = .ok (.ifCond .ne 10, 3) := by decide +kernel
theorem dX7_stand_161 : decode cX7_stand 161 = .ok (.lconst 1, 1) := by decide +kernel
theorem dX7_stand_162 : decode cX7_stand 162 = .ok (.iload 7, 2) := by decide +kernel
theorem dX7_stand_164 : decode cX7_stand 164 = .ok (.lshl, 1) := by decide +kernel
theorem dX7_stand_165 : decode cX7_stand 165 = .ok (.goto 4, 3) := by decide +kernel
theorem dX7_stand_168 : decode cX7_stand 168 = .ok (.lconst 0, 1) := by decide +kernel
theorem dX7_stand_169 : decode cX7_stand 169 = .ok (.lor, 1) := by decide +kernel
theorem dX7_stand_170 : decode cX7_stand 170 = .ok (.lstore 4, 2) := by decide +kernel
theorem dX7_stand_172 : decode cX7_stand 172 = .ok (.iinc 7 1, 3) := by decide +kernel
theorem dX7_stand_175 : decode cX7_stand 175 = .ok (.goto (-93), 3) := by decide +kernel
theorem dX7_stand_178 : decode cX7_stand 178 = .ok (.lload 4, 2) := by decide +kernel
theorem dX7_stand_180 : decode cX7_stand 180 = .ok (.lreturn, 1) := by decide +kernel
theorem dX7_standingMany_0 : decode cX7_standingMany 0 = .ok (.iconst 0, 1) := by decide +kernel
theorem dX7_standingMany_1 : decode cX7_standingMany 1 = .ok (.istore_n 1, 1) := by decide +kernel
theorem dX7_standingMany_2 : decode cX7_standingMany 2 = .ok (.iconst 0, 1) := by decide +kernel
theorem dX7_standingMany_3 : decode cX7_standingMany 3 = .ok (.istore_n 2, 1) := by decide +kernel
theorem dX7_standingMany_4 : decode cX7_standingMany 4 = .ok (.iload_n 2, 1) := by decide +kernel
theorem dX7_standingMany_5 : decode cX7_standingMany 5 = .ok (.aload_n 0, 1) := by decide +kernel
theorem dX7_standingMany_6 : decode cX7_standingMany 6 = .ok (.getfield 9, 3) := by decide +kernel
theorem dX7_standingMany_9 : decode cX7_standingMany 9 = .ok (.iconst 0, 1) := by decide +kernel
theorem dX7_standingMany_10 : decode cX7_standingMany 10 = .ok (.iaload, 1) := by decide +kernel
theorem dX7_standingMany_11 : decode cX7_standingMany 11 = .ok (.if_icmp .ge 22, 3) := by decide +kernel
theorem dX7_standingMany_14 : decode cX7_standingMany 14 = .ok (.iload_n 1, 1) := by decide +kernel
theorem dX7_standingMany_15 : decode cX7_standingMany 15 = .ok (.aload_n 0, 1) := by decide +kernel
theorem dX7_standingMany_16 : decode cX7_standingMany 16 = .ok (.getfield 9, 3) := by decide +kernel
theorem dX7_standingMany_19 : decode cX7_standingMany 19 = .ok (.sipush 152, 3) := by decide +kernel
theorem dX7_standingMany_22 : decode cX7_standingMany 22 = .ok (.iload_n 2, 1) := by decide +kernel
theorem dX7_standingMany_23 : decode cX7_standingMany 23 = .ok (.iadd, 1) := by decide +kernel
theorem dX7_standingMany_24 : decode cX7_standingMany 24 = .ok (.iaload, 1) := by decide +kernel
theorem dX7_standingMany_25 : decode cX7_standingMany 25 = .ok (.iadd, 1) := by decide +kernel
theorem dX7_standingMany_26 : decode cX7_standingMany 26 = .ok (.istore_n 1, 1) := by decide +kernel
theorem dX7_standingMany_27 : decode cX7_standingMany 27 = .ok (.iinc 2 1, 3) := by decide +kernel
theorem dX7_standingMany_30 : decode cX7_standingMany 30 = .ok (.goto (-26), 3) := by decide +kernel
theorem dX7_standingMany_33 : decode cX7_standingMany 33 = .ok (.iload_n 1, 1) := by decide +kernel
theorem dX7_standingMany_34 : decode cX7_standingMany 34 = .ok (.ireturn, 1) := by decide +kernel
set_option maxRecDepth 20000 in
theorem ggX7_rowsFrom_X7_isStanding : GoodIn wsX7_rowsFrom wsX7_isStanding := goodIn_r _ [9, 1, 72, 73, 74, 75, 76, 77, 78, 79, 80, 81, 82, 83, 84, 85, 86, 87, 88, 89, 90, 91, 92, 93, 94, 95, 96, 97, 98, 99, 100, 101, 102] (by decide +kernel) (by decide +kernel)
set_option maxRecDepth 20000 in
theorem gX7_rowsFrom_X7_isStanding : GoodIn wsX7_rowsFrom (wsV RX7 183 RX7 yX7_isStanding wsX7_isStanding) := goodIn_app (goodIn_of _ (by decide +kernel)) ggX7_rowsFrom_X7_isStanding
set_option maxRecDepth 20000 in
theorem ggX7_rowsFrom_X7_goesNow : GoodIn wsX7_rowsFrom wsX7_goesNow := goodIn_r _ [13, 14, 15, 16, 8, 17, 1, 18, 19, 20, 21, 22, 23, 24, 2, 25, 26, 27, 28, 29, 30, 31, 32, 33, 34, 35, 36, 37, 38, 39, 40, 41, 42, 43, 44, 45, 46, 47, 48, 49, 50, 51, 52, 53, 54, 55, 56, 57, 58, 3, 59, 60, 61, 62, 63, 64, 65, 66, 67, 68, 5, 6, 7, 9, 72, 73, 74, 75, 76, 77, 78, 79, 80, 81, 82, 83, 84, 85, 86, 87, 88, 89, 90, 91, 92, 93, 94, 95, 96, 97, 98, 99, 100, 101, 102] (by decide +kernel) (by decide +kernel)
set_option maxRecDepth 20000 in
theorem gX7_rowsFrom_X7_goesNow : GoodIn wsX7_rowsFrom (wsV RX7 208 RX7 yX7_goesNow wsX7_goesNow) := goodIn_app (goodIn_of _ (by decide +kernel)) ggX7_rowsFrom_X7_goesNow
set_option maxRecDepth 20000 in
theorem ggX7_rowsFrom_X7_rowsFrom : GoodIn wsX7_rowsFrom wsX7_rowsFrom := goodIn_r _ [0, 1, 2, 3, 4, 5, 6, 7, 8, 9, 10, 11, 12, 13, 14, 15, 16, 17, 18, 19, 20, 21, 22, 23, 24, 25, 26, 27, 28, 29, 30, 31, 32, 33, 34, 35, 36, 37, 38, 39, 40, 41, 42, 43, 44, 45, 46, 47, 48, 49, 50, 51, 52, 53, 54, 55, 56, 57, 58, 59, 60, 61, 62, 63, 64, 65, 66, 67, 68, 69, 70, 71, 72, 73, 74, 75, 76, 77, 78, 79, 80, 81, 82, 83, 84, 85, 86, 87, 88, 89, 90, 91, 92, 93, 94, 95, 96, 97, 98, 99, 100, 101, 102] (by decide +kernel) (by decide +kernel)
set_option maxRecDepth 20000 in
theorem gX7_rowsFrom_X7_rowsFrom : GoodIn wsX7_rowsFrom (wsV RX7 233 RX7 yX7_rowsFrom wsX7_rowsFrom) := goodIn_app (goodIn_of _ (by decide +kernel)) ggX7_rowsFrom_X7_rowsFrom
theorem dX7_rowsFrom_0 : decode cX7_rowsFrom 0 = .ok (.iload_n 1, 1) := by decide +kernel
theorem dX7_rowsFrom_1 : decode cX7_rowsFrom 1 = .ok (.iload_n 2, 1) := by decide +kernel
theorem dX7_rowsFrom_2 : decode cX7_rowsFrom 2 = .ok (.if_icmp .ne 5, 3) := by decide +kernel
theorem dX7_rowsFrom_5 : decode cX7_rowsFrom 5 = .ok (.iconst 1, 1) := by decide +kernel
theorem dX7_rowsFrom_6 : decode cX7_rowsFrom 6 = .ok (.ireturn, 1) := by decide +kernel
theorem dX7_rowsFrom_7 : decode cX7_rowsFrom 7 = .ok (.iconst 0, 1) := by decide +kernel
theorem dX7_rowsFrom_8 : decode cX7_rowsFrom 8 = .ok (.istore_n 3, 1) := by decide +kernel
theorem dX7_rowsFrom_9 : decode cX7_rowsFrom 9 = .ok (.iload_n 3, 1) := by decide +kernel
theorem dX7_rowsFrom_10 : decode cX7_rowsFrom 10 = .ok (.aload_n 0, 1) := by decide +kernel
theorem dX7_rowsFrom_11 : decode cX7_rowsFrom 11 = .ok (.getfield 9, 3) := by decide +kernel
theorem dX7_rowsFrom_14 : decode cX7_rowsFrom 14 = .ok (.iconst 0, 1) := by decide +kernel
theorem dX7_rowsFrom_15 : decode cX7_rowsFrom 15 = .ok (.iaload, 1) := by decide +kernel
theorem dX7_rowsFrom_16 : decode cX7_rowsFrom 16 = .ok (.if_icmp .ge 86, 3) := by decide +kernel
theorem dX7_rowsFrom_19 : decode cX7_rowsFrom 19 = .ok (.aload_n 0, 1) := by decide +kernel
theorem dX7_rowsFrom_20 : decode cX7_rowsFrom 20 = .ok (.iload_n 3, 1) := by decide +kernel
theorem dX7_rowsFrom_21 : decode cX7_rowsFrom 21 = .ok (.invokevirtual 183, 3) := by decide +kernel
theorem dX7_rowsFrom_24 : decode cX7_rowsFrom 24 = .ok (.ifCond .eq 72, 3) := by decide +kernel
theorem dX7_rowsFrom_27 : decode cX7_rowsFrom 27 = .ok (.aload_n 0, 1) := by decide +kernel
theorem dX7_rowsFrom_28 : decode cX7_rowsFrom 28 = .ok (.iload_n 3, 1) := by decide +kernel
theorem dX7_rowsFrom_29 : decode cX7_rowsFrom 29 = .ok (.iconst (-1), 1) := by decide +kernel
theorem dX7_rowsFrom_30 : decode cX7_rowsFrom 30 = .ok (.invokevirtual 208, 3) := by decide +kernel
theorem dX7_rowsFrom_33 : decode cX7_rowsFrom 33 = .ok (.aload_n 0, 1) := by decide +kernel
theorem dX7_rowsFrom_34 : decode cX7_rowsFrom 34 = .ok (.getfield 177, 3) := by decide +kernel
theorem dX7_rowsFrom_37 : decode cX7_rowsFrom 37 = .ok (.iconst 2, 1) := by decide +kernel
theorem dX7_rowsFrom_38 : decode cX7_rowsFrom 38 = .ok (.if_icmp .eq 58, 3) := by decide +kernel
theorem dX7_rowsFrom_41 : decode cX7_rowsFrom 41 = .ok (.aload_n 0, 1) := by decide +kernel
theorem dX7_rowsFrom_42 : decode cX7_rowsFrom 42 = .ok (.getfield 193, 3) := by decide +kernel
theorem dX7_rowsFrom_45 : decode cX7_rowsFrom 45 = .ok (.bipush (-5), 2) := by decide +kernel
theorem dX7_rowsFrom_47 : decode cX7_rowsFrom 47 = .ok (.if_icmp .ne 49, 3) := by decide +kernel
theorem dX7_rowsFrom_50 : decode cX7_rowsFrom 50 = .ok (.aload_n 0, 1) := by decide +kernel
theorem dX7_rowsFrom_51 : decode cX7_rowsFrom 51 = .ok (.getfield 28, 3) := by decide +kernel
theorem dX7_rowsFrom_54 : decode cX7_rowsFrom 54 = .ok (.iload_n 1, 1) := by decide +kernel
theorem dX7_rowsFrom_55 : decode cX7_rowsFrom 55 = .ok (.iload_n 3, 1) := by decide +kernel
theorem dX7_rowsFrom_56 : decode cX7_rowsFrom 56 = .ok (.iastore, 1) := by decide +kernel
theorem dX7_rowsFrom_57 : decode cX7_rowsFrom 57 = .ok (.aload_n 0, 1) := by decide +kernel
theorem dX7_rowsFrom_58 : decode cX7_rowsFrom 58 = .ok (.getfield 9, 3) := by decide +kernel
theorem dX7_rowsFrom_61 : decode cX7_rowsFrom 61 = .ok (.sipush 152, 3) := by decide +kernel
theorem dX7_rowsFrom_64 : decode cX7_rowsFrom 64 = .ok (.iload_n 3, 1) := by decide +kernel
theorem dX7_rowsFrom_65 : decode cX7_rowsFrom 65 = .ok (.iadd, 1) := by decide +kernel
theorem dX7_rowsFrom_66 : decode cX7_rowsFrom 66 = .ok (.iconst 0, 1) := by decide +kernel
theorem dX7_rowsFrom_67 : decode cX7_rowsFrom 67 = .ok (.iastore, 1) := by decide +kernel
theorem dX7_rowsFrom_68 : decode cX7_rowsFrom 68 = .ok (.aload_n 0, 1) := by decide +kernel
theorem dX7_rowsFrom_69 : decode cX7_rowsFrom 69 = .ok (.iload_n 1, 1) := by decide +kernel
theorem dX7_rowsFrom_70 : decode cX7_rowsFrom 70 = .ok (.iconst 1, 1) := by decide +kernel
theorem dX7_rowsFrom_71 : decode cX7_rowsFrom 71 = .ok (.iadd, 1) := by decide +kernel
theorem dX7_rowsFrom_72 : decode cX7_rowsFrom 72 = .ok (.iload_n 2, 1) := by decide +kernel
theorem dX7_rowsFrom_73 : decode cX7_rowsFrom 73 = .ok (.invokevirtual 233, 3) := by decide +kernel
theorem dX7_rowsFrom_76 : decode cX7_rowsFrom 76 = .ok (.istore 4, 2) := by decide +kernel
theorem dX7_rowsFrom_78 : decode cX7_rowsFrom 78 = .ok (.aload_n 0, 1) := by decide +kernel
theorem dX7_rowsFrom_79 : decode cX7_rowsFrom 79 = .ok (.getfield 9, 3) := by decide +kernel
theorem dX7_rowsFrom_82 : decode cX7_rowsFrom 82 = .ok (.sipush 152, 3) := by decide +kernel
theorem dX7_rowsFrom_85 : decode cX7_rowsFrom 85 = .ok (.iload_n 3, 1) := by decide +kernel
theorem dX7_rowsFrom_86 : decode cX7_rowsFrom 86 = .ok (.iadd, 1) := by decide +kernel
theorem dX7_rowsFrom_87 : decode cX7_rowsFrom 87 = .ok (.iconst 1, 1) := by decide +kernel
theorem dX7_rowsFrom_88 : decode cX7_rowsFrom 88 = .ok (.iastore, 1) := by decide +kernel
theorem dX7_rowsFrom_89 : decode cX7_rowsFrom 89 = .ok (.iload 4, 2) := by decide +kernel
theorem dX7_rowsFrom_91 : decode cX7_rowsFrom 91 = .ok (.ifCond .eq 5, 3) := by decide +kernel
theorem dX7_rowsFrom_94 : decode cX7_rowsFrom 94 = .ok (.iconst 1, 1) := by decide +kernel
theorem dX7_rowsFrom_95 : decode cX7_rowsFrom 95 = .ok (.ireturn, 1) := by decide +kernel
theorem dX7_rowsFrom_96 : decode cX7_rowsFrom 96 = .ok (.iinc 3 1, 3) := by decide +kernel
theorem dX7_rowsFrom_99 : decode cX7_rowsFrom 99 = .ok (.goto (-90), 3) := by decide +kernel
theorem dX7_rowsFrom_102 : decode cX7_rowsFrom 102 = .ok (.iconst 0, 1) := by decide +kernel
theorem dX7_rowsFrom_103 : decode cX7_rowsFrom 103 = .ok (.ireturn, 1) := by decide +kernel
set_option maxRecDepth 20000 in
theorem ggX7_order_X7_in : GoodIn wsX7_order wsX7_in := goodIn_r _ [5] (by decide +kernel) (by decide +kernel)
set_option maxRecDepth 20000 in
theorem gX7_order_X7_in : GoodIn wsX7_order (va_wsS RX7 41 yX7_in wsX7_in) := goodIn_app (goodIn_of _ (by decide +kernel)) ggX7_order_X7_in
set_option maxRecDepth 20000 in
theorem ggX7_order_X7_standingMany : GoodIn wsX7_order wsX7_standingMany := goodIn_r _ [9, 10, 77, 78, 79, 80, 81, 82, 83, 84, 85, 86, 87, 88, 89, 90, 91, 92, 93, 94, 95, 96, 97, 98, 99, 100, 101, 102, 103, 104, 105, 106, 107] (by decide +kernel) (by decide +kernel)
set_option maxRecDepth 20000 in
theorem gX7_order_X7_standingMany : GoodIn wsX7_order (wsV RX7 237 RX7 yX7_standingMany wsX7_standingMany) := goodIn_app (goodIn_of _ (by decide +kernel)) ggX7_order_X7_standingMany
set_option maxRecDepth 20000 in
theorem ggX7_order_X7_rowsFrom : GoodIn wsX7_order wsX7_rowsFrom := goodIn_r _ [14, 10, 15, 16, 1, 17, 18, 19, 4, 20, 21, 22, 23, 24, 25, 26, 27, 28, 29, 30, 31, 32, 33, 34, 35, 36, 37, 38, 39, 40, 41, 42, 43, 44, 45, 46, 47, 48, 49, 50, 51, 52, 53, 54, 55, 56, 57, 58, 59, 60, 61, 62, 63, 64, 65, 66, 67, 68, 69, 70, 71, 72, 2, 3, 5, 73, 74, 75, 76, 11, 12, 13, 77, 78, 79, 80, 81, 82, 83, 84, 85, 86, 87, 88, 89, 90, 91, 92, 93, 94, 95, 96, 97, 98, 99, 100, 101, 102, 103, 104, 105, 106, 107] (by decide +kernel) (by decide +kernel)
set_option maxRecDepth 20000 in
theorem gX7_order_X7_rowsFrom : GoodIn wsX7_order (wsV RX7 233 RX7 yX7_rowsFrom wsX7_rowsFrom) := goodIn_app (goodIn_of _ (by decide +kernel)) ggX7_order_X7_rowsFrom
theorem dX7_order_0 : decode cX7_order 0 = .ok (.iload_n 1, 1) := by decide +kernel
theorem dX7_order_1 : decode cX7_order 1 = .ok (.iconst 0, 1) := by decide +kernel
theorem dX7_order_2 : decode cX7_order 2 = .ok (.iconst 4, 1) := by decide +kernel
theorem dX7_order_3 : decode cX7_order 3 = .ok (.invokestatic 41, 3) := by decide +kernel
theorem dX7_order_6 : decode cX7_order 6 = .ok (.ifCond .ne 5, 3) := by decide +kernel
theorem dX7_order_9 : decode cX7_order 9 = .ok (.iconst (-1), 1) := by decide +kernel
theorem dX7_order_10 : decode cX7_order 10 = .ok (.ireturn, 1) := by decide +kernel
theorem dX7_order_11 : decode cX7_order 11 = .ok (.aload_n 0, 1) := by decide +kernel
theorem dX7_order_12 : decode cX7_order 12 = .ok (.invokevirtual 237, 3) := by decide +kernel
theorem dX7_order_15 : decode cX7_order 15 = .ok (.istore_n 2, 1) := by decide +kernel
theorem dX7_order_16 : decode cX7_order 16 = .ok (.iload_n 2, 1) := by decide +kernel
theorem dX7_order_17 : decode cX7_order 17 = .ok (.iconst 5, 1) := by decide +kernel
theorem dX7_order_18 : decode cX7_order 18 = .ok (.if_icmp .le 6, 3) := by decide +kernel
theorem dX7_order_21 : decode cX7_order 21 = .ok (.bipush (-9), 2) := by decide +kernel
