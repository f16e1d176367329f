theorem dX7_order_23 : decode cX7_order 23 = .ok (.ireturn, 1) := by decide +kernel
theorem dX7_order_24 : decode cX7_order 24 = .ok (.aload_n 0, 1) := by decide +kernel
theorem dX7_order_25 : decode cX7_order 25 = .ok (.iconst 0, 1) := by decide +kernel
theorem dX7_order_26 : decode cX7_order 26 = .ok (.iload_n 2, 1) := by decide +kernel
theorem dX7_order_27 : decode cX7_order 27 = .ok (.invokevirtual 233, 3) := by decide +kernel
theorem dX7_order_30 : decode cX7_order 30 = .ok (.ifCond .eq 17, 3) := by decide +kernel
theorem dX7_order_33 : decode cX7_order 33 = .ok (.iload_n 1, 1) := by decide +kernel
theorem dX7_order_34 : decode cX7_order 34 = .ok (.iload_n 2, 1) := by decide +kernel
theorem dX7_order_35 : decode cX7_order 35 = .ok (.if_icmp .ge 12, 3) := by decide +kernel
theorem dX7_order_38 : decode cX7_order 38 = .ok (.aload_n 0, 1) := by decide +kernel
theorem dX7_order_39 : decode cX7_order 39 = .ok (.getfield 28, 3) := by decide +kernel
theorem dX7_order_42 : decode cX7_order 42 = .ok (.iload_n 1, 1) := by decide +kernel
theorem dX7_order_43 : decode cX7_order 43 = .ok (.iaload, 1) := by decide +kernel
theorem dX7_order_44 : decode cX7_order 44 = .ok (.goto 5, 3) := by decide +kernel
theorem dX7_order_47 : decode cX7_order 47 = .ok (.bipush (-5), 2) := by decide +kernel
theorem dX7_order_49 : decode cX7_order 49 = .ok (.ireturn, 1) := by decide +kernel
set_option maxRecDepth 20000 in
theorem ggX7_hung_X7_isStanding : GoodIn wsX7_hung wsX7_isStanding := goodIn_r _ [7, 1, 68, 69, 70, 71, 72, 73, 74, 75, 76, 77, 78, 79, 80, 81, 82, 83, 84, 85, 86, 87, 88, 89, 90, 91, 92, 93, 94, 95, 96, 97, 98] (by decide +kernel) (by decide +kernel)
set_option maxRecDepth 20000 in
theorem gX7_hung_X7_isStanding : GoodIn wsX7_hung (wsV RX7 183 RX7 yX7_isStanding wsX7_isStanding) := goodIn_app (goodIn_of _ (by decide +kernel)) ggX7_hung_X7_isStanding
set_option maxRecDepth 20000 in
theorem ggX7_hung_X7_goesNow : GoodIn wsX7_hung wsX7_goesNow := goodIn_r _ [11, 12, 13, 14, 6, 15, 1, 16, 17, 18, 19, 20, 21, 22, 23, 24, 25, 26, 27, 28, 29, 30, 31, 32, 33, 34, 35, 36, 37, 38, 39, 40, 41, 42, 43, 44, 45, 46, 47, 48, 49, 50, 51, 52, 53, 54, 55, 56, 57, 2, 58, 59, 60, 61, 62, 63, 64, 65, 66, 67, 3, 4, 5, 7, 68, 69, 70, 71, 72, 73, 74, 75, 76, 77, 78, 79, 80, 81, 82, 83, 84, 85, 86, 87, 88, 89, 90, 91, 92, 93, 94, 95, 96, 97, 98] (by decide +kernel) (by decide +kernel)
set_option maxRecDepth 20000 in
theorem gX7_hung_X7_goesNow : GoodIn wsX7_hung (wsV RX7 208 RX7 yX7_goesNow wsX7_goesNow) := goodIn_app (goodIn_of _ (by decide +kernel)) ggX7_hung_X7_goesNow
theorem dX7_hung_0 : decode cX7_hung 0 = .ok (.iconst 0, 1) := by decide +kernel
theorem dX7_hung_1 : decode cX7_hung 1 = .ok (.istore_n 1, 1) := by decide +kernel
theorem dX7_hung_2 : decode cX7_hung 2 = .ok (.iconst 0, 1) := by decide +kernel
theorem dX7_hung_3 : decode cX7_hung 3 = .ok (.istore_n 2, 1) := by decide +kernel
theorem dX7_hung_4 : decode cX7_hung 4 = .ok (.iload_n 2, 1) := by decide +kernel
theorem dX7_hung_5 : decode cX7_hung 5 = .ok (.aload_n 0, 1) := by decide +kernel
theorem dX7_hung_6 : decode cX7_hung 6 = .ok (.getfield 9, 3) := by decide +kernel
theorem dX7_hung_9 : decode cX7_hung 9 = .ok (.iconst 0, 1) := by decide +kernel
theorem dX7_hung_10 : decode cX7_hung 10 = .ok (.iaload, 1) := by decide +kernel
theorem dX7_hung_11 : decode cX7_hung 11 = .ok (.if_icmp .ge 40, 3) := by decide +kernel
theorem dX7_hung_14 : decode cX7_hung 14 = .ok (.aload_n 0, 1) := by decide +kernel
theorem dX7_hung_15 : decode cX7_hung 15 = .ok (.iload_n 2, 1) := by decide +kernel
theorem dX7_hung_16 : decode cX7_hung 16 = .ok (.invokevirtual 183, 3) := by decide +kernel
theorem dX7_hung_19 : decode cX7_hung 19 = .ok (.ifCond .eq 26, 3) := by decide +kernel
theorem dX7_hung_22 : decode cX7_hung 22 = .ok (.aload_n 0, 1) := by decide +kernel
theorem dX7_hung_23 : decode cX7_hung 23 = .ok (.iload_n 2, 1) := by decide +kernel
theorem dX7_hung_24 : decode cX7_hung 24 = .ok (.iconst (-1), 1) := by decide +kernel
theorem dX7_hung_25 : decode cX7_hung 25 = .ok (.invokevirtual 208, 3) := by decide +kernel
theorem dX7_hung_28 : decode cX7_hung 28 = .ok (.iload_n 1, 1) := by decide +kernel
theorem dX7_hung_29 : decode cX7_hung 29 = .ok (.aload_n 0, 1) := by decide +kernel
theorem dX7_hung_30 : decode cX7_hung 30 = .ok (.getfield 193, 3) := by decide +kernel
theorem dX7_hung_33 : decode cX7_hung 33 = .ok (.bipush (-5), 2) := by decide +kernel
theorem dX7_hung_35 : decode cX7_hung 35 = .ok (.if_icmp .ne 7, 3) := by decide +kernel
theorem dX7_hung_38 : decode cX7_hung 38 = .ok (.iconst 0, 1) := by decide +kernel
theorem dX7_hung_39 : decode cX7_hung 39 = .ok (.goto 4, 3) := by decide +kernel
theorem dX7_hung_42 : decode cX7_hung 42 = .ok (.iconst 1, 1) := by decide +kernel
theorem dX7_hung_43 : decode cX7_hung 43 = .ok (.iadd, 1) := by decide +kernel
theorem dX7_hung_44 : decode cX7_hung 44 = .ok (.istore_n 1, 1) := by decide +kernel
theorem dX7_hung_45 : decode cX7_hung 45 = .ok (.iinc 2 1, 3) := by decide +kernel
theorem dX7_hung_48 : decode cX7_hung 48 = .ok (.goto (-44), 3) := by decide +kernel
theorem dX7_hung_51 : decode cX7_hung 51 = .ok (.iload_n 1, 1) := by decide +kernel
theorem dX7_hung_52 : decode cX7_hung 52 = .ok (.ireturn, 1) := by decide +kernel
set_option maxRecDepth 20000 in
theorem ggX7_blame_X7_isTree : GoodIn wsX7_blame wsX7_isTree := goodIn_r _ [7, 8, 9, 10, 6, 11, 61, 62, 63, 64, 65, 66, 67, 68, 69, 70, 71, 72, 73, 74, 75, 76, 77, 78, 79, 80, 81, 82, 83, 84, 85, 86, 87, 88, 89, 90, 91] (by decide +kernel) (by decide +kernel)
set_option maxRecDepth 20000 in
theorem gX7_blame_X7_isTree : GoodIn wsX7_blame (wsV RX7 138 RX7 yX7_isTree wsX7_isTree) := goodIn_app (goodIn_of _ (by decide +kernel)) ggX7_blame_X7_isTree
set_option maxRecDepth 20000 in
theorem ggX7_blame_X7_isWay : GoodIn wsX7_blame wsX7_isWay := goodIn_r _ [14, 9, 10, 6, 11] (by decide +kernel) (by decide +kernel)
set_option maxRecDepth 20000 in
theorem gX7_blame_X7_isWay : GoodIn wsX7_blame (va_wsS RX7 142 yX7_isWay wsX7_isWay) := goodIn_app (goodIn_of _ (by decide +kernel)) ggX7_blame_X7_isWay
set_option maxRecDepth 20000 in
theorem ggX7_blame_X7_isStanding : GoodIn wsX7_blame wsX7_isStanding := goodIn_r _ [18, 8, 61, 62, 63, 64, 65, 66, 67, 68, 69, 70, 71, 72, 73, 74, 75, 76, 77, 78, 79, 80, 81, 82, 83, 84, 85, 86, 87, 88, 89, 90, 91] (by decide +kernel) (by decide +kernel)
set_option maxRecDepth 20000 in
theorem gX7_blame_X7_isStanding : GoodIn wsX7_blame (wsV RX7 183 RX7 yX7_isStanding wsX7_isStanding) := goodIn_app (goodIn_of _ (by decide +kernel)) ggX7_blame_X7_isStanding
set_option maxRecDepth 20000 in
theorem ggX7_blame_X7_goesIn : GoodIn wsX7_blame wsX7_goesIn := goodIn_r _ [22, 8, 23, 24, 25, 26, 27, 28, 29, 2, 1, 30, 31, 6, 32, 33, 34, 35, 36, 37, 38, 39, 40, 41, 42, 43, 44, 45, 46, 47, 48, 49, 50, 51, 52, 53, 54, 55, 56, 61, 62, 63, 64, 65, 66, 67, 68, 69, 70, 71, 72, 73, 74, 75, 76, 77, 78, 79, 80, 81, 82, 83, 84, 85, 86, 87, 88, 89, 90, 91] (by decide +kernel) (by decide +kernel)
set_option maxRecDepth 20000 in
theorem gX7_blame_X7_goesIn : GoodIn wsX7_blame (wsV RX7 202 RX7 yX7_goesIn wsX7_goesIn) := goodIn_app (goodIn_of _ (by decide +kernel)) ggX7_blame_X7_goesIn
set_option maxRecDepth 20000 in
theorem ggX7_blame_X7_oftenOf : GoodIn wsX7_blame wsX7_oftenOf := goodIn_r _ [60, 8, 61, 62, 63, 64, 65, 66, 67, 68, 69, 70, 71, 72, 73, 74, 75, 76, 77, 78, 79, 80, 81, 82, 83, 84, 85, 86, 87, 88, 89, 90, 91] (by decide +kernel) (by decide +kernel)
set_option maxRecDepth 20000 in
theorem gX7_blame_X7_oftenOf : GoodIn wsX7_blame (wsV RX7 227 RX7 yX7_oftenOf wsX7_oftenOf) := goodIn_app (goodIn_of _ (by decide +kernel)) ggX7_blame_X7_oftenOf
theorem dX7_blame_0 : decode cX7_blame 0 = .ok (.aload_n 0, 1) := by decide +kernel
theorem dX7_blame_1 : decode cX7_blame 1 = .ok (.iload_n 1, 1) := by decide +kernel
theorem dX7_blame_2 : decode cX7_blame 2 = .ok (.invokevirtual 138, 3) := by decide +kernel
theorem dX7_blame_5 : decode cX7_blame 5 = .ok (.ifCond .eq 10, 3) := by decide +kernel
theorem dX7_blame_8 : decode cX7_blame 8 = .ok (.iload_n 2, 1) := by decide +kernel
theorem dX7_blame_9 : decode cX7_blame 9 = .ok (.invokestatic 142, 3) := by decide +kernel
theorem dX7_blame_12 : decode cX7_blame 12 = .ok (.ifCond .ne 5, 3) := by decide +kernel
theorem dX7_blame_15 : decode cX7_blame 15 = .ok (.iconst (-1), 1) := by decide +kernel
theorem dX7_blame_16 : decode cX7_blame 16 = .ok (.ireturn, 1) := by decide +kernel
theorem dX7_blame_17 : decode cX7_blame 17 = .ok (.aload_n 0, 1) := by decide +kernel
theorem dX7_blame_18 : decode cX7_blame 18 = .ok (.iload_n 1, 1) := by decide +kernel
theorem dX7_blame_19 : decode cX7_blame 19 = .ok (.invokevirtual 183, 3) := by decide +kernel
theorem dX7_blame_22 : decode cX7_blame 22 = .ok (.ifCond .ne 6, 3) := by decide +kernel
theorem dX7_blame_25 : decode cX7_blame 25 = .ok (.bipush (-3), 2) := by decide +kernel
theorem dX7_blame_27 : decode cX7_blame 27 = .ok (.ireturn, 1) := by decide +kernel
theorem dX7_blame_28 : decode cX7_blame 28 = .ok (.iconst 0, 1) := by decide +kernel
theorem dX7_blame_29 : decode cX7_blame 29 = .ok (.istore_n 3, 1) := by decide +kernel
theorem dX7_blame_30 : decode cX7_blame 30 = .ok (.iconst (-1), 1) := by decide +kernel
theorem dX7_blame_31 : decode cX7_blame 31 = .ok (.istore 4, 2) := by decide +kernel
theorem dX7_blame_33 : decode cX7_blame 33 = .ok (.iload 4, 2) := by decide +kernel
theorem dX7_blame_35 : decode cX7_blame 35 = .ok (.bipush 8, 2) := by decide +kernel
theorem dX7_blame_37 : decode cX7_blame 37 = .ok (.if_icmp .ge 46, 3) := by decide +kernel
theorem dX7_blame_40 : decode cX7_blame 40 = .ok (.aload_n 0, 1) := by decide +kernel
theorem dX7_blame_41 : decode cX7_blame 41 = .ok (.iload_n 1, 1) := by decide +kernel
theorem dX7_blame_42 : decode cX7_blame 42 = .ok (.iload 4, 2) := by decide +kernel
theorem dX7_blame_44 : decode cX7_blame 44 = .ok (.invokevirtual 202, 3) := by decide +kernel
theorem dX7_blame_47 : decode cX7_blame 47 = .ok (.iload_n 3, 1) := by decide +kernel
theorem dX7_blame_48 : decode cX7_blame 48 = .ok (.aload_n 0, 1) := by decide +kernel
theorem dX7_blame_49 : decode cX7_blame 49 = .ok (.getfield 180, 3) := by decide +kernel
theorem dX7_blame_52 : decode cX7_blame 52 = .ok (.iload_n 2, 1) := by decide +kernel
theorem dX7_blame_53 : decode cX7_blame 53 = .ok (.if_icmp .ne 21, 3) := by decide +kernel
theorem dX7_blame_56 : decode cX7_blame 56 = .ok (.aload_n 0, 1) := by decide +kernel
theorem dX7_blame_57 : decode cX7_blame 57 = .ok (.iload 4, 2) := by decide +kernel
theorem dX7_blame_59 : decode cX7_blame 59 = .ok (.invokevirtual 227, 3) := by decide +kernel
theorem dX7_blame_62 : decode cX7_blame 62 = .ok (.ifCond .le 12, 3) := by decide +kernel
theorem dX7_blame_65 : decode cX7_blame 65 = .ok (.iconst 1, 1) := by decide +kernel
theorem dX7_blame_66 : decode cX7_blame 66 = .ok (.aload_n 0, 1) := by decide +kernel
theorem dX7_blame_67 : decode cX7_blame 67 = .ok (.getfield 177, 3) := by decide +kernel
theorem dX7_blame_70 : decode cX7_blame 70 = .ok (.ishl, 1) := by decide +kernel
theorem dX7_blame_71 : decode cX7_blame 71 = .ok (.goto 4, 3) := by decide +kernel
theorem dX7_blame_74 : decode cX7_blame 74 = .ok (.iconst 0, 1) := by decide +kernel
theorem dX7_blame_75 : decode cX7_blame 75 = .ok (.ior, 1) := by decide +kernel
theorem dX7_blame_76 : decode cX7_blame 76 = .ok (.istore_n 3, 1) := by decide +kernel
theorem dX7_blame_77 : decode cX7_blame 77 = .ok (.iinc 4 1, 3) := by decide +kernel
theorem dX7_blame_80 : decode cX7_blame 80 = .ok (.goto (-47), 3) := by decide +kernel
theorem dX7_blame_83 : decode cX7_blame 83 = .ok (.iload_n 3, 1) := by decide +kernel
theorem dX7_blame_84 : decode cX7_blame 84 = .ok (.ireturn, 1) := by decide +kernel
set_option maxRecDepth 20000 in
theorem ggX7_knock_X7_isTree : GoodIn wsX7_knock wsX7_isTree := goodIn_r _ [7, 1, 8, 9, 6, 10, 54, 55, 56, 57, 58, 59, 60, 61, 62, 63, 64, 65, 66, 67, 68, 69, 70, 71, 72, 73, 74, 75, 76, 77, 78, 79, 80, 81, 82, 83, 84] (by decide +kernel) (by decide +kernel)
set_option maxRecDepth 20000 in
theorem gX7_knock_X7_isTree : GoodIn wsX7_knock (wsV RX7 138 RX7 yX7_isTree wsX7_isTree) := goodIn_app (goodIn_of _ (by decide +kernel)) ggX7_knock_X7_isTree
set_option maxRecDepth 20000 in
theorem ggX7_knock_X7_in : GoodIn wsX7_knock wsX7_in := goodIn_r _ [10] (by decide +kernel) (by decide +kernel)
set_option maxRecDepth 20000 in
theorem gX7_knock_X7_in : GoodIn wsX7_knock (va_wsS RX7 41 yX7_in wsX7_in) := goodIn_app (goodIn_of _ (by decide +kernel)) ggX7_knock_X7_in
set_option maxRecDepth 20000 in
theorem ggX7_knock_X7_isStanding : GoodIn wsX7_knock wsX7_isStanding := goodIn_r _ [14, 1, 54, 55, 56, 57, 58, 59, 60, 61, 62, 63, 64, 65, 66, 67, 68, 69, 70, 71, 72, 73, 74, 75, 76, 77, 78, 79, 80, 81, 82, 83, 84] (by decide +kernel) (by decide +kernel)
set_option maxRecDepth 20000 in
theorem gX7_knock_X7_isStanding : GoodIn wsX7_knock (wsV RX7 183 RX7 yX7_isStanding wsX7_isStanding) := goodIn_app (goodIn_of _ (by decide +kernel)) ggX7_knock_X7_isStanding
set_option maxRecDepth 20000 in
theorem ggX7_knock_X7_goesIn : GoodIn wsX7_knock wsX7_goesIn := goodIn_r _ [18, 1, 19, 20, 21, 22, 23, 24, 25, 2, 26, 27, 28, 6, 29, 30, 31, 32, 33, 34, 35, 36, 37, 38, 39, 40, 41, 42, 43, 44, 45, 46, 47, 48, 49, 50, 51, 52, 53, 54, 55, 56, 57, 58, 59, 60, 61, 62, 63, 64, 65, 66, 67, 68, 69, 70, 71, 72, 73, 74, 75, 76, 77, 78, 79, 80, 81, 82, 83, 84] (by decide +kernel) (by decide +kernel)
set_option maxRecDepth 20000 in
theorem gX7_knock_X7_goesIn : GoodIn wsX7_knock (wsV RX7 202 RX7 yX7_goesIn wsX7_goesIn) := goodIn_app (goodIn_of _ (by decide +kernel)) ggX7_knock_X7_goesIn
theorem dX7_knock_0 : decode cX7_knock 0 = .ok (.aload_n 0, 1) := by decide +kernel
theorem dX7_knock_1 : decode cX7_knock 1 = .ok (.iload_n 1, 1) := by decide +kernel
theorem dX7_knock_2 : decode cX7_knock 2 = .ok (.invokevirtual 138, 3) := by decide +kernel
theorem dX7_knock_5 : decode cX7_knock 5 = .ok (.ifCond .eq 12, 3) := by decide +kernel
theorem dX7_knock_8 : decode cX7_knock 8 = .ok (.iload_n 2, 1) := by decide +kernel
theorem dX7_knock_9 : decode cX7_knock 9 = .ok (.iconst 0, 1) := by decide +kernel
theorem dX7_knock_10 : decode cX7_knock 10 = .ok (.iconst 4, 1) := by decide +kernel
theorem dX7_knock_11 : decode cX7_knock 11 = .ok (.invokestatic 41, 3) := by decide +kernel
theorem dX7_knock_14 : decode cX7_knock 14 = .ok (.ifCond .ne 5, 3) := by decide +kernel
theorem dX7_knock_17 : decode cX7_knock 17 = .ok (.iconst (-1), 1) := by decide +kernel
theorem dX7_knock_18 : decode cX7_knock 18 = .ok (.ireturn, 1) := by decide +kernel
theorem dX7_knock_19 : decode cX7_knock 19 = .ok (.aload_n 0, 1) := by decide +kernel
theorem dX7_knock_20 : decode cX7_knock 20 = .ok (.iload_n 1, 1) := by decide +kernel
theorem dX7_knock_21 : decode cX7_knock 21 = .ok (.invokevirtual 183, 3) := by decide +kernel
theorem dX7_knock_24 : decode cX7_knock 24 = .ok (.ifCond .ne 6, 3) := by decide +kernel
theorem dX7_knock_27 : decode cX7_knock 27 = .ok (.bipush (-3), 2) := by decide +kernel
theorem dX7_knock_29 : decode cX7_knock 29 = .ok (.ireturn, 1) := by decide +kernel
theorem dX7_knock_30 : decode cX7_knock 30 = .ok (.aload_n 0, 1) := by decide +kernel
theorem dX7_knock_31 : decode cX7_knock 31 = .ok (.getfield 9, 3) := by decide +kernel
theorem dX7_knock_34 : decode cX7_knock 34 = .ok (.sipush 146, 3) := by decide +kernel
theorem dX7_knock_37 : decode cX7_knock 37 = .ok (.iload_n 1, 1) := by decide +kernel
theorem dX7_knock_38 : decode cX7_knock 38 = .ok (.iadd, 1) := by decide +kernel
theorem dX7_knock_39 : decode cX7_knock 39 = .ok (.iaload, 1) := by decide +kernel
theorem dX7_knock_40 : decode cX7_knock 40 = .ok (.istore_n 3, 1) := by decide +kernel
theorem dX7_knock_41 : decode cX7_knock 41 = .ok (.iconst 0, 1) := by decide +kernel
theorem dX7_knock_42 : decode cX7_knock 42 = .ok (.istore 4, 2) := by decide +kernel
theorem dX7_knock_44 : decode cX7_knock 44 = .ok (.iconst 0, 1) := by decide +kernel
theorem dX7_knock_45 : decode cX7_knock 45 = .ok (.istore 5, 2) := by decide +kernel
theorem dX7_knock_47 : decode cX7_knock 47 = .ok (.iload 5, 2) := by decide +kernel
theorem dX7_knock_49 : decode cX7_knock 49 = .ok (.bipush 10, 2) := by decide +kernel
theorem dX7_knock_51 : decode cX7_knock 51 = .ok (.if_icmp .ge 48, 3) := by decide +kernel
theorem dX7_knock_54 : decode cX7_knock 54 = .ok (.aload_n 0, 1) := by decide +kernel
theorem dX7_knock_55 : decode cX7_knock 55 = .ok (.getfield 9, 3) := by decide +kernel
theorem dX7_knock_58 : decode cX7_knock 58 = .ok (.sipush 146, 3) := by decide +kernel
theorem dX7_knock_61 : decode cX7_knock 61 = .ok (.iload_n 1, 1) := by decide +kernel
theorem dX7_knock_62 : decode cX7_knock 62 = .ok (.iadd, 1) := by decide +kernel
theorem dX7_knock_63 : decode cX7_knock 63 = .ok (.iload 5, 2) := by decide +kernel
theorem dX7_knock_65 : decode cX7_knock 65 = .ok (.iastore, 1) := by decide +kernel
theorem dX7_knock_66 : decode cX7_knock 66 = .ok (.aload_n 0, 1) := by decide +kernel
theorem dX7_knock_67 : decode cX7_knock 67 = .ok (.iload_n 1, 1) := by decide +kernel
theorem dX7_knock_68 : decode cX7_knock 68 = .ok (.iconst (-1), 1) := by decide +kernel
theorem dX7_knock_69 : decode cX7_knock 69 = .ok (.invokevirtual 202, 3) := by decide +kernel
theorem dX7_knock_72 : decode cX7_knock 72 = .ok (.iload 4, 2) := by decide +kernel
theorem dX7_knock_74 : decode cX7_knock 74 = .ok (.aload_n 0, 1) := by decide +kernel
theorem dX7_knock_75 : decode cX7_knock 75 = .ok (.getfield 177, 3) := by decide +kernel
theorem dX7_knock_78 : decode cX7_knock 78 = .ok (.iload_n 2, 1) := by decide +kernel
theorem dX7_knock_79 : decode cX7_knock 79 = .ok (.if_icmp .ne 10, 3) := by decide +kernel
theorem dX7_knock_82 : decode cX7_knock 82 = .ok (.iconst 1, 1) := by decide +kernel
theorem dX7_knock_83 : decode cX7_knock 83 = .ok (.iload 5, 2) := by decide +kernel
theorem dX7_knock_85 : decode cX7_knock 85 = .ok (.ishl, 1) := by decide +kernel
theorem dX7_knock_86 : decode cX7_knock 86 = .ok (.goto 4, 3) := by decide +kernel
theorem dX7_knock_89 : decode cX7_knock 89 = .ok (.iconst 0, 1) := by decide +kernel
theorem dX7_knock_90 : decode cX7_knock 90 = .ok (.ior, 1) := by decide +kernel
theorem dX7_knock_91 : decode cX7_knock 91 = .ok (.istore 4, 2) := by decide +kernel
theorem dX7_knock_93 : decode cX7_knock 93 = .ok (.iinc 5 1, 3) := by decide +kernel
theorem dX7_knock_96 : decode cX7_knock 96 = .ok (.goto (-49), 3) := by decide +kernel
theorem dX7_knock_99 : decode cX7_knock 99 = .ok (.aload_n 0, 1) := by decide +kernel
theorem dX7_knock_100 : decode cX7_knock 100 = .ok (.getfield 9, 3) := by decide +kernel
theorem dX7_knock_103 : decode cX7_knock 103 = .ok (.sipush 146, 3) := by decide +kernel
theorem dX7_knock_106 : decode cX7_knock 106 = .ok (.iload_n 1, 1) := by decide +kernel
theorem dX7_knock_107 : decode cX7_knock 107 = .ok (.iadd, 1) := by decide +kernel
theorem dX7_knock_108 : decode cX7_knock 108 = .ok (.iload_n 3, 1) := by decide +kernel
theorem dX7_knock_109 : decode cX7_knock 109 = .ok (.iastore, 1) := by decide +kernel
theorem dX7_knock_110 : decode cX7_knock 110 = .ok (.iload 4, 2) := by decide +kernel
theorem dX7_knock_112 : decode cX7_knock 112 = .ok (.ireturn, 1) := by decide +kernel
set_option maxRecDepth 20000 in
theorem ggX7_limbs_X7_isTree : GoodIn wsX7_limbs wsX7_isTree := goodIn_r _ [7, 1, 8, 9, 6, 10, 54, 55, 56, 57, 58, 59, 60, 61, 62, 63, 64, 65, 66, 67, 68, 69, 70, 71, 72, 73, 74, 75, 76, 77, 78, 79, 80, 81, 82, 83, 84] (by decide +kernel) (by decide +kernel)
set_option maxRecDepth 20000 in
theorem gX7_limbs_X7_isTree : GoodIn wsX7_limbs (wsV RX7 138 RX7 yX7_isTree wsX7_isTree) := goodIn_app (goodIn_of _ (by decide +kernel)) ggX7_limbs_X7_isTree
set_option maxRecDepth 20000 in
theorem ggX7_limbs_X7_isStanding : GoodIn wsX7_limbs wsX7_isStanding := goodIn_r _ [14, 1, 54, 55, 56, 57, 58, 59, 60, 61, 62, 63, 64, 65, 66, 67, 68, 69, 70, 71, 72, 73, 74, 75, 76, 77, 78, 79, 80, 81, 82, 83, 84] (by decide +kernel) (by decide +kernel)
set_option maxRecDepth 20000 in
theorem gX7_limbs_X7_isStanding : GoodIn wsX7_limbs (wsV RX7 183 RX7 yX7_isStanding wsX7_isStanding) := goodIn_app (goodIn_of _ (by decide +kernel)) ggX7_limbs_X7_isStanding
set_option maxRecDepth 20000 in
theorem ggX7_limbs_X7_goesIn : GoodIn wsX7_limbs wsX7_goesIn := goodIn_r _ [18, 1, 19, 20, 21, 22, 23, 24, 25, 2, 26, 27, 28, 6, 29, 30, 31, 32, 33, 34, 35, 36, 37, 38, 39, 40, 41, 42, 43, 44, 45, 46, 47, 48, 49, 50, 51, 52, 53, 54, 55, 56, 57, 58, 59, 60, 61, 62, 63, 64, 65, 66, 67, 68, 69, 70, 71, 72, 73, 74, 75, 76, 77, 78, 79, 80, 81, 82, 83, 84] (by decide +kernel) (by decide +kernel)
set_option maxRecDepth 20000 in
theorem gX7_limbs_X7_goesIn : GoodIn wsX7_limbs (wsV RX7 202 RX7 yX7_goesIn wsX7_goesIn) := goodIn_app (goodIn_of _ (by decide +kernel)) ggX7_limbs_X7_goesIn
theorem dX7_limbs_0 : decode cX7_limbs 0 = .ok (.aload_n 0, 1) := by decide +kernel
theorem dX7_limbs_1 : decode cX7_limbs 1 = .ok (.iload_n 1, 1) := by decide +kernel
theorem dX7_limbs_2 : decode cX7_limbs 2 = .ok (.invokevirtual 138, 3) := by decide +kernel
theorem dX7_limbs_5 : decode cX7_limbs 5 = .ok (.ifCond .ne 5, 3) := by decide +kernel
theorem dX7_limbs_8 : decode cX7_limbs 8 = .ok (.iconst (-1), 1) := by decide +kernel
theorem dX7_limbs_9 : decode cX7_limbs 9 = .ok (.ireturn, 1) := by decide +kernel
theorem dX7_limbs_10 : decode cX7_limbs 10 = .ok (.aload_n 0, 1) := by decide +kernel
theorem dX7_limbs_11 : decode cX7_limbs 11 = .ok (.iload_n 1, 1) := by decide +kernel
theorem dX7_limbs_12 : decode cX7_limbs 12 = .ok (.invokevirtual 183, 3) := by decide +kernel
theorem dX7_limbs_15 : decode cX7_limbs 15 = .ok (.ifCond .ne 6, 3) := by decide +kernel
theorem dX7_limbs_18 : decode cX7_limbs 18 = .ok (.bipush (-3), 2) := by decide +kernel
theorem dX7_limbs_20 : decode cX7_limbs 20 = .ok (.ireturn, 1) := by decide +kernel
theorem dX7_limbs_21 : decode cX7_limbs 21 = .ok (.aload_n 0, 1) := by decide +kernel
theorem dX7_limbs_22 : decode cX7_limbs 22 = .ok (.getfield 9, 3) := by decide +kernel
theorem dX7_limbs_25 : decode cX7_limbs 25 = .ok (.sipush 134, 3) := by decide +kernel
theorem dX7_limbs_28 : decode cX7_limbs 28 = .ok (.iload_n 1, 1) := by decide +kernel
theorem dX7_limbs_29 : decode cX7_limbs 29 = .ok (.iadd, 1) := by decide +kernel
theorem dX7_limbs_30 : decode cX7_limbs 30 = .ok (.iaload, 1) := by decide +kernel
theorem dX7_limbs_31 : decode cX7_limbs 31 = .ok (.istore_n 2, 1) := by decide +kernel
theorem dX7_limbs_32 : decode cX7_limbs 32 = .ok (.bipush (-5), 2) := by decide +kernel
theorem dX7_limbs_34 : decode cX7_limbs 34 = .ok (.istore_n 3, 1) := by decide +kernel
theorem dX7_limbs_35 : decode cX7_limbs 35 = .ok (.iconst 0, 1) := by decide +kernel
theorem dX7_limbs_36 : decode cX7_limbs 36 = .ok (.istore 4, 2) := by decide +kernel
theorem dX7_limbs_38 : decode cX7_limbs 38 = .ok (.iload 4, 2) := by decide +kernel
theorem dX7_limbs_40 : decode cX7_limbs 40 = .ok (.iload_n 2, 1) := by decide +kernel
theorem dX7_limbs_41 : decode cX7_limbs 41 = .ok (.if_icmp .gt 49, 3) := by decide +kernel
theorem dX7_limbs_44 : decode cX7_limbs 44 = .ok (.iload_n 3, 1) := by decide +kernel
theorem dX7_limbs_45 : decode cX7_limbs 45 = .ok (.bipush (-5), 2) := by decide +kernel
theorem dX7_limbs_47 : decode cX7_limbs 47 = .ok (.if_icmp .ne 43, 3) := by decide +kernel
theorem dX7_limbs_50 : decode cX7_limbs 50 = .ok (.aload_n 0, 1) := by decide +kernel
theorem dX7_limbs_51 : decode cX7_limbs 51 = .ok (.getfield 9, 3) := by decide +kernel
theorem dX7_limbs_54 : decode cX7_limbs 54 = .ok (.sipush 134, 3) := by decide +kernel
theorem dX7_limbs_57 : decode cX7_limbs 57 = .ok (.iload_n 1, 1) := by decide +kernel
theorem dX7_limbs_58 : decode cX7_limbs 58 = .ok (.iadd, 1) := by decide +kernel
theorem dX7_limbs_59 : decode cX7_limbs 59 = .ok (.iload_n 2, 1) := by decide +kernel
theorem dX7_limbs_60 : decode cX7_limbs 60 = .ok (.iload 4, 2) := by decide +kernel
theorem dX7_limbs_62 : decode cX7_limbs 62 = .ok (.isub, 1) := by decide +kernel
theorem dX7_limbs_63 : decode cX7_limbs 63 = .ok (.iastore, 1) := by decide +kernel
theorem dX7_limbs_64 : decode cX7_limbs 64 = .ok (.aload_n 0, 1) := by decide +kernel
theorem dX7_limbs_65 : decode cX7_limbs 65 = .ok (.iload_n 1, 1) := by decide +kernel
theorem dX7_limbs_66 : decode cX7_limbs 66 = .ok (.iconst (-1), 1) := by decide +kernel
theorem dX7_limbs_67 : decode cX7_limbs 67 = .ok (.invokevirtual 202, 3) := by decide +kernel
theorem dX7_limbs_70 : decode cX7_limbs 70 = .ok (.aload_n 0, 1) := by decide +kernel
theorem dX7_limbs_71 : decode cX7_limbs 71 = .ok (.getfield 177, 3) := by decide +kernel
theorem dX7_limbs_74 : decode cX7_limbs 74 = .ok (.ifCond .ne 8, 3) := by decide +kernel
theorem dX7_limbs_77 : decode cX7_limbs 77 = .ok (.iload 4, 2) := by decide +kernel
theorem dX7_limbs_79 : decode cX7_limbs 79 = .ok (.goto 4, 3) := by decide +kernel
theorem dX7_limbs_82 : decode cX7_limbs 82 = .ok (.iload_n 3, 1) := by decide +kernel
theorem dX7_limbs_83 : decode cX7_limbs 83 = .ok (.istore_n 3, 1) := by decide +kernel
theorem dX7_limbs_84 : decode cX7_limbs 84 = .ok (.iinc 4 1, 3) := by decide +kernel
theorem dX7_limbs_87 : decode cX7_limbs 87 = .ok (.goto (-49), 3) := by decide +kernel
theorem dX7_limbs_90 : decode cX7_limbs 90 = .ok (.aload_n 0, 1) := by decide +kernel
theorem dX7_limbs_91 : decode cX7_limbs 91 = .ok (.getfield 9, 3) := by decide +kernel
theorem dX7_limbs_94 : decode cX7_limbs 94 = .ok (.sipush 134, 3) := by decide +kernel
theorem dX7_limbs_97 : decode cX7_limbs 97 = .ok (.iload_n 1, 1) := by decide +kernel
theorem dX7_limbs_98 : decode cX7_limbs 98 = .ok (.iadd, 1) := by decide +kernel
theorem dX7_limbs_99 : decode cX7_limbs 99 = .ok (.iload_n 2, 1) := by decide +kernel
theorem dX7_limbs_100 : decode cX7_limbs 100 = .ok (.iastore, 1) := by decide +kernel
theorem dX7_limbs_101 : decode cX7_limbs 101 = .ok (.iload_n 3, 1) := by decide +kernel
theorem dX7_limbs_102 : decode cX7_limbs 102 = .ok (.ireturn, 1) := by decide +kernel
set_option maxRecDepth 20000 in
theorem ggX7_book_X7_isWay : GoodIn wsX7_book wsX7_isWay := goodIn_r _ [5, 6, 7, 4, 8] (by decide +kernel) (by decide +kernel)
set_option maxRecDepth 20000 in
theorem gX7_book_X7_isWay : GoodIn wsX7_book (va_wsS RX7 142 yX7_isWay wsX7_isWay) := goodIn_app (goodIn_of _ (by decide +kernel)) ggX7_book_X7_isWay
theorem dX7_book_0 : decode cX7_book 0 = .ok (.iload_n 1, 1) := by decide +kernel
theorem dX7_book_1 : decode cX7_book 1 = .ok (.iconst (-1), 1) := by decide +kernel
theorem dX7_book_2 : decode cX7_book 2 = .ok (.if_icmp .ne 12, 3) := by decide +kernel
theorem dX7_book_5 : decode cX7_book 5 = .ok (.aload_n 0, 1) := by decide +kernel
theorem dX7_book_6 : decode cX7_book 6 = .ok (.getfield 9, 3) := by decide +kernel
theorem dX7_book_9 : decode cX7_book 9 = .ok (.iconst 2, 1) := by decide +kernel
theorem dX7_book_10 : decode cX7_book 10 = .ok (.iconst 0, 1) := by decide +kernel
theorem dX7_book_11 : decode cX7_book 11 = .ok (.iastore, 1) := by decide +kernel
theorem dX7_book_12 : decode cX7_book 12 = .ok (.iconst 0, 1) := by decide +kernel
theorem dX7_book_13 : decode cX7_book 13 = .ok (.ireturn, 1) := by decide +kernel
theorem dX7_book_14 : decode cX7_book 14 = .ok (.iload_n 1, 1) := by decide +kernel
theorem dX7_book_15 : decode cX7_book 15 = .ok (.invokestatic 142, 3) := by decide +kernel
theorem dX7_book_18 : decode cX7_book 18 = .ok (.ifCond .ne 5, 3) := by decide +kernel
theorem dX7_book_21 : decode cX7_book 21 = .ok (.iconst (-1), 1) := by decide +kernel
theorem dX7_book_22 : decode cX7_book 22 = .ok (.ireturn, 1) := by decide +kernel
theorem dX7_book_23 : decode cX7_book 23 = .ok (.aload_n 0, 1) := by decide +kernel
theorem dX7_book_24 : decode cX7_book 24 = .ok (.getfield 9, 3) := by decide +kernel
theorem dX7_book_27 : decode cX7_book 27 = .ok (.iconst 2, 1) := by decide +kernel
theorem dX7_book_28 : decode cX7_book 28 = .ok (.iaload, 1) := by decide +kernel
theorem dX7_book_29 : decode cX7_book 29 = .ok (.bipush 6, 2) := by decide +kernel
theorem dX7_book_31 : decode cX7_book 31 = .ok (.if_icmp .ne 6, 3) := by decide +kernel
theorem dX7_book_34 : decode cX7_book 34 = .ok (.bipush (-4), 2) := by decide +kernel
theorem dX7_book_36 : decode cX7_book 36 = .ok (.ireturn, 1) := by decide +kernel
theorem dX7_book_37 : decode cX7_book 37 = .ok (.aload_n 0, 1) := by decide +kernel
theorem dX7_book_38 : decode cX7_book 38 = .ok (.getfield 9, 3) := by decide +kernel
theorem dX7_book_41 : decode cX7_book 41 = .ok (.sipush 194, 3) := by decide +kernel
theorem dX7_book_44 : decode cX7_book 44 = .ok (.aload_n 0, 1) := by decide +kernel
theorem dX7_book_45 : decode cX7_book 45 = .ok (.getfield 9, 3) := by decide +kernel
theorem dX7_book_48 : decode cX7_book 48 = .ok (.iconst 2, 1) := by decide +kernel
theorem dX7_book_49 : decode cX7_book 49 = .ok (.iaload, 1) := by decide +kernel
theorem dX7_book_50 : decode cX7_book 50 = .ok (.iadd, 1) := by decide +kernel
theorem dX7_book_51 : decode cX7_book 51 = .ok (.iload_n 1, 1) := by decide +kernel
theorem dX7_book_52 : decode cX7_book 52 = .ok (.iastore, 1) := by decide +kernel
theorem dX7_book_53 : decode cX7_book 53 = .ok (.aload_n 0, 1) := by decide +kernel
theorem dX7_book_54 : decode cX7_book 54 = .ok (.getfield 9, 3) := by decide +kernel
theorem dX7_book_57 : decode cX7_book 57 = .ok (.iconst 2, 1) := by decide +kernel
theorem dX7_book_58 : decode cX7_book 58 = .ok (.dup2, 1) := by decide +kernel
theorem dX7_book_59 : decode cX7_book 59 = .ok (.iaload, 1) := by decide +kernel
theorem dX7_book_60 : decode cX7_book 60 = .ok (.iconst 1, 1) := by decide +kernel
theorem dX7_book_61 : decode cX7_book 61 = .ok (.iadd, 1) := by decide +kernel
theorem dX7_book_62 : decode cX7_book 62 = .ok (.iastore, 1) := by decide +kernel
theorem dX7_book_63 : decode cX7_book 63 = .ok (.aload_n 0, 1) := by decide +kernel
theorem dX7_book_64 : decode cX7_book 64 = .ok (.getfield 9, 3) := by decide +kernel
theorem dX7_book_67 : decode cX7_book 67 = .ok (.iconst 2, 1) := by decide +kernel
theorem dX7_book_68 : decode cX7_book 68 = .ok (.iaload, 1) := by decide +kernel
theorem dX7_book_69 : decode cX7_book 69 = .ok (.ireturn, 1) := by decide +kernel
set_option maxRecDepth 20000 in
theorem ggX7_judged_X7_in : GoodIn wsX7_judged wsX7_in := goodIn_r _ [6] (by decide +kernel) (by decide +kernel)
set_option maxRecDepth 20000 in
theorem gX7_judged_X7_in : GoodIn wsX7_judged (va_wsS RX7 41 yX7_in wsX7_in) := goodIn_app (goodIn_of _ (by decide +kernel)) ggX7_judged_X7_in
set_option maxRecDepth 20000 in
theorem ggX7_judged_X7_isStanding : GoodIn wsX7_judged wsX7_isStanding := goodIn_r _ [10, 1, 50, 51, 52, 53, 54, 55, 56, 57, 58, 59, 60, 61, 62, 63, 64, 65, 66, 67, 68, 69, 70, 71, 72, 73, 74, 75, 76, 77, 78, 79, 80] (by decide +kernel) (by decide +kernel)
set_option maxRecDepth 20000 in
theorem gX7_judged_X7_isStanding : GoodIn wsX7_judged (wsV RX7 183 RX7 yX7_isStanding wsX7_isStanding) := goodIn_app (goodIn_of _ (by decide +kernel)) ggX7_judged_X7_isStanding
set_option maxRecDepth 20000 in
theorem ggX7_judged_X7_goesIn : GoodIn wsX7_judged wsX7_goesIn := goodIn_r _ [14, 1, 15, 16, 17, 18, 19, 20, 21, 22, 2, 23, 24, 5, 25, 26, 27, 28, 29, 30, 31, 32, 33, 34, 35, 36, 37, 38, 39, 40, 41, 42, 43, 44, 45, 46, 47, 48, 49, 50, 51, 52, 53, 54, 55, 56, 57, 58, 59, 60, 61, 62, 63, 64, 65, 66, 67, 68, 69, 70, 71, 72, 73, 74, 75, 76, 77, 78, 79, 80] (by decide +kernel) (by decide +kernel)
set_option maxRecDepth 20000 in
theorem gX7_judged_X7_goesIn : GoodIn wsX7_judged (wsV RX7 202 RX7 yX7_goesIn wsX7_goesIn) := goodIn_app (goodIn_of _ (by decide +kernel)) ggX7_judged_X7_goesIn
theorem dX7_judged_0 : decode cX7_judged 0 = .ok (.iload_n 1, 1) := by decide +kernel
theorem dX7_judged_1 : decode cX7_judged 1 = .ok (.iconst 0, 1) := by decide +kernel
theorem dX7_judged_2 : decode cX7_judged 2 = .ok (.iconst 1, 1) := by decide +kernel
theorem dX7_judged_3 : decode cX7_judged 3 = .ok (.invokestatic 41, 3) := by decide +kernel
theorem dX7_judged_6 : decode cX7_judged 6 = .ok (.ifCond .ne 5, 3) := by decide +kernel
theorem dX7_judged_9 : decode cX7_judged 9 = .ok (.iconst (-1), 1) := by decide +kernel
theorem dX7_judged_10 : decode cX7_judged 10 = .ok (.ireturn, 1) := by decide +kernel
theorem dX7_judged_11 : decode cX7_judged 11 = .ok (.iconst 0, 1) := by decide +kernel
theorem dX7_judged_12 : decode cX7_judged 12 = .ok (.istore_n 2, 1) := by decide +kernel
theorem dX7_judged_13 : decode cX7_judged 13 = .ok (.bipush (-5), 2) := by decide +kernel
theorem dX7_judged_15 : decode cX7_judged 15 = .ok (.istore_n 3, 1) := by decide +kernel
theorem dX7_judged_16 : decode cX7_judged 16 = .ok (.iconst 0, 1) := by decide +kernel
theorem dX7_judged_17 : decode cX7_judged 17 = .ok (.istore 4, 2) := by decide +kernel
theorem dX7_judged_19 : decode cX7_judged 19 = .ok (.iload 4, 2) := by decide +kernel
theorem dX7_judged_21 : decode cX7_judged 21 = .ok (.aload_n 0, 1) := by decide +kernel
theorem dX7_judged_22 : decode cX7_judged 22 = .ok (.getfield 9, 3) := by decide +kernel
theorem dX7_judged_25 : decode cX7_judged 25 = .ok (.iconst 0, 1) := by decide +kernel
theorem dX7_judged_26 : decode cX7_judged 26 = .ok (.iaload, 1) := by decide +kernel
theorem dX7_judged_27 : decode cX7_judged 27 = .ok (.if_icmp .ge 93, 3) := by decide +kernel
theorem dX7_judged_30 : decode cX7_judged 30 = .ok (.iload 4, 2) := by decide +kernel
theorem dX7_judged_32 : decode cX7_judged 32 = .ok (.aload_n 0, 1) := by decide +kernel
theorem dX7_judged_33 : decode cX7_judged 33 = .ok (.getfield 9, 3) := by decide +kernel
theorem dX7_judged_36 : decode cX7_judged 36 = .ok (.iconst 2, 1) := by decide +kernel
theorem dX7_judged_37 : decode cX7_judged 37 = .ok (.iaload, 1) := by decide +kernel
theorem dX7_judged_38 : decode cX7_judged 38 = .ok (.if_icmp .ge 82, 3) := by decide +kernel
theorem dX7_judged_41 : decode cX7_judged 41 = .ok (.aload_n 0, 1) := by decide +kernel
theorem dX7_judged_42 : decode cX7_judged 42 = .ok (.iload 4, 2) := by decide +kernel
theorem dX7_judged_44 : decode cX7_judged 44 = .ok (.invokevirtual 183, 3) := by decide +kernel
theorem dX7_judged_47 : decode cX7_judged 47 = .ok (.ifCond .eq 67, 3) := by decide +kernel
theorem dX7_judged_50 : decode cX7_judged 50 = .ok (.aload_n 0, 1) := by decide +kernel
theorem dX7_judged_51 : decode cX7_judged 51 = .ok (.iload 4, 2) := by decide +kernel
theorem dX7_judged_53 : decode cX7_judged 53 = .ok (.iconst (-1), 1) := by decide +kernel
theorem dX7_judged_54 : decode cX7_judged 54 = .ok (.invokevirtual 202, 3) := by decide +kernel
theorem dX7_judged_57 : decode cX7_judged 57 = .ok (.iload_n 2, 1) := by decide +kernel
theorem dX7_judged_58 : decode cX7_judged 58 = .ok (.aload_n 0, 1) := by decide +kernel
theorem dX7_judged_59 : decode cX7_judged 59 = .ok (.getfield 180, 3) := by decide +kernel
theorem dX7_judged_62 : decode cX7_judged 62 = .ok (.aload_n 0, 1) := by decide +kernel
theorem dX7_judged_63 : decode cX7_judged 63 = .ok (.getfield 9, 3) := by decide +kernel
theorem dX7_judged_66 : decode cX7_judged 66 = .ok (.sipush 194, 3) := by decide +kernel
theorem dX7_judged_69 : decode cX7_judged 69 = .ok (.iload 4, 2) := by decide +kernel
theorem dX7_judged_71 : decode cX7_judged 71 = .ok (.iadd, 1) := by decide +kernel
theorem dX7_judged_72 : decode cX7_judged 72 = .ok (.iaload, 1) := by decide +kernel
theorem dX7_judged_73 : decode cX7_judged 73 = .ok (.if_icmp .ne 7, 3) := by decide +kernel
theorem dX7_judged_76 : decode cX7_judged 76 = .ok (.iconst 1, 1) := by decide +kernel
theorem dX7_judged_77 : decode cX7_judged 77 = .ok (.goto 4, 3) := by decide +kernel
theorem dX7_judged_80 : decode cX7_judged 80 = .ok (.iconst 0, 1) := by decide +kernel
theorem dX7_judged_81 : decode cX7_judged 81 = .ok (.iadd, 1) := by decide +kernel
theorem dX7_judged_82 : decode cX7_judged 82 = .ok (.istore_n 2, 1) := by decide +kernel
theorem dX7_judged_83 : decode cX7_judged 83 = .ok (.aload_n 0, 1) := by decide +kernel
theorem dX7_judged_84 : decode cX7_judged 84 = .ok (.getfield 180, 3) := by decide +kernel
theorem dX7_judged_87 : decode cX7_judged 87 = .ok (.aload_n 0, 1) := by decide +kernel
theorem dX7_judged_88 : decode cX7_judged 88 = .ok (.getfield 9, 3) := by decide +kernel
theorem dX7_judged_91 : decode cX7_judged 91 = .ok (.sipush 194, 3) := by decide +kernel
theorem dX7_judged_94 : decode cX7_judged 94 = .ok (.iload 4, 2) := by decide +kernel
theorem dX7_judged_96 : decode cX7_judged 96 = .ok (.iadd, 1) := by decide +kernel
theorem dX7_judged_97 : decode cX7_judged 97 = .ok (.iaload, 1) := by decide +kernel
theorem dX7_judged_98 : decode cX7_judged 98 = .ok (.if_icmp .eq 14, 3) := by decide +kernel
theorem dX7_judged_101 : decode cX7_judged 101 = .ok (.iload_n 3, 1) := by decide +kernel
theorem dX7_judged_102 : decode cX7_judged 102 = .ok (.bipush (-5), 2) := by decide +kernel
theorem dX7_judged_104 : decode cX7_judged 104 = .ok (.if_icmp .ne 8, 3) := by decide +kernel
theorem dX7_judged_107 : decode cX7_judged 107 = .ok (.iload 4, 2) := by decide +kernel
theorem dX7_judged_109 : decode cX7_judged 109 = .ok (.goto 4, 3) := by decide +kernel
theorem dX7_judged_112 : decode cX7_judged 112 = .ok (.iload_n 3, 1) := by decide +kernel
theorem dX7_judged_113 : decode cX7_judged 113 = .ok (.istore_n 3, 1) := by decide +kernel
theorem dX7_judged_114 : decode cX7_judged 114 = .ok (.iinc 4 1, 3) := by decide +kernel
theorem dX7_judged_117 : decode cX7_judged 117 = .ok (.goto (-98), 3) := by decide +kernel
theorem dX7_judged_120 : decode cX7_judged 120 = .ok (.iload_n 1, 1) := by decide +kernel
theorem dX7_judged_121 : decode cX7_judged 121 = .ok (.ifCond .ne 7, 3) := by decide +kernel
theorem dX7_judged_124 : decode cX7_judged 124 = .ok (.iload_n 2, 1) := by decide +kernel
theorem dX7_judged_125 : decode cX7_judged 125 = .ok (.goto 4, 3) := by decide +kernel
theorem dX7_judged_128 : decode cX7_judged 128 = .ok (.iload_n 3, 1) := by decide +kernel
theorem dX7_judged_129 : decode cX7_judged 129 = .ok (.ireturn, 1) := by decide +kernel
theorem dX7_runs_0 : decode cX7_runs 0 = .ok (.aload_n 0, 1) := by decide +kernel
theorem dX7_runs_1 : decode cX7_runs 1 = .ok (.getfield 240, 3) := by decide +kernel
theorem dX7_runs_4 : decode cX7_runs 4 = .ok (.bipush 20, 2) := by decide +kernel
theorem dX7_runs_6 : decode cX7_runs 6 = .ok (.if_icmp .ge 13, 3) := by decide +kernel
theorem dX7_runs_9 : decode cX7_runs 9 = .ok (.aload_n 0, 1) := by decide +kernel
theorem dX7_runs_10 : decode cX7_runs 10 = .ok (.getfield 34, 3) := by decide +kernel
theorem dX7_runs_13 : decode cX7_runs 13 = .ok (.aload_n 0, 1) := by decide +kernel
theorem dX7_runs_14 : decode cX7_runs 14 = .ok (.getfield 240, 3) := by decide +kernel
theorem dX7_runs_17 : decode cX7_runs 17 = .ok (.iload_n 1, 1) := by decide +kernel
theorem dX7_runs_18 : decode cX7_runs 18 = .ok (.iastore, 1) := by decide +kernel
theorem dX7_runs_19 : decode cX7_runs 19 = .ok (.aload_n 0, 1) := by decide +kernel
theorem dX7_runs_20 : decode cX7_runs 20 = .ok (.dup, 1) := by decide +kernel
theorem dX7_runs_21 : decode cX7_runs 21 = .ok (.getfield 240, 3) := by decide +kernel
theorem dX7_runs_24 : decode cX7_runs 24 = .ok (.iconst 1, 1) := by decide +kernel
theorem dX7_runs_25 : decode cX7_runs 25 = .ok (.iadd, 1) := by decide +kernel
theorem dX7_runs_26 : decode cX7_runs 26 = .ok (.putfield 240, 3) := by decide +kernel
theorem dX7_runs_29 : decode cX7_runs 29 = .ok (.return_, 1) := by decide +kernel
theorem dX7_isUnder_0 : decode cX7_isUnder 0 = .ok (.iload_n 1, 1) := by decide +kernel
theorem dX7_isUnder_1 : decode cX7_isUnder 1 = .ok (.ifCond .eq 24, 3) := by decide +kernel
theorem dX7_isUnder_4 : decode cX7_isUnder 4 = .ok (.iload_n 1, 1) := by decide +kernel
theorem dX7_isUnder_5 : decode cX7_isUnder 5 = .ok (.iload_n 0, 1) := by decide +kernel
theorem dX7_isUnder_6 : decode cX7_isUnder 6 = .ok (.if_icmp .eq 19, 3) := by decide +kernel
theorem dX7_isUnder_9 : decode cX7_isUnder 9 = .ok (.iload_n 1, 1) := by decide +kernel
theorem dX7_isUnder_10 : decode cX7_isUnder 10 = .ok (.ifCond .le 19, 3) := by decide +kernel
theorem dX7_isUnder_13 : decode cX7_isUnder 13 = .ok (.iload_n 1, 1) := by decide +kernel
theorem dX7_isUnder_14 : decode cX7_isUnder 14 = .ok (.iconst 4, 1) := by decide +kernel
theorem dX7_isUnder_15 : decode cX7_isUnder 15 = .ok (.if_icmp .ge 14, 3) := by decide +kernel
theorem dX7_isUnder_18 : decode cX7_isUnder 18 = .ok (.iload_n 0, 1) := by decide +kernel
theorem dX7_isUnder_19 : decode cX7_isUnder 19 = .ok (.iload_n 1, 1) := by decide +kernel
theorem dX7_isUnder_20 : decode cX7_isUnder 20 = .ok (.iconst 3, 1) := by decide +kernel
theorem dX7_isUnder_21 : decode cX7_isUnder 21 = .ok (.iadd, 1) := by decide +kernel
theorem dX7_isUnder_22 : decode cX7_isUnder 22 = .ok (.if_icmp .ne 7, 3) := by decide +kernel
theorem dX7_isUnder_25 : decode cX7_isUnder 25 = .ok (.iconst 1, 1) := by decide +kernel
theorem dX7_isUnder_26 : decode cX7_isUnder 26 = .ok (.goto 4, 3) := by decide +kernel
theorem dX7_isUnder_29 : decode cX7_isUnder 29 = .ok (.iconst 0, 1) := by decide +kernel
theorem dX7_isUnder_30 : decode cX7_isUnder 30 = .ok (.ireturn, 1) := by decide +kernel
set_option maxRecDepth 20000 in
theorem ggX7_plainLeans_X7_runs : GoodIn wsX7_plainLeans wsX7_runs := goodIn_r _ [6, 7, 8, 9, 10, 11, 12, 13, 14, 15, 16, 17, 18, 19, 20, 21, 22, 23, 24, 25, 26, 27, 28, 29, 30, 31, 32, 33, 34, 35, 36, 37, 38, 39] (by decide +kernel) (by decide +kernel)
set_option maxRecDepth 20000 in
theorem gX7_plainLeans_X7_runs : GoodIn wsX7_plainLeans (wsV RX7 243 RX7 yX7_runs wsX7_runs) := goodIn_app (goodIn_of _ (by decide +kernel)) ggX7_plainLeans_X7_runs
theorem dX7_plainLeans_0 : decode cX7_plainLeans 0 = .ok (.aload_n 0, 1) := by decide +kernel
theorem dX7_plainLeans_1 : decode cX7_plainLeans 1 = .ok (.iconst 1, 1) := by decide +kernel
theorem dX7_plainLeans_2 : decode cX7_plainLeans 2 = .ok (.invokevirtual 243, 3) := by decide +kernel
theorem dX7_plainLeans_5 : decode cX7_plainLeans 5 = .ok (.iload_n 1, 1) := by decide +kernel
theorem dX7_plainLeans_6 : decode cX7_plainLeans 6 = .ok (.aload_n 0, 1) := by decide +kernel
theorem dX7_plainLeans_7 : decode cX7_plainLeans 7 = .ok (.getfield 246, 3) := by decide +kernel
theorem dX7_plainLeans_10 : decode cX7_plainLeans 10 = .ok (.iadd, 1) := by decide +kernel
theorem dX7_plainLeans_11 : decode cX7_plainLeans 11 = .ok (.ireturn, 1) := by decide +kernel
set_option maxRecDepth 20000 in
theorem ggX7_leansActs_X7_isUnder : GoodIn wsX7_leansActs wsX7_isUnder := goodIn_r _ [6] (by decide +kernel) (by decide +kernel)
set_option maxRecDepth 20000 in
theorem gX7_leansActs_X7_isUnder : GoodIn wsX7_leansActs (va_wsS RX7 252 yX7_isUnder wsX7_isUnder) := goodIn_app (goodIn_of _ (by decide +kernel)) ggX7_leansActs_X7_isUnder
set_option maxRecDepth 20000 in
theorem ggX7_leansActs_X7_runs : GoodIn wsX7_leansActs wsX7_runs := goodIn_r _ [10, 11, 12, 17, 18, 19, 20, 21, 22, 23, 24, 25, 26, 27, 28, 29, 30, 31, 32, 33, 34, 35, 36, 37, 38, 39, 40, 41, 42, 43, 44, 45, 46, 47] (by decide +kernel) (by decide +kernel)
set_option maxRecDepth 20000 in
theorem gX7_leansActs_X7_runs : GoodIn wsX7_leansActs (wsV RX7 243 RX7 yX7_runs wsX7_runs) := goodIn_app (goodIn_of _ (by decide +kernel)) ggX7_leansActs_X7_runs
set_option maxRecDepth 20000 in
theorem ggX7_leansActs_X7_plainLeans : GoodIn wsX7_leansActs wsX7_plainLeans := goodIn_r _ [16, 2, 7, 8, 9, 5, 10, 11, 12, 17, 18, 19, 20, 21, 22, 23, 24, 25, 26, 27, 28, 29, 30, 31, 32, 33, 34, 35, 36, 37, 38, 39, 40, 41, 42, 43, 44, 45, 46, 47] (by decide +kernel) (by decide +kernel)
set_option maxRecDepth 20000 in
theorem gX7_leansActs_X7_plainLeans : GoodIn wsX7_leansActs (wsV RX7 255 RX7 yX7_plainLeans wsX7_plainLeans) := goodIn_app (goodIn_of _ (by decide +kernel)) ggX7_leansActs_X7_plainLeans
theorem dX7_leansActs_0 : decode cX7_leansActs 0 = .ok (.aload_n 0, 1) := by decide +kernel
theorem dX7_leansActs_1 : decode cX7_leansActs 1 = .ok (.getfield 249, 3) := by decide +kernel
theorem dX7_leansActs_4 : decode cX7_leansActs 4 = .ok (.iconst 1, 1) := by decide +kernel
theorem dX7_leansActs_5 : decode cX7_leansActs 5 = .ok (.invokestatic 252, 3) := by decide +kernel
theorem dX7_leansActs_8 : decode cX7_leansActs 8 = .ok (.ifCond .eq 17, 3) := by decide +kernel
theorem dX7_leansActs_11 : decode cX7_leansActs 11 = .ok (.aload_n 0, 1) := by decide +kernel
theorem dX7_leansActs_12 : decode cX7_leansActs 12 = .ok (.bipush 11, 2) := by decide +kernel
theorem dX7_leansActs_14 : decode cX7_leansActs 14 = .ok (.invokevirtual 243, 3) := by decide +kernel
theorem dX7_leansActs_17 : decode cX7_leansActs 17 = .ok (.aload_n 0, 1) := by decide +kernel
theorem dX7_leansActs_18 : decode cX7_leansActs 18 = .ok (.iload_n 1, 1) := by decide +kernel
theorem dX7_leansActs_19 : decode cX7_leansActs 19 = .ok (.iconst 3, 1) := by decide +kernel
theorem dX7_leansActs_20 : decode cX7_leansActs 20 = .ok (.imul, 1) := by decide +kernel
theorem dX7_leansActs_21 : decode cX7_leansActs 21 = .ok (.invokevirtual 255, 3) := by decide +kernel
theorem dX7_leansActs_24 : decode cX7_leansActs 24 = .ok (.ireturn, 1) := by decide +kernel
theorem dX7_leansActs_25 : decode cX7_leansActs 25 = .ok (.aload_n 0, 1) := by decide +kernel
theorem dX7_leansActs_26 : decode cX7_leansActs 26 = .ok (.getfield 249, 3) := by decide +kernel
theorem dX7_leansActs_29 : decode cX7_leansActs 29 = .ok (.iconst 5, 1) := by decide +kernel
theorem dX7_leansActs_30 : decode cX7_leansActs 30 = .ok (.if_icmp .ne 20, 3) := by decide +kernel
theorem dX7_leansActs_33 : decode cX7_leansActs 33 = .ok (.aload_n 0, 1) := by decide +kernel
theorem dX7_leansActs_34 : decode cX7_leansActs 34 = .ok (.bipush 51, 2) := by decide +kernel
theorem dX7_leansActs_36 : decode cX7_leansActs 36 = .ok (.invokevirtual 243, 3) := by decide +kernel
theorem dX7_leansActs_39 : decode cX7_leansActs 39 = .ok (.aload_n 0, 1) := by decide +kernel
theorem dX7_leansActs_40 : decode cX7_leansActs 40 = .ok (.iload_n 1, 1) := by decide +kernel
theorem dX7_leansActs_41 : decode cX7_leansActs 41 = .ok (.invokevirtual 255, 3) := by decide +kernel
theorem dX7_leansActs_44 : decode cX7_leansActs 44 = .ok (.aload_n 0, 1) := by decide +kernel
theorem dX7_leansActs_45 : decode cX7_leansActs 45 = .ok (.getfield 246, 3) := by decide +kernel
theorem dX7_leansActs_48 : decode cX7_leansActs 48 = .ok (.ixor, 1) := by decide +kernel
theorem dX7_leansActs_49 : decode cX7_leansActs 49 = .ok (.ireturn, 1) := by decide +kernel
theorem dX7_leansActs_50 : decode cX7_leansActs 50 = .ok (.aload_n 0, 1) := by decide +kernel
theorem dX7_leansActs_51 : decode cX7_leansActs 51 = .ok (.iload_n 1, 1) := by decide +kernel
theorem dX7_leansActs_52 : decode cX7_leansActs 52 = .ok (.invokevirtual 255, 3) := by decide +kernel
theorem dX7_leansActs_55 : decode cX7_leansActs 55 = .ok (.ireturn, 1) := by decide +kernel
set_option maxRecDepth 20000 in
theorem ggX7_plainHolds_X7_runs : GoodIn wsX7_plainHolds wsX7_runs := goodIn_r _ [6, 7, 8, 22, 23, 24, 25, 26, 27, 28, 29, 30, 31, 32, 33, 34, 35, 36, 37, 38, 39, 40, 41, 42, 43, 44, 45, 46, 47, 48, 49, 50, 51, 52] (by decide +kernel) (by decide +kernel)
set_option maxRecDepth 20000 in
theorem gX7_plainHolds_X7_runs : GoodIn wsX7_plainHolds (wsV RX7 243 RX7 yX7_runs wsX7_runs) := goodIn_app (goodIn_of _ (by decide +kernel)) ggX7_plainHolds_X7_runs
set_option maxRecDepth 20000 in
theorem ggX7_plainHolds_X7_leansActs : GoodIn wsX7_plainHolds wsX7_leansActs := goodIn_r _ [12, 13, 14, 15, 16, 5, 17, 2, 3, 4, 6, 7, 8, 18, 19, 20, 21, 22, 23, 24, 25, 26, 27, 28, 29, 30, 31, 32, 33, 34, 35, 36, 37, 38, 39, 40, 41, 42, 43, 44, 45, 46, 47, 48, 49, 50, 51, 52] (by decide +kernel) (by decide +kernel)
set_option maxRecDepth 20000 in
theorem gX7_plainHolds_X7_leansActs : GoodIn wsX7_plainHolds (wsV RX7 258 RX7 yX7_leansActs wsX7_leansActs) := goodIn_app (goodIn_of _ (by decide +kernel)) ggX7_plainHolds_X7_leansActs
theorem dX7_plainHolds_0 : decode cX7_plainHolds 0 = .ok (.aload_n 0, 1) := by decide +kernel
theorem dX7_plainHolds_1 : decode cX7_plainHolds 1 = .ok (.iconst 2, 1) := by decide +kernel
theorem dX7_plainHolds_2 : decode cX7_plainHolds 2 = .ok (.invokevirtual 243, 3) := by decide +kernel
theorem dX7_plainHolds_5 : decode cX7_plainHolds 5 = .ok (.aload_n 0, 1) := by decide +kernel
theorem dX7_plainHolds_6 : decode cX7_plainHolds 6 = .ok (.iload_n 1, 1) := by decide +kernel
theorem dX7_plainHolds_7 : decode cX7_plainHolds 7 = .ok (.invokevirtual 258, 3) := by decide +kernel
theorem dX7_plainHolds_10 : decode cX7_plainHolds 10 = .ok (.aload_n 0, 1) := by decide +kernel
theorem dX7_plainHolds_11 : decode cX7_plainHolds 11 = .ok (.getfield 261, 3) := by decide +kernel
theorem dX7_plainHolds_14 : decode cX7_plainHolds 14 = .ok (.isub, 1) := by decide +kernel
theorem dX7_plainHolds_15 : decode cX7_plainHolds 15 = .ok (.ireturn, 1) := by decide +kernel
set_option maxRecDepth 20000 in
theorem ggX7_holdsActs_X7_isUnder : GoodIn wsX7_holdsActs wsX7_isUnder := goodIn_r _ [6] (by decide +kernel) (by decide +kernel)
set_option maxRecDepth 20000 in
theorem gX7_holdsActs_X7_isUnder : GoodIn wsX7_holdsActs (va_wsS RX7 252 yX7_isUnder wsX7_isUnder) := goodIn_app (goodIn_of _ (by decide +kernel)) ggX7_holdsActs_X7_isUnder
set_option maxRecDepth 20000 in
theorem ggX7_holdsActs_X7_runs : GoodIn wsX7_holdsActs wsX7_runs := goodIn_r _ [10, 11, 12, 26, 27, 28, 29, 30, 31, 32, 33, 34, 35, 36, 37, 38, 39, 40, 41, 42, 43, 44, 45, 46, 47, 48, 49, 50, 51, 52, 53, 54, 55, 56] (by decide +kernel) (by decide +kernel)
set_option maxRecDepth 20000 in
theorem gX7_holdsActs_X7_runs : GoodIn wsX7_holdsActs (wsV RX7 243 RX7 yX7_runs wsX7_runs) := goodIn_app (goodIn_of _ (by decide +kernel)) ggX7_holdsActs_X7_runs
set_option maxRecDepth 20000 in
theorem ggX7_holdsActs_X7_plainHolds : GoodIn wsX7_holdsActs wsX7_plainHolds := goodIn_r _ [16, 2, 7, 8, 9, 5, 10, 11, 12, 17, 18, 19, 20, 1, 21, 3, 4, 6, 22, 23, 24, 25, 26, 27, 28, 29, 30, 31, 32, 33, 34, 35, 36, 37, 38, 39, 40, 41, 42, 43, 44, 45, 46, 47, 48, 49, 50, 51, 52, 53, 54, 55, 56] (by decide +kernel) (by decide +kernel)
set_option maxRecDepth 20000 in
theorem gX7_holdsActs_X7_plainHolds : GoodIn wsX7_holdsActs (wsV RX7 264 RX7 yX7_plainHolds wsX7_plainHolds) := goodIn_app (goodIn_of _ (by decide +kernel)) ggX7_holdsActs_X7_plainHolds
theorem dX7_holdsActs_0 : decode cX7_holdsActs 0 = .ok (.aload_n 0, 1) := by decide +kernel
theorem dX7_holdsActs_1 : decode cX7_holdsActs 1 = .ok (.getfield 249, 3) := by decide +kernel
theorem dX7_holdsActs_4 : decode cX7_holdsActs 4 = .ok (.iconst 2, 1) := by decide +kernel
theorem dX7_holdsActs_5 : decode cX7_holdsActs 5 = .ok (.invokestatic 252, 3) := by decide +kernel
theorem dX7_holdsActs_8 : decode cX7_holdsActs 8 = .ok (.ifCond .eq 16, 3) := by decide +kernel
theorem dX7_holdsActs_11 : decode cX7_holdsActs 11 = .ok (.aload_n 0, 1) := by decide +kernel
theorem dX7_holdsActs_12 : decode cX7_holdsActs 12 = .ok (.bipush 21, 2) := by decide +kernel
theorem dX7_holdsActs_14 : decode cX7_holdsActs 14 = .ok (.invokevirtual 243, 3) := by decide +kernel
theorem dX7_holdsActs_17 : decode cX7_holdsActs 17 = .ok (.aload_n 0, 1) := by decide +kernel
theorem dX7_holdsActs_18 : decode cX7_holdsActs 18 = .ok (.iload_n 1, 1) := by decide +kernel
theorem dX7_holdsActs_19 : decode cX7_holdsActs 19 = .ok (.invokevirtual 264, 3) := by decide +kernel
theorem dX7_holdsActs_22 : decode cX7_holdsActs 22 = .ok (.ineg, 1) := by decide +kernel
theorem dX7_holdsActs_23 : decode cX7_holdsActs 23 = .ok (.ireturn, 1) := by decide +kernel
theorem dX7_holdsActs_24 : decode cX7_holdsActs 24 = .ok (.aload_n 0, 1) := by decide +kernel
theorem dX7_holdsActs_25 : decode cX7_holdsActs 25 = .ok (.getfield 249, 3) := by decide +kernel
theorem dX7_holdsActs_28 : decode cX7_holdsActs 28 = .ok (.bipush 6, 2) := by decide +kernel
theorem dX7_holdsActs_30 : decode cX7_holdsActs 30 = .ok (.if_icmp .ne 20, 3) := by decide +kernel
theorem dX7_holdsActs_33 : decode cX7_holdsActs 33 = .ok (.aload_n 0, 1) := by decide +kernel
theorem dX7_holdsActs_34 : decode cX7_holdsActs 34 = .ok (.bipush 61, 2) := by decide +kernel
theorem dX7_holdsActs_36 : decode cX7_holdsActs 36 = .ok (.invokevirtual 243, 3) := by decide +kernel
theorem dX7_holdsActs_39 : decode cX7_holdsActs 39 = .ok (.aload_n 0, 1) := by decide +kernel
theorem dX7_holdsActs_40 : decode cX7_holdsActs 40 = .ok (.iload_n 1, 1) := by decide +kernel
theorem dX7_holdsActs_41 : decode cX7_holdsActs 41 = .ok (.invokevirtual 264, 3) := by decide +kernel
theorem dX7_holdsActs_44 : decode cX7_holdsActs 44 = .ok (.aload_n 0, 1) := by decide +kernel
theorem dX7_holdsActs_45 : decode cX7_holdsActs 45 = .ok (.getfield 261, 3) := by decide +kernel
theorem dX7_holdsActs_48 : decode cX7_holdsActs 48 = .ok (.iadd, 1) := by decide +kernel
theorem dX7_holdsActs_49 : decode cX7_holdsActs 49 = .ok (.ireturn, 1) := by decide +kernel
theorem dX7_holdsActs_50 : decode cX7_holdsActs 50 = .ok (.aload_n 0, 1) := by decide +kernel
theorem dX7_holdsActs_51 : decode cX7_holdsActs 51 = .ok (.iload_n 1, 1) := by decide +kernel
theorem dX7_holdsActs_52 : decode cX7_holdsActs 52 = .ok (.invokevirtual 264, 3) := by decide +kernel
theorem dX7_holdsActs_55 : decode cX7_holdsActs 55 = .ok (.ireturn, 1) := by decide +kernel
set_option maxRecDepth 20000 in
theorem ggX7_plainTells_X7_runs : GoodIn wsX7_plainTells wsX7_runs := goodIn_r _ [5, 6, 7, 30, 31, 32, 33, 34, 35, 36, 37, 38, 39, 40, 41, 42, 43, 44, 45, 46, 47, 48, 49, 50, 51, 52, 53, 54, 55, 56, 57, 58, 59, 60] (by decide +kernel) (by decide +kernel)
set_option maxRecDepth 20000 in
theorem gX7_plainTells_X7_runs : GoodIn wsX7_plainTells (wsV RX7 243 RX7 yX7_runs wsX7_runs) := goodIn_app (goodIn_of _ (by decide +kernel)) ggX7_plainTells_X7_runs
set_option maxRecDepth 20000 in
theorem ggX7_plainTells_X7_holdsActs : GoodIn wsX7_plainTells wsX7_holdsActs := goodIn_r _ [11, 12, 13, 14, 15, 4, 16, 1, 2, 3, 5, 6, 7, 17, 18, 19, 20, 21, 22, 23, 24, 25, 26, 27, 28, 29, 30, 31, 32, 33, 34, 35, 36, 37, 38, 39, 40, 41, 42, 43, 44, 45, 46, 47, 48, 49, 50, 51, 52, 53, 54, 55, 56, 57, 58, 59, 60] (by decide +kernel) (by decide +kernel)
set_option maxRecDepth 20000 in
theorem gX7_plainTells_X7_holdsActs : GoodIn wsX7_plainTells (wsV RX7 267 RX7 yX7_holdsActs wsX7_holdsActs) := goodIn_app (goodIn_of _ (by decide +kernel)) ggX7_plainTells_X7_holdsActs
theorem dX7_plainTells_0 : decode cX7_plainTells 0 = .ok (.aload_n 0, 1) := by decide +kernel
theorem dX7_plainTells_1 : decode cX7_plainTells 1 = .ok (.iconst 3, 1) := by decide +kernel
theorem dX7_plainTells_2 : decode cX7_plainTells 2 = .ok (.invokevirtual 243, 3) := by decide +kernel
theorem dX7_plainTells_5 : decode cX7_plainTells 5 = .ok (.aload_n 0, 1) := by decide +kernel
theorem dX7_plainTells_6 : decode cX7_plainTells 6 = .ok (.iload_n 1, 1) := by decide +kernel
theorem dX7_plainTells_7 : decode cX7_plainTells 7 = .ok (.invokevirtual 267, 3) := by decide +kernel
theorem dX7_plainTells_10 : decode cX7_plainTells 10 = .ok (.iconst 2, 1) := by decide +kernel
theorem dX7_plainTells_11 : decode cX7_plainTells 11 = .ok (.imul, 1) := by decide +kernel
theorem dX7_plainTells_12 : decode cX7_plainTells 12 = .ok (.ireturn, 1) := by decide +kernel
set_option maxRecDepth 20000 in
theorem ggX7_tellsActs_X7_isUnder : GoodIn wsX7_tellsActs wsX7_isUnder := goodIn_r _ [5] (by decide +kernel) (by decide +kernel)
set_option maxRecDepth 20000 in
theorem gX7_tellsActs_X7_isUnder : GoodIn wsX7_tellsActs (va_wsS RX7 252 yX7_isUnder wsX7_isUnder) := goodIn_app (goodIn_of _ (by decide +kernel)) ggX7_tellsActs_X7_isUnder
set_option maxRecDepth 20000 in
theorem ggX7_tellsActs_X7_runs : GoodIn wsX7_tellsActs wsX7_runs := goodIn_r _ [9, 10, 11, 34, 35, 36, 37, 38, 39, 40, 41, 42, 43, 44, 45, 46, 47, 48, 49, 50, 51, 52, 53, 54, 55, 56, 57, 58, 59, 60, 61, 62, 63, 64] (by decide +kernel) (by decide +kernel)
set_option maxRecDepth 20000 in
theorem gX7_tellsActs_X7_runs : GoodIn wsX7_tellsActs (wsV RX7 243 RX7 yX7_runs wsX7_runs) := goodIn_app (goodIn_of _ (by decide +kernel)) ggX7_tellsActs_X7_runs
set_option maxRecDepth 20000 in
theorem ggX7_tellsActs_X7_plainTells : GoodIn wsX7_tellsActs wsX7_plainTells := goodIn_r _ [15, 6, 7, 8, 4, 9, 10, 11, 16, 17, 18, 19, 1, 20, 2, 3, 5, 21, 22, 23, 24, 25, 26, 27, 28, 29, 30, 31, 32, 33, 34, 35, 36, 37, 38, 39, 40, 41, 42, 43, 44, 45, 46, 47, 48, 49, 50, 51, 52, 53, 54, 55, 56, 57, 58, 59, 60, 61, 62, 63, 64] (by decide +kernel) (by decide +kernel)
set_option maxRecDepth 20000 in
theorem gX7_tellsActs_X7_plainTells : GoodIn wsX7_tellsActs (wsV RX7 270 RX7 yX7_plainTells wsX7_plainTells) := goodIn_app (goodIn_of _ (by decide +kernel)) ggX7_tellsActs_X7_plainTells
set_option maxRecDepth 20000 in
theorem ggX7_tellsActs_X7_leansActs : GoodIn wsX7_tellsActs wsX7_leansActs := goodIn_r _ [28, 1, 29, 2, 3, 4, 5, 6, 7, 8, 9, 10, 11, 30, 31, 32, 33, 34, 35, 36, 37, 38, 39, 40, 41, 42, 43, 44, 45, 46, 47, 48, 49, 50, 51, 52, 53, 54, 55, 56, 57, 58, 59, 60, 61, 62, 63, 64] (by decide +kernel) (by decide +kernel)
set_option maxRecDepth 20000 in
theorem gX7_tellsActs_X7_leansActs : GoodIn wsX7_tellsActs (wsV RX7 258 RX7 yX7_leansActs wsX7_leansActs) := goodIn_app (goodIn_of _ (by decide +kernel)) ggX7_tellsActs_X7_leansActs
theorem dX7_tellsActs_0 : decode cX7_tellsActs 0 = .ok (.aload_n 0, 1) := by decide +kernel
theorem dX7_tellsActs_1 : decode cX7_tellsActs 1 = .ok (.getfield 249, 3) := by decide +kernel
theorem dX7_tellsActs_4 : decode cX7_tellsActs 4 = .ok (.iconst 3, 1) := by decide +kernel
theorem dX7_tellsActs_5 : decode cX7_tellsActs 5 = .ok (.invokestatic 252, 3) := by decide +kernel
theorem dX7_tellsActs_8 : decode cX7_tellsActs 8 = .ok (.ifCond .eq 18, 3) := by decide +kernel
theorem dX7_tellsActs_11 : decode cX7_tellsActs 11 = .ok (.aload_n 0, 1) := by decide +kernel
theorem dX7_tellsActs_12 : decode cX7_tellsActs 12 = .ok (.bipush 31, 2) := by decide +kernel
theorem dX7_tellsActs_14 : decode cX7_tellsActs 14 = .ok (.invokevirtual 243, 3) := by decide +kernel
theorem dX7_tellsActs_17 : decode cX7_tellsActs 17 = .ok (.aload_n 0, 1) := by decide +kernel
theorem dX7_tellsActs_18 : decode cX7_tellsActs 18 = .ok (.iload_n 1, 1) := by decide +kernel
theorem dX7_tellsActs_19 : decode cX7_tellsActs 19 = .ok (.invokevirtual 270, 3) := by decide +kernel
theorem dX7_tellsActs_22 : decode cX7_tellsActs 22 = .ok (.bipush 7, 2) := by decide +kernel
theorem dX7_tellsActs_24 : decode cX7_tellsActs 24 = .ok (.ixor, 1) := by decide +kernel
theorem dX7_tellsActs_25 : decode cX7_tellsActs 25 = .ok (.ireturn, 1) := by decide +kernel
theorem dX7_tellsActs_26 : decode cX7_tellsActs 26 = .ok (.aload_n 0, 1) := by decide +kernel
theorem dX7_tellsActs_27 : decode cX7_tellsActs 27 = .ok (.getfield 249, 3) := by decide +kernel
theorem dX7_tellsActs_30 : decode cX7_tellsActs 30 = .ok (.iconst 4, 1) := by decide +kernel
theorem dX7_tellsActs_31 : decode cX7_tellsActs 31 = .ok (.if_icmp .ne 25, 3) := by decide +kernel
theorem dX7_tellsActs_34 : decode cX7_tellsActs 34 = .ok (.aload_n 0, 1) := by decide +kernel
theorem dX7_tellsActs_35 : decode cX7_tellsActs 35 = .ok (.bipush 41, 2) := by decide +kernel
theorem dX7_tellsActs_37 : decode cX7_tellsActs 37 = .ok (.invokevirtual 243, 3) := by decide +kernel
theorem dX7_tellsActs_40 : decode cX7_tellsActs 40 = .ok (.aload_n 0, 1) := by decide +kernel
theorem dX7_tellsActs_41 : decode cX7_tellsActs 41 = .ok (.iload_n 1, 1) := by decide +kernel
theorem dX7_tellsActs_42 : decode cX7_tellsActs 42 = .ok (.iconst 1, 1) := by decide +kernel
theorem dX7_tellsActs_43 : decode cX7_tellsActs 43 = .ok (.isub, 1) := by decide +kernel
theorem dX7_tellsActs_44 : decode cX7_tellsActs 44 = .ok (.invokevirtual 270, 3) := by decide +kernel
theorem dX7_tellsActs_47 : decode cX7_tellsActs 47 = .ok (.istore_n 2, 1) := by decide +kernel
theorem dX7_tellsActs_48 : decode cX7_tellsActs 48 = .ok (.iload_n 2, 1) := by decide +kernel
theorem dX7_tellsActs_49 : decode cX7_tellsActs 49 = .ok (.aload_n 0, 1) := by decide +kernel
theorem dX7_tellsActs_50 : decode cX7_tellsActs 50 = .ok (.iconst 2, 1) := by decide +kernel
theorem dX7_tellsActs_51 : decode cX7_tellsActs 51 = .ok (.invokevirtual 258, 3) := by decide +kernel
theorem dX7_tellsActs_54 : decode cX7_tellsActs 54 = .ok (.iadd, 1) := by decide +kernel
theorem dX7_tellsActs_55 : decode cX7_tellsActs 55 = .ok (.ireturn, 1) := by decide +kernel
theorem dX7_tellsActs_56 : decode cX7_tellsActs 56 = .ok (.aload_n 0, 1) := by decide +kernel
theorem dX7_tellsActs_57 : decode cX7_tellsActs 57 = .ok (.iload_n 1, 1) := by decide +kernel
theorem dX7_tellsActs_58 : decode cX7_tellsActs 58 = .ok (.invokevirtual 270, 3) := by decide +kernel
theorem dX7_tellsActs_61 : decode cX7_tellsActs 61 = .ok (.ireturn, 1) := by decide +kernel
set_option maxRecDepth 20000 in
theorem ggX7_act_X7_isTree : GoodIn wsX7_act wsX7_isTree := goodIn_r _ [10, 2, 11, 12, 9, 13, 46, 47, 48, 49, 50, 51, 52, 53, 54, 55, 56, 57, 58, 59, 60, 61, 62, 63, 64, 65, 66, 67, 68, 69, 70, 71, 72, 73, 74, 75, 76] (by decide +kernel) (by decide +kernel)
set_option maxRecDepth 20000 in
theorem gX7_act_X7_isTree : GoodIn wsX7_act (wsV RX7 138 RX7 yX7_isTree wsX7_isTree) := goodIn_app (goodIn_of _ (by decide +kernel)) ggX7_act_X7_isTree
set_option maxRecDepth 20000 in
theorem ggX7_act_X7_in : GoodIn wsX7_act wsX7_in := goodIn_r _ [13] (by decide +kernel) (by decide +kernel)
set_option maxRecDepth 20000 in
theorem gX7_act_X7_in : GoodIn wsX7_act (va_wsS RX7 41 yX7_in wsX7_in) := goodIn_app (goodIn_of _ (by decide +kernel)) ggX7_act_X7_in
set_option maxRecDepth 20000 in
theorem ggX7_act_X7_leansActs : GoodIn wsX7_act wsX7_leansActs := goodIn_r _ [17, 3, 4, 18, 19, 9, 20, 21, 22, 23, 24, 1, 25, 26, 27, 28, 29, 46, 47, 48, 49, 50, 51, 52, 53, 54, 55, 56, 57, 58, 59, 60, 61, 62, 63, 64, 65, 66, 67, 68, 69, 70, 71, 72, 73, 74, 75, 76] (by decide +kernel) (by decide +kernel)
set_option maxRecDepth 20000 in
theorem gX7_act_X7_leansActs : GoodIn wsX7_act (wsV RX7 258 RX7 yX7_leansActs wsX7_leansActs) := goodIn_app (goodIn_of _ (by decide +kernel)) ggX7_act_X7_leansActs
set_option maxRecDepth 20000 in
theorem ggX7_act_X7_holdsActs : GoodIn wsX7_act wsX7_holdsActs := goodIn_r _ [33, 3, 5, 18, 19, 9, 20, 21, 22, 23, 24, 1, 25, 34, 35, 36, 37, 14, 15, 16, 17, 4, 26, 27, 28, 29, 46, 47, 48, 49, 50, 51, 52, 53, 54, 55, 56, 57, 58, 59, 60, 61, 62, 63, 64, 65, 66, 67, 68, 69, 70, 71, 72, 73, 74, 75, 76] (by decide +kernel) (by decide +kernel)
set_option maxRecDepth 20000 in
theorem gX7_act_X7_holdsActs : GoodIn wsX7_act (wsV RX7 267 RX7 yX7_holdsActs wsX7_holdsActs) := goodIn_app (goodIn_of _ (by decide +kernel)) ggX7_act_X7_holdsActs
set_option maxRecDepth 20000 in
theorem ggX7_act_X7_tellsActs : GoodIn wsX7_act wsX7_tellsActs := goodIn_r _ [41, 3, 18, 19, 9, 20, 21, 22, 23, 24, 1, 25, 42, 43, 44, 45, 30, 31, 32, 33, 5, 34, 35, 36, 37, 14, 15, 16, 17, 4, 26, 27, 28, 29, 46, 47, 48, 49, 50, 51, 52, 53, 54, 55, 56, 57, 58, 59, 60, 61, 62, 63, 64, 65, 66, 67, 68, 69, 70, 71, 72, 73, 74, 75, 76] (by decide +kernel) (by decide +kernel)
set_option maxRecDepth 20000 in
theorem gX7_act_X7_tellsActs : GoodIn wsX7_act (wsV RX7 273 RX7 yX7_tellsActs wsX7_tellsActs) := goodIn_app (goodIn_of _ (by decide +kernel)) ggX7_act_X7_tellsActs
theorem dX7_act_0 : decode cX7_act 0 = .ok (.aload_n 0, 1) := by decide +kernel
theorem dX7_act_1 : decode cX7_act 1 = .ok (.iconst 0, 1) := by decide +kernel
theorem dX7_act_2 : decode cX7_act 2 = .ok (.putfield 240, 3) := by decide +kernel
theorem dX7_act_5 : decode cX7_act 5 = .ok (.aload_n 0, 1) := by decide +kernel
theorem dX7_act_6 : decode cX7_act 6 = .ok (.iload_n 1, 1) := by decide +kernel
theorem dX7_act_7 : decode cX7_act 7 = .ok (.invokevirtual 138, 3) := by decide +kernel
theorem dX7_act_10 : decode cX7_act 10 = .ok (.ifCond .eq 12, 3) := by decide +kernel
theorem dX7_act_13 : decode cX7_act 13 = .ok (.iload_n 2, 1) := by decide +kernel
theorem dX7_act_14 : decode cX7_act 14 = .ok (.iconst 0, 1) := by decide +kernel
theorem dX7_act_15 : decode cX7_act 15 = .ok (.iconst 2, 1) := by decide +kernel
theorem dX7_act_16 : decode cX7_act 16 = .ok (.invokestatic 41, 3) := by decide +kernel
theorem dX7_act_19 : decode cX7_act 19 = .ok (.ifCond .ne 5, 3) := by decide +kernel
theorem dX7_act_22 : decode cX7_act 22 = .ok (.iconst 0, 1) := by decide +kernel
theorem dX7_act_23 : decode cX7_act 23 = .ok (.ireturn, 1) := by decide +kernel
theorem dX7_act_24 : decode cX7_act 24 = .ok (.aload_n 0, 1) := by decide +kernel
theorem dX7_act_25 : decode cX7_act 25 = .ok (.aload_n 0, 1) := by decide +kernel
theorem dX7_act_26 : decode cX7_act 26 = .ok (.getfield 9, 3) := by decide +kernel
theorem dX7_act_29 : decode cX7_act 29 = .ok (.bipush 110, 2) := by decide +kernel
theorem dX7_act_31 : decode cX7_act 31 = .ok (.iload_n 1, 1) := by decide +kernel
theorem dX7_act_32 : decode cX7_act 32 = .ok (.iadd, 1) := by decide +kernel
theorem dX7_act_33 : decode cX7_act 33 = .ok (.iaload, 1) := by decide +kernel
theorem dX7_act_34 : decode cX7_act 34 = .ok (.putfield 249, 3) := by decide +kernel
theorem dX7_act_37 : decode cX7_act 37 = .ok (.aload_n 0, 1) := by decide +kernel
theorem dX7_act_38 : decode cX7_act 38 = .ok (.iload_n 1, 1) := by decide +kernel
theorem dX7_act_39 : decode cX7_act 39 = .ok (.putfield 246, 3) := by decide +kernel
theorem dX7_act_42 : decode cX7_act 42 = .ok (.aload_n 0, 1) := by decide +kernel
theorem dX7_act_43 : decode cX7_act 43 = .ok (.aload_n 0, 1) := by decide +kernel
theorem dX7_act_44 : decode cX7_act 44 = .ok (.getfield 9, 3) := by decide +kernel
theorem dX7_act_47 : decode cX7_act 47 = .ok (.bipush 116, 2) := by decide +kernel
theorem dX7_act_49 : decode cX7_act 49 = .ok (.iload_n 1, 1) := by decide +kernel
theorem dX7_act_50 : decode cX7_act 50 = .ok (.iadd, 1) := by decide +kernel
theorem dX7_act_51 : decode cX7_act 51 = .ok (.iaload, 1) := by decide +kernel
theorem dX7_act_52 : decode cX7_act 52 = .ok (.putfield 261, 3) := by decide +kernel
theorem dX7_act_55 : decode cX7_act 55 = .ok (.iload_n 2, 1) := by decide +kernel
theorem dX7_act_56 : decode cX7_act 56 = .ok (.ifCond .ne 11, 3) := by decide +kernel
theorem dX7_act_59 : decode cX7_act 59 = .ok (.aload_n 0, 1) := by decide +kernel
theorem dX7_act_60 : decode cX7_act 60 = .ok (.iload_n 3, 1) := by decide +kernel
theorem dX7_act_61 : decode cX7_act 61 = .ok (.invokevirtual 258, 3) := by decide +kernel
theorem dX7_act_64 : decode cX7_act 64 = .ok (.goto 21, 3) := by decide +kernel
theorem dX7_act_67 : decode cX7_act 67 = .ok (.iload_n 2, 1) := by decide +kernel
theorem dX7_act_68 : decode cX7_act 68 = .ok (.iconst 1, 1) := by decide +kernel
theorem dX7_act_69 : decode cX7_act 69 = .ok (.if_icmp .ne 11, 3) := by decide +kernel
theorem dX7_act_72 : decode cX7_act 72 = .ok (.aload_n 0, 1) := by decide +kernel
theorem dX7_act_73 : decode cX7_act 73 = .ok (.iload_n 3, 1) := by decide +kernel
theorem dX7_act_74 : decode cX7_act 74 = .ok (.invokevirtual 267, 3) := by decide +kernel
theorem dX7_act_77 : decode cX7_act 77 = .ok (.goto 8, 3) := by decide +kernel
theorem dX7_act_80 : decode cX7_act 80 = .ok (.aload_n 0, 1) := by decide +kernel
theorem dX7_act_81 : decode cX7_act 81 = .ok (.iload_n 3, 1) := by decide +kernel
theorem dX7_act_82 : decode cX7_act 82 = .ok (.invokevirtual 273, 3) := by decide +kernel
theorem dX7_act_85 : decode cX7_act 85 = .ok (.ireturn, 1) := by decide +kernel
set_option maxRecDepth 20000 in
theorem ggX7_trace_X7_in : GoodIn wsX7_trace wsX7_in := goodIn_r _ [6] (by decide +kernel) (by decide +kernel)
set_option maxRecDepth 20000 in
theorem gX7_trace_X7_in : GoodIn wsX7_trace (va_wsS RX7 41 yX7_in wsX7_in) := goodIn_app (goodIn_of _ (by decide +kernel)) ggX7_trace_X7_in
theorem dX7_trace_0 : decode cX7_trace 0 = .ok (.iload_n 1, 1) := by decide +kernel
theorem dX7_trace_1 : decode cX7_trace 1 = .ok (.iconst 0, 1) := by decide +kernel
theorem dX7_trace_2 : decode cX7_trace 2 = .ok (.aload_n 0, 1) := by decide +kernel
theorem dX7_trace_3 : decode cX7_trace 3 = .ok (.getfield 240, 3) := by decide +kernel
theorem dX7_trace_6 : decode cX7_trace 6 = .ok (.bipush 20, 2) := by decide +kernel
theorem dX7_trace_8 : decode cX7_trace 8 = .ok (.if_icmp .ge 10, 3) := by decide +kernel
theorem dX7_trace_11 : decode cX7_trace 11 = .ok (.aload_n 0, 1) := by decide +kernel
theorem dX7_trace_12 : decode cX7_trace 12 = .ok (.getfield 240, 3) := by decide +kernel
theorem dX7_trace_15 : decode cX7_trace 15 = .ok (.goto 5, 3) := by decide +kernel
theorem dX7_trace_18 : decode cX7_trace 18 = .ok (.bipush 20, 2) := by decide +kernel
theorem dX7_trace_20 : decode cX7_trace 20 = .ok (.iconst 1, 1) := by decide +kernel
theorem dX7_trace_21 : decode cX7_trace 21 = .ok (.isub, 1) := by decide +kernel
theorem dX7_trace_22 : decode cX7_trace 22 = .ok (.invokestatic 41, 3) := by decide +kernel
theorem dX7_trace_25 : decode cX7_trace 25 = .ok (.ifCond .eq 12, 3) := by decide +kernel
theorem dX7_trace_28 : decode cX7_trace 28 = .ok (.aload_n 0, 1) := by decide +kernel
theorem dX7_trace_29 : decode cX7_trace 29 = .ok (.getfield 34, 3) := by decide +kernel
theorem dX7_trace_32 : decode cX7_trace 32 = .ok (.iload_n 1, 1) := by decide +kernel
theorem dX7_trace_33 : decode cX7_trace 33 = .ok (.iaload, 1) := by decide +kernel
theorem dX7_trace_34 : decode cX7_trace 34 = .ok (.goto 4, 3) := by decide +kernel
theorem dX7_trace_37 : decode cX7_trace 37 = .ok (.iconst (-1), 1) := by decide +kernel
theorem dX7_trace_38 : decode cX7_trace 38 = .ok (.ireturn, 1) := by decide +kernel
set_option maxRecDepth 20000 in
theorem ggX7_as_X7_isTree : GoodIn wsX7_as wsX7_isTree := goodIn_r _ [6, 1, 7, 8, 5, 9, 13, 14, 15, 16, 17, 18, 19, 20, 21, 22, 23, 24, 25, 26, 27, 28, 29, 30, 31, 32, 33, 34, 35, 36, 37, 38, 39, 40, 41, 42, 43] (by decide +kernel) (by decide +kernel)
set_option maxRecDepth 20000 in
theorem gX7_as_X7_isTree : GoodIn wsX7_as (wsV RX7 138 RX7 yX7_isTree wsX7_isTree) := goodIn_app (goodIn_of _ (by decide +kernel)) ggX7_as_X7_isTree
set_option maxRecDepth 20000 in
theorem ggX7_as_X7_in : GoodIn wsX7_as wsX7_in := goodIn_r _ [9] (by decide +kernel) (by decide +kernel)
set_option maxRecDepth 20000 in
theorem gX7_as_X7_in : GoodIn wsX7_as (va_wsS RX7 41 yX7_in wsX7_in) := goodIn_app (goodIn_of _ (by decide +kernel)) ggX7_as_X7_in
set_option maxRecDepth 20000 in
theorem ggX7_as_X7_isUnder : GoodIn wsX7_as wsX7_isUnder := goodIn_r _ [12] (by decide +kernel) (by decide +kernel)
set_option maxRecDepth 20000 in
theorem gX7_as_X7_isUnder : GoodIn wsX7_as (va_wsS RX7 252 yX7_isUnder wsX7_isUnder) := goodIn_app (goodIn_of _ (by decide +kernel)) ggX7_as_X7_isUnder
theorem dX7_as_0 : decode cX7_as 0 = .ok (.aload_n 0, 1) := by decide +kernel
theorem dX7_as_1 : decode cX7_as 1 = .ok (.iload_n 1, 1) := by decide +kernel
theorem dX7_as_2 : decode cX7_as 2 = .ok (.invokevirtual 138, 3) := by decide +kernel
theorem dX7_as_5 : decode cX7_as 5 = .ok (.ifCond .eq 13, 3) := by decide +kernel
theorem dX7_as_8 : decode cX7_as 8 = .ok (.iload_n 2, 1) := by decide +kernel
theorem dX7_as_9 : decode cX7_as 9 = .ok (.iconst 0, 1) := by decide +kernel
theorem dX7_as_10 : decode cX7_as 10 = .ok (.bipush 6, 2) := by decide +kernel
theorem dX7_as_12 : decode cX7_as 12 = .ok (.invokestatic 41, 3) := by decide +kernel
theorem dX7_as_15 : decode cX7_as 15 = .ok (.ifCond .ne 5, 3) := by decide +kernel
theorem dX7_as_18 : decode cX7_as 18 = .ok (.iconst (-1), 1) := by decide +kernel
theorem dX7_as_19 : decode cX7_as 19 = .ok (.ireturn, 1) := by decide +kernel
theorem dX7_as_20 : decode cX7_as 20 = .ok (.aload_n 0, 1) := by decide +kernel
theorem dX7_as_21 : decode cX7_as 21 = .ok (.getfield 9, 3) := by decide +kernel
theorem dX7_as_24 : decode cX7_as 24 = .ok (.bipush 110, 2) := by decide +kernel
theorem dX7_as_26 : decode cX7_as 26 = .ok (.iload_n 1, 1) := by decide +kernel
theorem dX7_as_27 : decode cX7_as 27 = .ok (.iadd, 1) := by decide +kernel
theorem dX7_as_28 : decode cX7_as 28 = .ok (.iaload, 1) := by decide +kernel
theorem dX7_as_29 : decode cX7_as 29 = .ok (.iload_n 2, 1) := by decide +kernel
theorem dX7_as_30 : decode cX7_as 30 = .ok (.invokestatic 252, 3) := by decide +kernel
theorem dX7_as_33 : decode cX7_as 33 = .ok (.ifCond .eq 15, 3) := by decide +kernel
theorem dX7_as_36 : decode cX7_as 36 = .ok (.aload_n 0, 1) := by decide +kernel
theorem dX7_as_37 : decode cX7_as 37 = .ok (.getfield 9, 3) := by decide +kernel
theorem dX7_as_40 : decode cX7_as 40 = .ok (.bipush 116, 2) := by decide +kernel
theorem dX7_as_42 : decode cX7_as 42 = .ok (.iload_n 1, 1) := by decide +kernel
theorem dX7_as_43 : decode cX7_as 43 = .ok (.iadd, 1) := by decide +kernel
theorem dX7_as_44 : decode cX7_as 44 = .ok (.iaload, 1) := by decide +kernel
theorem dX7_as_45 : decode cX7_as 45 = .ok (.goto 5, 3) := by decide +kernel
theorem dX7_as_48 : decode cX7_as 48 = .ok (.bipush (-6), 2) := by decide +kernel
theorem dX7_as_50 : decode cX7_as 50 = .ok (.ireturn, 1) := by decide +kernel
theorem dX7_image_0 : decode cX7_image 0 = .ok (.iconst 0, 1) := by decide +kernel
theorem dX7_image_1 : decode cX7_image 1 = .ok (.istore_n 1, 1) := by decide +kernel
theorem dX7_image_2 : decode cX7_image 2 = .ok (.iload_n 1, 1) := by decide +kernel
theorem dX7_image_3 : decode cX7_image 3 = .ok (.sipush 979, 3) := by decide +kernel
theorem dX7_image_6 : decode cX7_image 6 = .ok (.if_icmp .ge 21, 3) := by decide +kernel
theorem dX7_image_9 : decode cX7_image 9 = .ok (.aload_n 0, 1) := by decide +kernel
theorem dX7_image_10 : decode cX7_image 10 = .ok (.getfield 15, 3) := by decide +kernel
theorem dX7_image_13 : decode cX7_image 13 = .ok (.iload_n 1, 1) := by decide +kernel
theorem dX7_image_14 : decode cX7_image 14 = .ok (.aload_n 0, 1) := by decide +kernel
theorem dX7_image_15 : decode cX7_image 15 = .ok (.getfield 9, 3) := by decide +kernel
theorem dX7_image_18 : decode cX7_image 18 = .ok (.iload_n 1, 1) := by decide +kernel
theorem dX7_image_19 : decode cX7_image 19 = .ok (.iaload, 1) := by decide +kernel
theorem dX7_image_20 : decode cX7_image 20 = .ok (.iastore, 1) := by decide +kernel
theorem dX7_image_21 : decode cX7_image 21 = .ok (.iinc 1 1, 3) := by decide +kernel
theorem dX7_image_24 : decode cX7_image 24 = .ok (.goto (-22), 3) := by decide +kernel
theorem dX7_image_27 : decode cX7_image 27 = .ok (.aload_n 0, 1) := by decide +kernel
theorem dX7_image_28 : decode cX7_image 28 = .ok (.iconst 1, 1) := by decide +kernel
theorem dX7_image_29 : decode cX7_image 29 = .ok (.putfield 276, 3) := by decide +kernel
theorem dX7_image_32 : decode cX7_image 32 = .ok (.aload_n 0, 1) := by decide +kernel
theorem dX7_image_33 : decode cX7_image 33 = .ok (.getfield 9, 3) := by decide +kernel
theorem dX7_image_36 : decode cX7_image 36 = .ok (.iconst 0, 1) := by decide +kernel
theorem dX7_image_37 : decode cX7_image 37 = .ok (.iaload, 1) := by decide +kernel
theorem dX7_image_38 : decode cX7_image 38 = .ok (.ireturn, 1) := by decide +kernel
theorem dX7_undo_0 : decode cX7_undo 0 = .ok (.aload_n 0, 1) := by decide +kernel
theorem dX7_undo_1 : decode cX7_undo 1 = .ok (.getfield 276, 3) := by decide +kernel
theorem dX7_undo_4 : decode cX7_undo 4 = .ok (.ifCond .ne 6, 3) := by decide +kernel
theorem dX7_undo_7 : decode cX7_undo 7 = .ok (.bipush (-3), 2) := by decide +kernel
theorem dX7_undo_9 : decode cX7_undo 9 = .ok (.ireturn, 1) := by decide +kernel
theorem dX7_undo_10 : decode cX7_undo 10 = .ok (.iconst 0, 1) := by decide +kernel
theorem dX7_undo_11 : decode cX7_undo 11 = .ok (.istore_n 1, 1) := by decide +kernel
theorem dX7_undo_12 : decode cX7_undo 12 = .ok (.iload_n 1, 1) := by decide +kernel
theorem dX7_undo_13 : decode cX7_undo 13 = .ok (.sipush 979, 3) := by decide +kernel
theorem dX7_undo_16 : decode cX7_undo 16 = .ok (.if_icmp .ge 21, 3) := by decide +kernel
theorem dX7_undo_19 : decode cX7_undo 19 = .ok (.aload_n 0, 1) := by decide +kernel
theorem dX7_undo_20 : decode cX7_undo 20 = .ok (.getfield 9, 3) := by decide +kernel
theorem dX7_undo_23 : decode cX7_undo 23 = .ok (.iload_n 1, 1) := by decide +kernel
theorem dX7_undo_24 : decode cX7_undo 24 = .ok (.aload_n 0, 1) := by decide +kernel
theorem dX7_undo_25 : decode cX7_undo 25 = .ok (.getfield 15, 3) := by decide +kernel
theorem dX7_undo_28 : decode cX7_undo 28 = .ok (.iload_n 1, 1) := by decide +kernel
theorem dX7_undo_29 : decode cX7_undo 29 = .ok (.iaload, 1) := by decide +kernel
theorem dX7_undo_30 : decode cX7_undo 30 = .ok (.iastore, 1) := by decide +kernel
theorem dX7_undo_31 : decode cX7_undo 31 = .ok (.iinc 1 1, 3) := by decide +kernel
theorem dX7_undo_34 : decode cX7_undo 34 = .ok (.goto (-22), 3) := by decide +kernel
theorem dX7_undo_37 : decode cX7_undo 37 = .ok (.aload_n 0, 1) := by decide +kernel
theorem dX7_undo_38 : decode cX7_undo 38 = .ok (.getfield 9, 3) := by decide +kernel
theorem dX7_undo_41 : decode cX7_undo 41 = .ok (.iconst 0, 1) := by decide +kernel
theorem dX7_undo_42 : decode cX7_undo 42 = .ok (.iaload, 1) := by decide +kernel
theorem dX7_undo_43 : decode cX7_undo 43 = .ok (.ireturn, 1) := by decide +kernel
set_option maxRecDepth 20000 in
theorem ggX7_count_X7_standingMany : GoodIn wsX7_count wsX7_standingMany := goodIn_r _ [7, 1, 8, 9, 10, 11, 12, 13, 14, 15, 16, 17, 18, 19, 20, 21, 22, 23, 24, 25, 26, 27, 28, 29, 30, 31, 32, 33, 34, 35, 36, 37, 38] (by decide +kernel) (by decide +kernel)
set_option maxRecDepth 20000 in
theorem gX7_count_X7_standingMany : GoodIn wsX7_count (wsV RX7 237 RX7 yX7_standingMany wsX7_standingMany) := goodIn_app (goodIn_of _ (by decide +kernel)) ggX7_count_X7_standingMany
theorem dX7_count_0 : decode cX7_count 0 = .ok (.iload_n 1, 1) := by decide +kernel
theorem dX7_count_1 : decode cX7_count 1 = .ok (.tableswitch 77 0 5 #[39, 46, 53, 60, 67, 72], 39) := by decide +kernel
theorem dX7_count_40 : decode cX7_count 40 = .ok (.aload_n 0, 1) := by decide +kernel
theorem dX7_count_41 : decode cX7_count 41 = .ok (.getfield 9, 3) := by decide +kernel
theorem dX7_count_44 : decode cX7_count 44 = .ok (.iconst 0, 1) := by decide +kernel
theorem dX7_count_45 : decode cX7_count 45 = .ok (.iaload, 1) := by decide +kernel
theorem dX7_count_46 : decode cX7_count 46 = .ok (.ireturn, 1) := by decide +kernel
theorem dX7_count_47 : decode cX7_count 47 = .ok (.aload_n 0, 1) := by decide +kernel
theorem dX7_count_48 : decode cX7_count 48 = .ok (.getfield 9, 3) := by decide +kernel
theorem dX7_count_51 : decode cX7_count 51 = .ok (.iconst 1, 1) := by decide +kernel
theorem dX7_count_52 : decode cX7_count 52 = .ok (.iaload, 1) := by decide +kernel
theorem dX7_count_53 : decode cX7_count 53 = .ok (.ireturn, 1) := by decide +kernel
theorem dX7_count_54 : decode cX7_count 54 = .ok (.aload_n 0, 1) := by decide +kernel
theorem dX7_count_55 : decode cX7_count 55 = .ok (.getfield 9, 3) := by decide +kernel
theorem dX7_count_58 : decode cX7_count 58 = .ok (.iconst 2, 1) := by decide +kernel
theorem dX7_count_59 : decode cX7_count 59 = .ok (.iaload, 1) := by decide +kernel
theorem dX7_count_60 : decode cX7_count 60 = .ok (.ireturn, 1) := by decide +kernel
theorem dX7_count_61 : decode cX7_count 61 = .ok (.aload_n 0, 1) := by decide +kernel
theorem dX7_count_62 : decode cX7_count 62 = .ok (.getfield 9, 3) := by decide +kernel
theorem dX7_count_65 : decode cX7_count 65 = .ok (.iconst 3, 1) := by decide +kernel
theorem dX7_count_66 : decode cX7_count 66 = .ok (.iaload, 1) := by decide +kernel
theorem dX7_count_67 : decode cX7_count 67 = .ok (.ireturn, 1) := by decide +kernel
theorem dX7_count_68 : decode cX7_count 68 = .ok (.aload_n 0, 1) := by decide +kernel
theorem dX7_count_69 : decode cX7_count 69 = .ok (.getfield 240, 3) := by decide +kernel
theorem dX7_count_72 : decode cX7_count 72 = .ok (.ireturn, 1) := by decide +kernel
theorem dX7_count_73 : decode cX7_count 73 = .ok (.aload_n 0, 1) := by decide +kernel
theorem dX7_count_74 : decode cX7_count 74 = .ok (.invokevirtual 237, 3) := by decide +kernel
theorem dX7_count_77 : decode cX7_count 77 = .ok (.ireturn, 1) := by decide +kernel
theorem dX7_count_78 : decode cX7_count 78 = .ok (.iconst (-1), 1) := by decide +kernel
theorem dX7_count_79 : decode cX7_count 79 = .ok (.ireturn, 1) := by decide +kernel
