theorem dX6_init_0 : decode cX6_init 0 = .ok (.aload_n 0, 1) := by decide +kernel
theorem dX6_init_1 : decode cX6_init 1 = .ok (.invokespecial 3, 3) := by decide +kernel
theorem dX6_init_4 : decode cX6_init 4 = .ok (.aload_n 0, 1) := by decide +kernel
theorem dX6_init_5 : decode cX6_init 5 = .ok (.new 9, 3) := by decide +kernel
theorem dX6_init_8 : decode cX6_init 8 = .ok (.dup, 1) := by decide +kernel
theorem dX6_init_9 : decode cX6_init 9 = .ok (.invokespecial 11, 3) := by decide +kernel
theorem dX6_init_12 : decode cX6_init 12 = .ok (.putfield 12, 3) := by decide +kernel
theorem dX6_init_15 : decode cX6_init 15 = .ok (.aload_n 0, 1) := by decide +kernel
theorem dX6_init_16 : decode cX6_init 16 = .ok (.new 18, 3) := by decide +kernel
theorem dX6_init_19 : decode cX6_init 19 = .ok (.dup, 1) := by decide +kernel
theorem dX6_init_20 : decode cX6_init 20 = .ok (.invokespecial 20, 3) := by decide +kernel
theorem dX6_init_23 : decode cX6_init 23 = .ok (.putfield 21, 3) := by decide +kernel
theorem dX6_init_26 : decode cX6_init 26 = .ok (.aload_n 0, 1) := by decide +kernel
theorem dX6_init_27 : decode cX6_init 27 = .ok (.new 25, 3) := by decide +kernel
theorem dX6_init_30 : decode cX6_init 30 = .ok (.dup, 1) := by decide +kernel
theorem dX6_init_31 : decode cX6_init 31 = .ok (.invokespecial 27, 3) := by decide +kernel
theorem dX6_init_34 : decode cX6_init 34 = .ok (.putfield 28, 3) := by decide +kernel
theorem dX6_init_37 : decode cX6_init 37 = .ok (.aload_n 0, 1) := by decide +kernel
theorem dX6_init_38 : decode cX6_init 38 = .ok (.new 32, 3) := by decide +kernel
theorem dX6_init_41 : decode cX6_init 41 = .ok (.dup, 1) := by decide +kernel
theorem dX6_init_42 : decode cX6_init 42 = .ok (.invokespecial 34, 3) := by decide +kernel
theorem dX6_init_45 : decode cX6_init 45 = .ok (.putfield 35, 3) := by decide +kernel
theorem dX6_init_48 : decode cX6_init 48 = .ok (.aload_n 0, 1) := by decide +kernel
theorem dX6_init_49 : decode cX6_init 49 = .ok (.new 39, 3) := by decide +kernel
theorem dX6_init_52 : decode cX6_init 52 = .ok (.dup, 1) := by decide +kernel
theorem dX6_init_53 : decode cX6_init 53 = .ok (.invokespecial 41, 3) := by decide +kernel
theorem dX6_init_56 : decode cX6_init 56 = .ok (.putfield 42, 3) := by decide +kernel
theorem dX6_init_59 : decode cX6_init 59 = .ok (.aload_n 0, 1) := by decide +kernel
theorem dX6_init_60 : decode cX6_init 60 = .ok (.aconst_null, 1) := by decide +kernel
theorem dX6_init_61 : decode cX6_init 61 = .ok (.putfield 46, 3) := by decide +kernel
theorem dX6_init_64 : decode cX6_init 64 = .ok (.return_, 1) := by decide +kernel
theorem dX6_things_0 : decode cX6_things 0 = .ok (.aload_n 0, 1) := by decide +kernel
theorem dX6_things_1 : decode cX6_things 1 = .ok (.getfield 12, 3) := by decide +kernel
theorem dX6_things_4 : decode cX6_things 4 = .ok (.getfield 49, 3) := by decide +kernel
theorem dX6_things_7 : decode cX6_things 7 = .ok (.invokestatic 53, 3) := by decide +kernel
theorem dX6_things_10 : decode cX6_things 10 = .ok (.istore_n 3, 1) := by decide +kernel
theorem dX6_things_11 : decode cX6_things 11 = .ok (.aload_n 0, 1) := by decide +kernel
theorem dX6_things_12 : decode cX6_things 12 = .ok (.getfield 12, 3) := by decide +kernel
theorem dX6_things_15 : decode cX6_things 15 = .ok (.lload_n 1, 1) := by decide +kernel
theorem dX6_things_16 : decode cX6_things 16 = .ok (.putfield 49, 3) := by decide +kernel
theorem dX6_things_19 : decode cX6_things 19 = .ok (.iload_n 3, 1) := by decide +kernel
theorem dX6_things_20 : decode cX6_things 20 = .ok (.ireturn, 1) := by decide +kernel
theorem dX6_feed_0 : decode cX6_feed 0 = .ok (.iload_n 1, 1) := by decide +kernel
theorem dX6_feed_1 : decode cX6_feed 1 = .ok (.bipush 127, 2) := by decide +kernel
theorem dX6_feed_3 : decode cX6_feed 3 = .ok (.invokestatic 57, 3) := by decide +kernel
theorem dX6_feed_6 : decode cX6_feed 6 = .ok (.ifCond .eq 6, 3) := by decide +kernel
theorem dX6_feed_9 : decode cX6_feed 9 = .ok (.bipush (-2), 2) := by decide +kernel
theorem dX6_feed_11 : decode cX6_feed 11 = .ok (.ireturn, 1) := by decide +kernel
theorem dX6_feed_12 : decode cX6_feed 12 = .ok (.aload_n 0, 1) := by decide +kernel
theorem dX6_feed_13 : decode cX6_feed 13 = .ok (.getfield 12, 3) := by decide +kernel
theorem dX6_feed_16 : decode cX6_feed 16 = .ok (.getfield 61, 3) := by decide +kernel
theorem dX6_feed_19 : decode cX6_feed 19 = .ok (.bipush 100, 2) := by decide +kernel
theorem dX6_feed_21 : decode cX6_feed 21 = .ok (.if_icmp .lt 6, 3) := by decide +kernel
theorem dX6_feed_24 : decode cX6_feed 24 = .ok (.bipush (-4), 2) := by decide +kernel
theorem dX6_feed_26 : decode cX6_feed 26 = .ok (.ireturn, 1) := by decide +kernel
theorem dX6_feed_27 : decode cX6_feed 27 = .ok (.aload_n 0, 1) := by decide +kernel
theorem dX6_feed_28 : decode cX6_feed 28 = .ok (.getfield 12, 3) := by decide +kernel
theorem dX6_feed_31 : decode cX6_feed 31 = .ok (.getfield 65, 3) := by decide +kernel
theorem dX6_feed_34 : decode cX6_feed 34 = .ok (.aload_n 0, 1) := by decide +kernel
theorem dX6_feed_35 : decode cX6_feed 35 = .ok (.getfield 12, 3) := by decide +kernel
theorem dX6_feed_38 : decode cX6_feed 38 = .ok (.getfield 61, 3) := by decide +kernel
theorem dX6_feed_41 : decode cX6_feed 41 = .ok (.iload_n 1, 1) := by decide +kernel
theorem dX6_feed_42 : decode cX6_feed 42 = .ok (.i2b, 1) := by decide +kernel
theorem dX6_feed_43 : decode cX6_feed 43 = .ok (.bastore, 1) := by decide +kernel
theorem dX6_feed_44 : decode cX6_feed 44 = .ok (.aload_n 0, 1) := by decide +kernel
theorem dX6_feed_45 : decode cX6_feed 45 = .ok (.getfield 12, 3) := by decide +kernel
theorem dX6_feed_48 : decode cX6_feed 48 = .ok (.dup, 1) := by decide +kernel
theorem dX6_feed_49 : decode cX6_feed 49 = .ok (.getfield 61, 3) := by decide +kernel
theorem dX6_feed_52 : decode cX6_feed 52 = .ok (.iconst 1, 1) := by decide +kernel
theorem dX6_feed_53 : decode cX6_feed 53 = .ok (.iadd, 1) := by decide +kernel
theorem dX6_feed_54 : decode cX6_feed 54 = .ok (.putfield 61, 3) := by decide +kernel
theorem dX6_feed_57 : decode cX6_feed 57 = .ok (.aload_n 0, 1) := by decide +kernel
theorem dX6_feed_58 : decode cX6_feed 58 = .ok (.getfield 12, 3) := by decide +kernel
theorem dX6_feed_61 : decode cX6_feed 61 = .ok (.getfield 61, 3) := by decide +kernel
theorem dX6_feed_64 : decode cX6_feed 64 = .ok (.ireturn, 1) := by decide +kernel
theorem dX6_wood_0 : decode cX6_wood 0 = .ok (.aload_n 0, 1) := by decide +kernel
theorem dX6_wood_1 : decode cX6_wood 1 = .ok (.getfield 12, 3) := by decide +kernel
theorem dX6_wood_4 : decode cX6_wood 4 = .ok (.getfield 69, 3) := by decide +kernel
theorem dX6_wood_7 : decode cX6_wood 7 = .ok (.iconst 5, 1) := by decide +kernel
theorem dX6_wood_8 : decode cX6_wood 8 = .ok (.if_icmp .lt 6, 3) := by decide +kernel
theorem dX6_wood_11 : decode cX6_wood 11 = .ok (.bipush (-4), 2) := by decide +kernel
theorem dX6_wood_13 : decode cX6_wood 13 = .ok (.ireturn, 1) := by decide +kernel
theorem dX6_wood_14 : decode cX6_wood 14 = .ok (.aload_n 0, 1) := by decide +kernel
theorem dX6_wood_15 : decode cX6_wood 15 = .ok (.getfield 21, 3) := by decide +kernel
theorem dX6_wood_18 : decode cX6_wood 18 = .ok (.aload_n 0, 1) := by decide +kernel
theorem dX6_wood_19 : decode cX6_wood 19 = .ok (.getfield 12, 3) := by decide +kernel
theorem dX6_wood_22 : decode cX6_wood 22 = .ok (.getfield 65, 3) := by decide +kernel
theorem dX6_wood_25 : decode cX6_wood 25 = .ok (.aload_n 0, 1) := by decide +kernel
theorem dX6_wood_26 : decode cX6_wood 26 = .ok (.getfield 12, 3) := by decide +kernel
theorem dX6_wood_29 : decode cX6_wood 29 = .ok (.getfield 61, 3) := by decide +kernel
theorem dX6_wood_32 : decode cX6_wood 32 = .ok (.invokevirtual 72, 3) := by decide +kernel
theorem dX6_wood_35 : decode cX6_wood 35 = .ok (.istore_n 1, 1) := by decide +kernel
theorem dX6_wood_36 : decode cX6_wood 36 = .ok (.aload_n 0, 1) := by decide +kernel
theorem dX6_wood_37 : decode cX6_wood 37 = .ok (.getfield 12, 3) := by decide +kernel
theorem dX6_wood_40 : decode cX6_wood 40 = .ok (.iconst 0, 1) := by decide +kernel
theorem dX6_wood_41 : decode cX6_wood 41 = .ok (.putfield 61, 3) := by decide +kernel
theorem dX6_wood_44 : decode cX6_wood 44 = .ok (.iload_n 1, 1) := by decide +kernel
theorem dX6_wood_45 : decode cX6_wood 45 = .ok (.ifCond .ne 14, 3) := by decide +kernel
theorem dX6_wood_48 : decode cX6_wood 48 = .ok (.bipush (-10), 2) := by decide +kernel
theorem dX6_wood_50 : decode cX6_wood 50 = .ok (.aload_n 0, 1) := by decide +kernel
theorem dX6_wood_51 : decode cX6_wood 51 = .ok (.getfield 21, 3) := by decide +kernel
theorem dX6_wood_54 : decode cX6_wood 54 = .ok (.getfield 76, 3) := by decide +kernel
theorem dX6_wood_57 : decode cX6_wood 57 = .ok (.isub, 1) := by decide +kernel
theorem dX6_wood_58 : decode cX6_wood 58 = .ok (.ireturn, 1) := by decide +kernel
theorem dX6_wood_59 : decode cX6_wood 59 = .ok (.aload_n 0, 1) := by decide +kernel
theorem dX6_wood_60 : decode cX6_wood 60 = .ok (.getfield 12, 3) := by decide +kernel
theorem dX6_wood_63 : decode cX6_wood 63 = .ok (.getfield 79, 3) := by decide +kernel
theorem dX6_wood_66 : decode cX6_wood 66 = .ok (.aload_n 0, 1) := by decide +kernel
theorem dX6_wood_67 : decode cX6_wood 67 = .ok (.getfield 21, 3) := by decide +kernel
theorem dX6_wood_70 : decode cX6_wood 70 = .ok (.getfield 83, 3) := by decide +kernel
theorem dX6_wood_73 : decode cX6_wood 73 = .ok (.invokevirtual 86, 3) := by decide +kernel
theorem dX6_wood_76 : decode cX6_wood 76 = .ok (.aload_n 0, 1) := by decide +kernel
theorem dX6_wood_77 : decode cX6_wood 77 = .ok (.getfield 12, 3) := by decide +kernel
theorem dX6_wood_80 : decode cX6_wood 80 = .ok (.dup, 1) := by decide +kernel
theorem dX6_wood_81 : decode cX6_wood 81 = .ok (.getfield 69, 3) := by decide +kernel
theorem dX6_wood_84 : decode cX6_wood 84 = .ok (.iconst 1, 1) := by decide +kernel
theorem dX6_wood_85 : decode cX6_wood 85 = .ok (.iadd, 1) := by decide +kernel
theorem dX6_wood_86 : decode cX6_wood 86 = .ok (.putfield 69, 3) := by decide +kernel
theorem dX6_wood_89 : decode cX6_wood 89 = .ok (.aload_n 0, 1) := by decide +kernel
theorem dX6_wood_90 : decode cX6_wood 90 = .ok (.getfield 12, 3) := by decide +kernel
theorem dX6_wood_93 : decode cX6_wood 93 = .ok (.getfield 69, 3) := by decide +kernel
theorem dX6_wood_96 : decode cX6_wood 96 = .ok (.iconst 1, 1) := by decide +kernel
theorem dX6_wood_97 : decode cX6_wood 97 = .ok (.isub, 1) := by decide +kernel
theorem dX6_wood_98 : decode cX6_wood 98 = .ok (.ireturn, 1) := by decide +kernel
theorem dX6_told_0 : decode cX6_told 0 = .ok (.iload_n 1, 1) := by decide +kernel
theorem dX6_told_1 : decode cX6_told 1 = .ok (.tableswitch 57 0 2 #[27, 38, 49], 27) := by decide +kernel
theorem dX6_told_28 : decode cX6_told 28 = .ok (.aload_n 0, 1) := by decide +kernel
theorem dX6_told_29 : decode cX6_told 29 = .ok (.getfield 12, 3) := by decide +kernel
theorem dX6_told_32 : decode cX6_told 32 = .ok (.getfield 79, 3) := by decide +kernel
theorem dX6_told_35 : decode cX6_told 35 = .ok (.getfield 92, 3) := by decide +kernel
theorem dX6_told_38 : decode cX6_told 38 = .ok (.ireturn, 1) := by decide +kernel
theorem dX6_told_39 : decode cX6_told 39 = .ok (.aload_n 0, 1) := by decide +kernel
theorem dX6_told_40 : decode cX6_told 40 = .ok (.getfield 12, 3) := by decide +kernel
theorem dX6_told_43 : decode cX6_told 43 = .ok (.getfield 79, 3) := by decide +kernel
theorem dX6_told_46 : decode cX6_told 46 = .ok (.getfield 95, 3) := by decide +kernel
theorem dX6_told_49 : decode cX6_told 49 = .ok (.ireturn, 1) := by decide +kernel
theorem dX6_told_50 : decode cX6_told 50 = .ok (.aload_n 0, 1) := by decide +kernel
theorem dX6_told_51 : decode cX6_told 51 = .ok (.getfield 12, 3) := by decide +kernel
theorem dX6_told_54 : decode cX6_told 54 = .ok (.getfield 98, 3) := by decide +kernel
theorem dX6_told_57 : decode cX6_told 57 = .ok (.ireturn, 1) := by decide +kernel
theorem dX6_told_58 : decode cX6_told 58 = .ok (.iconst (-1), 1) := by decide +kernel
theorem dX6_told_59 : decode cX6_told 59 = .ok (.ireturn, 1) := by decide +kernel
theorem dX6_tree_0 : decode cX6_tree 0 = .ok (.iload_n 1, 1) := by decide +kernel
theorem dX6_tree_1 : decode cX6_tree 1 = .ok (.bipush 6, 2) := by decide +kernel
theorem dX6_tree_3 : decode cX6_tree 3 = .ok (.invokestatic 57, 3) := by decide +kernel
theorem dX6_tree_6 : decode cX6_tree 6 = .ok (.ifCond .ne 12, 3) := by decide +kernel
theorem dX6_tree_9 : decode cX6_tree 9 = .ok (.iload_n 3, 1) := by decide +kernel
theorem dX6_tree_10 : decode cX6_tree 10 = .ok (.bipush 63, 2) := by decide +kernel
theorem dX6_tree_12 : decode cX6_tree 12 = .ok (.invokestatic 57, 3) := by decide +kernel
theorem dX6_tree_15 : decode cX6_tree 15 = .ok (.ifCond .eq 5, 3) := by decide +kernel
theorem dX6_tree_18 : decode cX6_tree 18 = .ok (.iconst (-1), 1) := by decide +kernel
theorem dX6_tree_19 : decode cX6_tree 19 = .ok (.ireturn, 1) := by decide +kernel
theorem dX6_tree_20 : decode cX6_tree 20 = .ok (.iload_n 2, 1) := by decide +kernel
theorem dX6_tree_21 : decode cX6_tree 21 = .ok (.bipush 9, 2) := by decide +kernel
theorem dX6_tree_23 : decode cX6_tree 23 = .ok (.invokestatic 57, 3) := by decide +kernel
theorem dX6_tree_26 : decode cX6_tree 26 = .ok (.ifCond .ne 16, 3) := by decide +kernel
theorem dX6_tree_29 : decode cX6_tree 29 = .ok (.iload 4, 2) := by decide +kernel
theorem dX6_tree_31 : decode cX6_tree 31 = .ok (.iconst 1, 1) := by decide +kernel
theorem dX6_tree_32 : decode cX6_tree 32 = .ok (.if_icmp .lt 10, 3) := by decide +kernel
theorem dX6_tree_35 : decode cX6_tree 35 = .ok (.iload 4, 2) := by decide +kernel
theorem dX6_tree_37 : decode cX6_tree 37 = .ok (.bipush 7, 2) := by decide +kernel
theorem dX6_tree_39 : decode cX6_tree 39 = .ok (.if_icmp .le 6, 3) := by decide +kernel
theorem dX6_tree_42 : decode cX6_tree 42 = .ok (.bipush (-2), 2) := by decide +kernel
theorem dX6_tree_44 : decode cX6_tree 44 = .ok (.ireturn, 1) := by decide +kernel
theorem dX6_tree_45 : decode cX6_tree 45 = .ok (.aload_n 0, 1) := by decide +kernel
theorem dX6_tree_46 : decode cX6_tree 46 = .ok (.getfield 12, 3) := by decide +kernel
theorem dX6_tree_49 : decode cX6_tree 49 = .ok (.iload_n 3, 1) := by decide +kernel
theorem dX6_tree_50 : decode cX6_tree 50 = .ok (.invokevirtual 101, 3) := by decide +kernel
theorem dX6_tree_53 : decode cX6_tree 53 = .ok (.ifCond .eq 6, 3) := by decide +kernel
theorem dX6_tree_56 : decode cX6_tree 56 = .ok (.bipush (-3), 2) := by decide +kernel
theorem dX6_tree_58 : decode cX6_tree 58 = .ok (.ireturn, 1) := by decide +kernel
theorem dX6_tree_59 : decode cX6_tree 59 = .ok (.aload_n 0, 1) := by decide +kernel
theorem dX6_tree_60 : decode cX6_tree 60 = .ok (.getfield 12, 3) := by decide +kernel
theorem dX6_tree_63 : decode cX6_tree 63 = .ok (.getfield 105, 3) := by decide +kernel
theorem dX6_tree_66 : decode cX6_tree 66 = .ok (.bipush 6, 2) := by decide +kernel
theorem dX6_tree_68 : decode cX6_tree 68 = .ok (.if_icmp .lt 6, 3) := by decide +kernel
theorem dX6_tree_71 : decode cX6_tree 71 = .ok (.bipush (-4), 2) := by decide +kernel
theorem dX6_tree_73 : decode cX6_tree 73 = .ok (.ireturn, 1) := by decide +kernel
theorem dX6_tree_74 : decode cX6_tree 74 = .ok (.aload_n 0, 1) := by decide +kernel
theorem dX6_tree_75 : decode cX6_tree 75 = .ok (.getfield 12, 3) := by decide +kernel
theorem dX6_tree_78 : decode cX6_tree 78 = .ok (.getfield 105, 3) := by decide +kernel
theorem dX6_tree_81 : decode cX6_tree 81 = .ok (.istore 5, 2) := by decide +kernel
theorem dX6_tree_83 : decode cX6_tree 83 = .ok (.aload_n 0, 1) := by decide +kernel
theorem dX6_tree_84 : decode cX6_tree 84 = .ok (.getfield 12, 3) := by decide +kernel
theorem dX6_tree_87 : decode cX6_tree 87 = .ok (.getfield 108, 3) := by decide +kernel
theorem dX6_tree_90 : decode cX6_tree 90 = .ok (.iload 5, 2) := by decide +kernel
theorem dX6_tree_92 : decode cX6_tree 92 = .ok (.aaload, 1) := by decide +kernel
theorem dX6_tree_93 : decode cX6_tree 93 = .ok (.iload 5, 2) := by decide +kernel
theorem dX6_tree_95 : decode cX6_tree 95 = .ok (.iload_n 1, 1) := by decide +kernel
theorem dX6_tree_96 : decode cX6_tree 96 = .ok (.iload_n 2, 1) := by decide +kernel
theorem dX6_tree_97 : decode cX6_tree 97 = .ok (.iload_n 3, 1) := by decide +kernel
theorem dX6_tree_98 : decode cX6_tree 98 = .ok (.iload 4, 2) := by decide +kernel
theorem dX6_tree_100 : decode cX6_tree 100 = .ok (.invokevirtual 112, 3) := by decide +kernel
theorem dX6_tree_103 : decode cX6_tree 103 = .ok (.aload_n 0, 1) := by decide +kernel
theorem dX6_tree_104 : decode cX6_tree 104 = .ok (.getfield 12, 3) := by decide +kernel
theorem dX6_tree_107 : decode cX6_tree 107 = .ok (.dup, 1) := by decide +kernel
theorem dX6_tree_108 : decode cX6_tree 108 = .ok (.getfield 105, 3) := by decide +kernel
theorem dX6_tree_111 : decode cX6_tree 111 = .ok (.iconst 1, 1) := by decide +kernel
theorem dX6_tree_112 : decode cX6_tree 112 = .ok (.iadd, 1) := by decide +kernel
theorem dX6_tree_113 : decode cX6_tree 113 = .ok (.putfield 105, 3) := by decide +kernel
theorem dX6_tree_116 : decode cX6_tree 116 = .ok (.iload 5, 2) := by decide +kernel
theorem dX6_tree_118 : decode cX6_tree 118 = .ok (.ireturn, 1) := by decide +kernel
theorem dX6_lean_0 : decode cX6_lean 0 = .ok (.aload_n 0, 1) := by decide +kernel
theorem dX6_lean_1 : decode cX6_lean 1 = .ok (.getfield 12, 3) := by decide +kernel
theorem dX6_lean_4 : decode cX6_lean 4 = .ok (.iload_n 1, 1) := by decide +kernel
theorem dX6_lean_5 : decode cX6_lean 5 = .ok (.invokevirtual 116, 3) := by decide +kernel
theorem dX6_lean_8 : decode cX6_lean 8 = .ok (.astore 5, 2) := by decide +kernel
theorem dX6_lean_10 : decode cX6_lean 10 = .ok (.aload 5, 2) := by decide +kernel
theorem dX6_lean_12 : decode cX6_lean 12 = .ok (.ifnull 12, 3) := by decide +kernel
theorem dX6_lean_15 : decode cX6_lean 15 = .ok (.iload_n 2, 1) := by decide +kernel
theorem dX6_lean_16 : decode cX6_lean 16 = .ok (.bipush 7, 2) := by decide +kernel
theorem dX6_lean_18 : decode cX6_lean 18 = .ok (.invokestatic 57, 3) := by decide +kernel
theorem dX6_lean_21 : decode cX6_lean 21 = .ok (.ifCond .eq 5, 3) := by decide +kernel
theorem dX6_lean_24 : decode cX6_lean 24 = .ok (.iconst (-1), 1) := by decide +kernel
theorem dX6_lean_25 : decode cX6_lean 25 = .ok (.ireturn, 1) := by decide +kernel
theorem dX6_lean_26 : decode cX6_lean 26 = .ok (.iload_n 3, 1) := by decide +kernel
theorem dX6_lean_27 : decode cX6_lean 27 = .ok (.bipush 9, 2) := by decide +kernel
theorem dX6_lean_29 : decode cX6_lean 29 = .ok (.invokestatic 57, 3) := by decide +kernel
theorem dX6_lean_32 : decode cX6_lean 32 = .ok (.ifCond .ne 13, 3) := by decide +kernel
theorem dX6_lean_35 : decode cX6_lean 35 = .ok (.iload 4, 2) := by decide +kernel
theorem dX6_lean_37 : decode cX6_lean 37 = .ok (.bipush 9, 2) := by decide +kernel
theorem dX6_lean_39 : decode cX6_lean 39 = .ok (.invokestatic 57, 3) := by decide +kernel
theorem dX6_lean_42 : decode cX6_lean 42 = .ok (.ifCond .eq 6, 3) := by decide +kernel
theorem dX6_lean_45 : decode cX6_lean 45 = .ok (.bipush (-2), 2) := by decide +kernel
theorem dX6_lean_47 : decode cX6_lean 47 = .ok (.ireturn, 1) := by decide +kernel
theorem dX6_lean_48 : decode cX6_lean 48 = .ok (.aload 5, 2) := by decide +kernel
theorem dX6_lean_50 : decode cX6_lean 50 = .ok (.getfield 120, 3) := by decide +kernel
theorem dX6_lean_53 : decode cX6_lean 53 = .ok (.istore 6, 2) := by decide +kernel
theorem dX6_lean_55 : decode cX6_lean 55 = .ok (.aload 5, 2) := by decide +kernel
theorem dX6_lean_57 : decode cX6_lean 57 = .ok (.iload_n 2, 1) := by decide +kernel
theorem dX6_lean_58 : decode cX6_lean 58 = .ok (.putfield 123, 3) := by decide +kernel
theorem dX6_lean_61 : decode cX6_lean 61 = .ok (.aload 5, 2) := by decide +kernel
theorem dX6_lean_63 : decode cX6_lean 63 = .ok (.iload_n 3, 1) := by decide +kernel
theorem dX6_lean_64 : decode cX6_lean 64 = .ok (.putfield 120, 3) := by decide +kernel
theorem dX6_lean_67 : decode cX6_lean 67 = .ok (.aload 5, 2) := by decide +kernel
theorem dX6_lean_69 : decode cX6_lean 69 = .ok (.iload 4, 2) := by decide +kernel
theorem dX6_lean_71 : decode cX6_lean 71 = .ok (.putfield 126, 3) := by decide +kernel
theorem dX6_lean_74 : decode cX6_lean 74 = .ok (.iload 6, 2) := by decide +kernel
theorem dX6_lean_76 : decode cX6_lean 76 = .ok (.ireturn, 1) := by decide +kernel
theorem dX6_of_0 : decode cX6_of 0 = .ok (.aload_n 0, 1) := by decide +kernel
theorem dX6_of_1 : decode cX6_of 1 = .ok (.getfield 12, 3) := by decide +kernel
theorem dX6_of_4 : decode cX6_of 4 = .ok (.iload_n 1, 1) := by decide +kernel
theorem dX6_of_5 : decode cX6_of 5 = .ok (.invokevirtual 116, 3) := by decide +kernel
theorem dX6_of_8 : decode cX6_of 8 = .ok (.astore_n 3, 1) := by decide +kernel
theorem dX6_of_9 : decode cX6_of 9 = .ok (.aload_n 3, 1) := by decide +kernel
theorem dX6_of_10 : decode cX6_of 10 = .ok (.ifnonnull 5, 3) := by decide +kernel
theorem dX6_of_13 : decode cX6_of 13 = .ok (.iconst (-1), 1) := by decide +kernel
theorem dX6_of_14 : decode cX6_of 14 = .ok (.ireturn, 1) := by decide +kernel
theorem dX6_of_15 : decode cX6_of 15 = .ok (.iload_n 2, 1) := by decide +kernel
theorem dX6_of_16 : decode cX6_of 16 = .ok (.tableswitch 96 0 7 #[48, 53, 58, 63, 68, 73, 78, 83], 48) := by decide +kernel
theorem dX6_of_64 : decode cX6_of 64 = .ok (.aload_n 3, 1) := by decide +kernel
theorem dX6_of_65 : decode cX6_of 65 = .ok (.getfield 129, 3) := by decide +kernel
theorem dX6_of_68 : decode cX6_of 68 = .ok (.ireturn, 1) := by decide +kernel
theorem dX6_of_69 : decode cX6_of 69 = .ok (.aload_n 3, 1) := by decide +kernel
theorem dX6_of_70 : decode cX6_of 70 = .ok (.getfield 132, 3) := by decide +kernel
theorem dX6_of_73 : decode cX6_of 73 = .ok (.ireturn, 1) := by decide +kernel
theorem dX6_of_74 : decode cX6_of 74 = .ok (.aload_n 3, 1) := by decide +kernel
theorem dX6_of_75 : decode cX6_of 75 = .ok (.getfield 135, 3) := by decide +kernel
theorem dX6_of_78 : decode cX6_of 78 = .ok (.ireturn, 1) := by decide +kernel
theorem dX6_of_79 : decode cX6_of 79 = .ok (.aload_n 3, 1) := by decide +kernel
theorem dX6_of_80 : decode cX6_of 80 = .ok (.getfield 138, 3) := by decide +kernel
theorem dX6_of_83 : decode cX6_of 83 = .ok (.ireturn, 1) := by decide +kernel
theorem dX6_of_84 : decode cX6_of 84 = .ok (.aload_n 3, 1) := by decide +kernel
theorem dX6_of_85 : decode cX6_of 85 = .ok (.getfield 120, 3) := by decide +kernel
theorem dX6_of_88 : decode cX6_of 88 = .ok (.ireturn, 1) := by decide +kernel
theorem dX6_of_89 : decode cX6_of 89 = .ok (.aload_n 3, 1) := by decide +kernel
theorem dX6_of_90 : decode cX6_of 90 = .ok (.getfield 123, 3) := by decide +kernel
theorem dX6_of_93 : decode cX6_of 93 = .ok (.ireturn, 1) := by decide +kernel
theorem dX6_of_94 : decode cX6_of 94 = .ok (.aload_n 3, 1) := by decide +kernel
theorem dX6_of_95 : decode cX6_of 95 = .ok (.getfield 126, 3) := by decide +kernel
theorem dX6_of_98 : decode cX6_of 98 = .ok (.ireturn, 1) := by decide +kernel
theorem dX6_of_99 : decode cX6_of 99 = .ok (.aload_n 3, 1) := by decide +kernel
theorem dX6_of_100 : decode cX6_of 100 = .ok (.getfield 141, 3) := by decide +kernel
theorem dX6_of_103 : decode cX6_of 103 = .ok (.ifCond .eq 7, 3) := by decide +kernel
theorem dX6_of_106 : decode cX6_of 106 = .ok (.iconst 1, 1) := by decide +kernel
theorem dX6_of_107 : decode cX6_of 107 = .ok (.goto 4, 3) := by decide +kernel
theorem dX6_of_110 : decode cX6_of 110 = .ok (.iconst 0, 1) := by decide +kernel
theorem dX6_of_111 : decode cX6_of 111 = .ok (.ireturn, 1) := by decide +kernel
theorem dX6_of_112 : decode cX6_of 112 = .ok (.iconst (-1), 1) := by decide +kernel
theorem dX6_of_113 : decode cX6_of 113 = .ok (.ireturn, 1) := by decide +kernel
theorem dX6_plan_0 : decode cX6_plan 0 = .ok (.aload_n 0, 1) := by decide +kernel
theorem dX6_plan_1 : decode cX6_plan 1 = .ok (.getfield 12, 3) := by decide +kernel
theorem dX6_plan_4 : decode cX6_plan 4 = .ok (.iload_n 1, 1) := by decide +kernel
theorem dX6_plan_5 : decode cX6_plan 5 = .ok (.invokevirtual 116, 3) := by decide +kernel
theorem dX6_plan_8 : decode cX6_plan 8 = .ok (.astore 4, 2) := by decide +kernel
theorem dX6_plan_10 : decode cX6_plan 10 = .ok (.aload 4, 2) := by decide +kernel
theorem dX6_plan_12 : decode cX6_plan 12 = .ok (.ifnull 11, 3) := by decide +kernel
theorem dX6_plan_15 : decode cX6_plan 15 = .ok (.iload_n 2, 1) := by decide +kernel
theorem dX6_plan_16 : decode cX6_plan 16 = .ok (.iconst 5, 1) := by decide +kernel
theorem dX6_plan_17 : decode cX6_plan 17 = .ok (.invokestatic 57, 3) := by decide +kernel
theorem dX6_plan_20 : decode cX6_plan 20 = .ok (.ifCond .eq 5, 3) := by decide +kernel
theorem dX6_plan_23 : decode cX6_plan 23 = .ok (.iconst (-1), 1) := by decide +kernel
theorem dX6_plan_24 : decode cX6_plan 24 = .ok (.ireturn, 1) := by decide +kernel
theorem dX6_plan_25 : decode cX6_plan 25 = .ok (.iload_n 2, 1) := by decide +kernel
theorem dX6_plan_26 : decode cX6_plan 26 = .ok (.ifCond .eq 8, 3) := by decide +kernel
theorem dX6_plan_29 : decode cX6_plan 29 = .ok (.iload_n 2, 1) := by decide +kernel
theorem dX6_plan_30 : decode cX6_plan 30 = .ok (.iconst 4, 1) := by decide +kernel
theorem dX6_plan_31 : decode cX6_plan 31 = .ok (.if_icmp .ne 7, 3) := by decide +kernel
theorem dX6_plan_34 : decode cX6_plan 34 = .ok (.iconst 1, 1) := by decide +kernel
theorem dX6_plan_35 : decode cX6_plan 35 = .ok (.goto 4, 3) := by decide +kernel
theorem dX6_plan_38 : decode cX6_plan 38 = .ok (.iconst 0, 1) := by decide +kernel
theorem dX6_plan_39 : decode cX6_plan 39 = .ok (.istore 5, 2) := by decide +kernel
theorem dX6_plan_41 : decode cX6_plan 41 = .ok (.iload_n 3, 1) := by decide +kernel
theorem dX6_plan_42 : decode cX6_plan 42 = .ok (.iload 5, 2) := by decide +kernel
theorem dX6_plan_44 : decode cX6_plan 44 = .ok (.ifCond .eq 8, 3) := by decide +kernel
theorem dX6_plan_47 : decode cX6_plan 47 = .ok (.bipush 7, 2) := by decide +kernel
theorem dX6_plan_49 : decode cX6_plan 49 = .ok (.goto 5, 3) := by decide +kernel
theorem dX6_plan_52 : decode cX6_plan 52 = .ok (.bipush 9, 2) := by decide +kernel
theorem dX6_plan_54 : decode cX6_plan 54 = .ok (.invokestatic 57, 3) := by decide +kernel
theorem dX6_plan_57 : decode cX6_plan 57 = .ok (.ifCond .eq 6, 3) := by decide +kernel
theorem dX6_plan_60 : decode cX6_plan 60 = .ok (.bipush (-2), 2) := by decide +kernel
theorem dX6_plan_62 : decode cX6_plan 62 = .ok (.ireturn, 1) := by decide +kernel
theorem dX6_plan_63 : decode cX6_plan 63 = .ok (.aload 4, 2) := by decide +kernel
theorem dX6_plan_65 : decode cX6_plan 65 = .ok (.getfield 145, 3) := by decide +kernel
theorem dX6_plan_68 : decode cX6_plan 68 = .ok (.iload_n 2, 1) := by decide +kernel
theorem dX6_plan_69 : decode cX6_plan 69 = .ok (.iaload, 1) := by decide +kernel
theorem dX6_plan_70 : decode cX6_plan 70 = .ok (.istore 6, 2) := by decide +kernel
theorem dX6_plan_72 : decode cX6_plan 72 = .ok (.aload 4, 2) := by decide +kernel
theorem dX6_plan_74 : decode cX6_plan 74 = .ok (.getfield 145, 3) := by decide +kernel
theorem dX6_plan_77 : decode cX6_plan 77 = .ok (.iload_n 2, 1) := by decide +kernel
theorem dX6_plan_78 : decode cX6_plan 78 = .ok (.iload_n 3, 1) := by decide +kernel
theorem dX6_plan_79 : decode cX6_plan 79 = .ok (.iastore, 1) := by decide +kernel
theorem dX6_plan_80 : decode cX6_plan 80 = .ok (.iload 6, 2) := by decide +kernel
theorem dX6_plan_82 : decode cX6_plan 82 = .ok (.ireturn, 1) := by decide +kernel
theorem dX6_goes_0 : decode cX6_goes 0 = .ok (.aload_n 0, 1) := by decide +kernel
theorem dX6_goes_1 : decode cX6_goes 1 = .ok (.getfield 12, 3) := by decide +kernel
theorem dX6_goes_4 : decode cX6_goes 4 = .ok (.iload_n 1, 1) := by decide +kernel
theorem dX6_goes_5 : decode cX6_goes 5 = .ok (.invokevirtual 116, 3) := by decide +kernel
theorem dX6_goes_8 : decode cX6_goes 8 = .ok (.astore_n 3, 1) := by decide +kernel
theorem dX6_goes_9 : decode cX6_goes 9 = .ok (.aload_n 3, 1) := by decide +kernel
theorem dX6_goes_10 : decode cX6_goes 10 = .ok (.ifnull 12, 3) := by decide +kernel
theorem dX6_goes_13 : decode cX6_goes 13 = .ok (.iload_n 2, 1) := by decide +kernel
theorem dX6_goes_14 : decode cX6_goes 14 = .ok (.bipush 7, 2) := by decide +kernel
theorem dX6_goes_16 : decode cX6_goes 16 = .ok (.invokestatic 57, 3) := by decide +kernel
theorem dX6_goes_19 : decode cX6_goes 19 = .ok (.ifCond .eq 7, 3) := by decide +kernel
theorem dX6_goes_22 : decode cX6_goes 22 = .ok (.sipush (-10001), 3) := by decide +kernel
theorem dX6_goes_25 : decode cX6_goes 25 = .ok (.ireturn, 1) := by decide +kernel
theorem dX6_goes_26 : decode cX6_goes 26 = .ok (.aload_n 3, 1) := by decide +kernel
theorem dX6_goes_27 : decode cX6_goes 27 = .ok (.getfield 141, 3) := by decide +kernel
theorem dX6_goes_30 : decode cX6_goes 30 = .ok (.ifCond .ne 7, 3) := by decide +kernel
theorem dX6_goes_33 : decode cX6_goes 33 = .ok (.sipush (-10002), 3) := by decide +kernel
theorem dX6_goes_36 : decode cX6_goes 36 = .ok (.ireturn, 1) := by decide +kernel
theorem dX6_goes_37 : decode cX6_goes 37 = .ok (.aload_n 0, 1) := by decide +kernel
theorem dX6_goes_38 : decode cX6_goes 38 = .ok (.getfield 28, 3) := by decide +kernel
theorem dX6_goes_41 : decode cX6_goes 41 = .ok (.aload_n 0, 1) := by decide +kernel
theorem dX6_goes_42 : decode cX6_goes 42 = .ok (.getfield 12, 3) := by decide +kernel
theorem dX6_goes_45 : decode cX6_goes 45 = .ok (.aload_n 3, 1) := by decide +kernel
theorem dX6_goes_46 : decode cX6_goes 46 = .ok (.iconst (-1), 1) := by decide +kernel
theorem dX6_goes_47 : decode cX6_goes 47 = .ok (.invokevirtual 149, 3) := by decide +kernel
theorem dX6_goes_50 : decode cX6_goes 50 = .ok (.iload_n 2, 1) := by decide +kernel
theorem dX6_goes_51 : decode cX6_goes 51 = .ok (.tableswitch 100 0 6 #[41, 49, 57, 65, 73, 81, 89], 41) := by decide +kernel
theorem dX6_goes_92 : decode cX6_goes 92 = .ok (.aload_n 0, 1) := by decide +kernel
theorem dX6_goes_93 : decode cX6_goes 93 = .ok (.getfield 28, 3) := by decide +kernel
theorem dX6_goes_96 : decode cX6_goes 96 = .ok (.getfield 153, 3) := by decide +kernel
theorem dX6_goes_99 : decode cX6_goes 99 = .ok (.ireturn, 1) := by decide +kernel
theorem dX6_goes_100 : decode cX6_goes 100 = .ok (.aload_n 0, 1) := by decide +kernel
theorem dX6_goes_101 : decode cX6_goes 101 = .ok (.getfield 28, 3) := by decide +kernel
theorem dX6_goes_104 : decode cX6_goes 104 = .ok (.getfield 156, 3) := by decide +kernel
theorem dX6_goes_107 : decode cX6_goes 107 = .ok (.ireturn, 1) := by decide +kernel
theorem dX6_goes_108 : decode cX6_goes 108 = .ok (.aload_n 0, 1) := by decide +kernel
theorem dX6_goes_109 : decode cX6_goes 109 = .ok (.getfield 28, 3) := by decide +kernel
theorem dX6_goes_112 : decode cX6_goes 112 = .ok (.getfield 159, 3) := by decide +kernel
theorem dX6_goes_115 : decode cX6_goes 115 = .ok (.ireturn, 1) := by decide +kernel
theorem dX6_goes_116 : decode cX6_goes 116 = .ok (.aload_n 0, 1) := by decide +kernel
theorem dX6_goes_117 : decode cX6_goes 117 = .ok (.getfield 28, 3) := by decide +kernel
theorem dX6_goes_120 : decode cX6_goes 120 = .ok (.getfield 162, 3) := by decide +kernel
theorem dX6_goes_123 : decode cX6_goes 123 = .ok (.ireturn, 1) := by decide +kernel
theorem dX6_goes_124 : decode cX6_goes 124 = .ok (.aload_n 0, 1) := by decide +kernel
theorem dX6_goes_125 : decode cX6_goes 125 = .ok (.getfield 28, 3) := by decide +kernel
theorem dX6_goes_128 : decode cX6_goes 128 = .ok (.getfield 165, 3) := by decide +kernel
theorem dX6_goes_131 : decode cX6_goes 131 = .ok (.ireturn, 1) := by decide +kernel
theorem dX6_goes_132 : decode cX6_goes 132 = .ok (.aload_n 0, 1) := by decide +kernel
theorem dX6_goes_133 : decode cX6_goes 133 = .ok (.getfield 28, 3) := by decide +kernel
theorem dX6_goes_136 : decode cX6_goes 136 = .ok (.getfield 168, 3) := by decide +kernel
theorem dX6_goes_139 : decode cX6_goes 139 = .ok (.ireturn, 1) := by decide +kernel
theorem dX6_goes_140 : decode cX6_goes 140 = .ok (.aload_n 0, 1) := by decide +kernel
theorem dX6_goes_141 : decode cX6_goes 141 = .ok (.getfield 28, 3) := by decide +kernel
theorem dX6_goes_144 : decode cX6_goes 144 = .ok (.getfield 171, 3) := by decide +kernel
theorem dX6_goes_147 : decode cX6_goes 147 = .ok (.invokestatic 53, 3) := by decide +kernel
theorem dX6_goes_150 : decode cX6_goes 150 = .ok (.ireturn, 1) := by decide +kernel
theorem dX6_goes_151 : decode cX6_goes 151 = .ok (.aload_n 0, 1) := by decide +kernel
theorem dX6_goes_152 : decode cX6_goes 152 = .ok (.getfield 28, 3) := by decide +kernel
theorem dX6_goes_155 : decode cX6_goes 155 = .ok (.getfield 174, 3) := by decide +kernel
theorem dX6_goes_158 : decode cX6_goes 158 = .ok (.ireturn, 1) := by decide +kernel
theorem dX6_lies_0 : decode cX6_lies 0 = .ok (.aload_n 0, 1) := by decide +kernel
theorem dX6_lies_1 : decode cX6_lies 1 = .ok (.getfield 12, 3) := by decide +kernel
theorem dX6_lies_4 : decode cX6_lies 4 = .ok (.iload_n 1, 1) := by decide +kernel
theorem dX6_lies_5 : decode cX6_lies 5 = .ok (.invokevirtual 116, 3) := by decide +kernel
theorem dX6_lies_8 : decode cX6_lies 8 = .ok (.astore_n 2, 1) := by decide +kernel
theorem dX6_lies_9 : decode cX6_lies 9 = .ok (.aload_n 2, 1) := by decide +kernel
theorem dX6_lies_10 : decode cX6_lies 10 = .ok (.ifnull 10, 3) := by decide +kernel
theorem dX6_lies_13 : decode cX6_lies 13 = .ok (.aload_n 2, 1) := by decide +kernel
theorem dX6_lies_14 : decode cX6_lies 14 = .ok (.getfield 141, 3) := by decide +kernel
theorem dX6_lies_17 : decode cX6_lies 17 = .ok (.ifCond .ne 7, 3) := by decide +kernel
theorem dX6_lies_20 : decode cX6_lies 20 = .ok (.ldc2_w 177, 3) := by decide +kernel
theorem dX6_lies_23 : decode cX6_lies 23 = .ok (.lreturn, 1) := by decide +kernel
theorem dX6_lies_24 : decode cX6_lies 24 = .ok (.aload_n 0, 1) := by decide +kernel
theorem dX6_lies_25 : decode cX6_lies 25 = .ok (.getfield 28, 3) := by decide +kernel
theorem dX6_lies_28 : decode cX6_lies 28 = .ok (.aload_n 0, 1) := by decide +kernel
theorem dX6_lies_29 : decode cX6_lies 29 = .ok (.getfield 12, 3) := by decide +kernel
theorem dX6_lies_32 : decode cX6_lies 32 = .ok (.aload_n 2, 1) := by decide +kernel
theorem dX6_lies_33 : decode cX6_lies 33 = .ok (.iconst (-1), 1) := by decide +kernel
theorem dX6_lies_34 : decode cX6_lies 34 = .ok (.invokevirtual 149, 3) := by decide +kernel
theorem dX6_lies_37 : decode cX6_lies 37 = .ok (.aload_n 0, 1) := by decide +kernel
theorem dX6_lies_38 : decode cX6_lies 38 = .ok (.getfield 28, 3) := by decide +kernel
theorem dX6_lies_41 : decode cX6_lies 41 = .ok (.getfield 171, 3) := by decide +kernel
theorem dX6_lies_44 : decode cX6_lies 44 = .ok (.lreturn, 1) := by decide +kernel
theorem dX6_fell_0 : decode cX6_fell 0 = .ok (.aload_n 0, 1) := by decide +kernel
theorem dX6_fell_1 : decode cX6_fell 1 = .ok (.getfield 12, 3) := by decide +kernel
theorem dX6_fell_4 : decode cX6_fell 4 = .ok (.iload_n 1, 1) := by decide +kernel
theorem dX6_fell_5 : decode cX6_fell 5 = .ok (.invokevirtual 116, 3) := by decide +kernel
theorem dX6_fell_8 : decode cX6_fell 8 = .ok (.astore_n 2, 1) := by decide +kernel
theorem dX6_fell_9 : decode cX6_fell 9 = .ok (.aload_n 2, 1) := by decide +kernel
theorem dX6_fell_10 : decode cX6_fell 10 = .ok (.ifnonnull 5, 3) := by decide +kernel
theorem dX6_fell_13 : decode cX6_fell 13 = .ok (.iconst (-1), 1) := by decide +kernel
theorem dX6_fell_14 : decode cX6_fell 14 = .ok (.ireturn, 1) := by decide +kernel
theorem dX6_fell_15 : decode cX6_fell 15 = .ok (.aload_n 2, 1) := by decide +kernel
theorem dX6_fell_16 : decode cX6_fell 16 = .ok (.getfield 141, 3) := by decide +kernel
theorem dX6_fell_19 : decode cX6_fell 19 = .ok (.ifCond .ne 6, 3) := by decide +kernel
theorem dX6_fell_22 : decode cX6_fell 22 = .ok (.bipush (-3), 2) := by decide +kernel
theorem dX6_fell_24 : decode cX6_fell 24 = .ok (.ireturn, 1) := by decide +kernel
theorem dX6_fell_25 : decode cX6_fell 25 = .ok (.aload_n 0, 1) := by decide +kernel
theorem dX6_fell_26 : decode cX6_fell 26 = .ok (.getfield 28, 3) := by decide +kernel
theorem dX6_fell_29 : decode cX6_fell 29 = .ok (.aload_n 0, 1) := by decide +kernel
theorem dX6_fell_30 : decode cX6_fell 30 = .ok (.getfield 12, 3) := by decide +kernel
theorem dX6_fell_33 : decode cX6_fell 33 = .ok (.getfield 79, 3) := by decide +kernel
theorem dX6_fell_36 : decode cX6_fell 36 = .ok (.aload_n 2, 1) := by decide +kernel
theorem dX6_fell_37 : decode cX6_fell 37 = .ok (.iconst (-1), 1) := by decide +kernel
theorem dX6_fell_38 : decode cX6_fell 38 = .ok (.invokevirtual 179, 3) := by decide +kernel
theorem dX6_fell_41 : decode cX6_fell 41 = .ok (.aload_n 0, 1) := by decide +kernel
theorem dX6_fell_42 : decode cX6_fell 42 = .ok (.getfield 28, 3) := by decide +kernel
theorem dX6_fell_45 : decode cX6_fell 45 = .ok (.getfield 165, 3) := by decide +kernel
theorem dX6_fell_48 : decode cX6_fell 48 = .ok (.iconst 2, 1) := by decide +kernel
theorem dX6_fell_49 : decode cX6_fell 49 = .ok (.if_icmp .eq 8, 3) := by decide +kernel
theorem dX6_fell_52 : decode cX6_fell 52 = .ok (.aload_n 2, 1) := by decide +kernel
theorem dX6_fell_53 : decode cX6_fell 53 = .ok (.iconst 0, 1) := by decide +kernel
theorem dX6_fell_54 : decode cX6_fell 54 = .ok (.putfield 141, 3) := by decide +kernel
theorem dX6_fell_57 : decode cX6_fell 57 = .ok (.aload_n 0, 1) := by decide +kernel
theorem dX6_fell_58 : decode cX6_fell 58 = .ok (.getfield 28, 3) := by decide +kernel
theorem dX6_fell_61 : decode cX6_fell 61 = .ok (.getfield 165, 3) := by decide +kernel
theorem dX6_fell_64 : decode cX6_fell 64 = .ok (.ireturn, 1) := by decide +kernel
theorem dX6_wide_0 : decode cX6_wide 0 = .ok (.aload_n 0, 1) := by decide +kernel
theorem dX6_wide_1 : decode cX6_wide 1 = .ok (.getfield 12, 3) := by decide +kernel
theorem dX6_wide_4 : decode cX6_wide 4 = .ok (.iload_n 1, 1) := by decide +kernel
theorem dX6_wide_5 : decode cX6_wide 5 = .ok (.invokevirtual 116, 3) := by decide +kernel
theorem dX6_wide_8 : decode cX6_wide 8 = .ok (.astore_n 3, 1) := by decide +kernel
theorem dX6_wide_9 : decode cX6_wide 9 = .ok (.aload_n 3, 1) := by decide +kernel
theorem dX6_wide_10 : decode cX6_wide 10 = .ok (.ifnonnull 5, 3) := by decide +kernel
theorem dX6_wide_13 : decode cX6_wide 13 = .ok (.iconst (-1), 1) := by decide +kernel
theorem dX6_wide_14 : decode cX6_wide 14 = .ok (.ireturn, 1) := by decide +kernel
theorem dX6_wide_15 : decode cX6_wide 15 = .ok (.iload_n 2, 1) := by decide +kernel
theorem dX6_wide_16 : decode cX6_wide 16 = .ok (.bipush 9, 2) := by decide +kernel
theorem dX6_wide_18 : decode cX6_wide 18 = .ok (.invokestatic 57, 3) := by decide +kernel
theorem dX6_wide_21 : decode cX6_wide 21 = .ok (.ifCond .eq 6, 3) := by decide +kernel
theorem dX6_wide_24 : decode cX6_wide 24 = .ok (.bipush (-2), 2) := by decide +kernel
theorem dX6_wide_26 : decode cX6_wide 26 = .ok (.ireturn, 1) := by decide +kernel
theorem dX6_wide_27 : decode cX6_wide 27 = .ok (.aload_n 3, 1) := by decide +kernel
theorem dX6_wide_28 : decode cX6_wide 28 = .ok (.getfield 141, 3) := by decide +kernel
theorem dX6_wide_31 : decode cX6_wide 31 = .ok (.ifCond .ne 6, 3) := by decide +kernel
theorem dX6_wide_34 : decode cX6_wide 34 = .ok (.bipush (-3), 2) := by decide +kernel
theorem dX6_wide_36 : decode cX6_wide 36 = .ok (.ireturn, 1) := by decide +kernel
theorem dX6_wide_37 : decode cX6_wide 37 = .ok (.aload_n 0, 1) := by decide +kernel
theorem dX6_wide_38 : decode cX6_wide 38 = .ok (.getfield 42, 3) := by decide +kernel
theorem dX6_wide_41 : decode cX6_wide 41 = .ok (.aload_n 3, 1) := by decide +kernel
theorem dX6_wide_42 : decode cX6_wide 42 = .ok (.invokevirtual 183, 3) := by decide +kernel
theorem dX6_wide_45 : decode cX6_wide 45 = .ok (.aload_n 0, 1) := by decide +kernel
theorem dX6_wide_46 : decode cX6_wide 46 = .ok (.getfield 42, 3) := by decide +kernel
theorem dX6_wide_49 : decode cX6_wide 49 = .ok (.getfield 145, 3) := by decide +kernel
theorem dX6_wide_52 : decode cX6_wide 52 = .ok (.iconst 5, 1) := by decide +kernel
theorem dX6_wide_53 : decode cX6_wide 53 = .ok (.iconst 0, 1) := by decide +kernel
theorem dX6_wide_54 : decode cX6_wide 54 = .ok (.iastore, 1) := by decide +kernel
theorem dX6_wide_55 : decode cX6_wide 55 = .ok (.iconst 0, 1) := by decide +kernel
theorem dX6_wide_56 : decode cX6_wide 56 = .ok (.istore 4, 2) := by decide +kernel
theorem dX6_wide_58 : decode cX6_wide 58 = .ok (.iconst 0, 1) := by decide +kernel
theorem dX6_wide_59 : decode cX6_wide 59 = .ok (.istore 5, 2) := by decide +kernel
theorem dX6_wide_61 : decode cX6_wide 61 = .ok (.iload 5, 2) := by decide +kernel
theorem dX6_wide_63 : decode cX6_wide 63 = .ok (.bipush 8, 2) := by decide +kernel
theorem dX6_wide_65 : decode cX6_wide 65 = .ok (.if_icmp .ge 30, 3) := by decide +kernel
theorem dX6_wide_68 : decode cX6_wide 68 = .ok (.aload_n 0, 1) := by decide +kernel
theorem dX6_wide_69 : decode cX6_wide 69 = .ok (.getfield 42, 3) := by decide +kernel
theorem dX6_wide_72 : decode cX6_wide 72 = .ok (.getfield 145, 3) := by decide +kernel
theorem dX6_wide_75 : decode cX6_wide 75 = .ok (.iconst 0, 1) := by decide +kernel
theorem dX6_wide_76 : decode cX6_wide 76 = .ok (.iload 5, 2) := by decide +kernel
theorem dX6_wide_78 : decode cX6_wide 78 = .ok (.iastore, 1) := by decide +kernel
theorem dX6_wide_79 : decode cX6_wide 79 = .ok (.iload 4, 2) := by decide +kernel
theorem dX6_wide_81 : decode cX6_wide 81 = .ok (.aload_n 0, 1) := by decide +kernel
theorem dX6_wide_82 : decode cX6_wide 82 = .ok (.iload_n 2, 1) := by decide +kernel
theorem dX6_wide_83 : decode cX6_wide 83 = .ok (.invokevirtual 186, 3) := by decide +kernel
theorem dX6_wide_86 : decode cX6_wide 86 = .ok (.ior, 1) := by decide +kernel
theorem dX6_wide_87 : decode cX6_wide 87 = .ok (.istore 4, 2) := by decide +kernel
theorem dX6_wide_89 : decode cX6_wide 89 = .ok (.iinc 5 1, 3) := by decide +kernel
theorem dX6_wide_92 : decode cX6_wide 92 = .ok (.goto (-31), 3) := by decide +kernel
theorem dX6_wide_95 : decode cX6_wide 95 = .ok (.iload 4, 2) := by decide +kernel
theorem dX6_wide_97 : decode cX6_wide 97 = .ok (.ireturn, 1) := by decide +kernel
theorem dX6_waysByWedges_0 : decode cX6_waysByWedges 0 = .ok (.aload_n 0, 1) := by decide +kernel
theorem dX6_waysByWedges_1 : decode cX6_waysByWedges 1 = .ok (.getfield 28, 3) := by decide +kernel
theorem dX6_waysByWedges_4 : decode cX6_waysByWedges 4 = .ok (.aload_n 0, 1) := by decide +kernel
theorem dX6_waysByWedges_5 : decode cX6_waysByWedges 5 = .ok (.getfield 12, 3) := by decide +kernel
theorem dX6_waysByWedges_8 : decode cX6_waysByWedges 8 = .ok (.getfield 79, 3) := by decide +kernel
theorem dX6_waysByWedges_11 : decode cX6_waysByWedges 11 = .ok (.aload_n 0, 1) := by decide +kernel
theorem dX6_waysByWedges_12 : decode cX6_waysByWedges 12 = .ok (.getfield 42, 3) := by decide +kernel
theorem dX6_waysByWedges_15 : decode cX6_waysByWedges 15 = .ok (.invokevirtual 190, 3) := by decide +kernel
theorem dX6_waysByWedges_18 : decode cX6_waysByWedges 18 = .ok (.iconst 0, 1) := by decide +kernel
theorem dX6_waysByWedges_19 : decode cX6_waysByWedges 19 = .ok (.istore_n 2, 1) := by decide +kernel
theorem dX6_waysByWedges_20 : decode cX6_waysByWedges 20 = .ok (.iconst (-1), 1) := by decide +kernel
theorem dX6_waysByWedges_21 : decode cX6_waysByWedges 21 = .ok (.istore_n 3, 1) := by decide +kernel
theorem dX6_waysByWedges_22 : decode cX6_waysByWedges 22 = .ok (.iconst 0, 1) := by decide +kernel
theorem dX6_waysByWedges_23 : decode cX6_waysByWedges 23 = .ok (.istore 4, 2) := by decide +kernel
theorem dX6_waysByWedges_25 : decode cX6_waysByWedges 25 = .ok (.iload 4, 2) := by decide +kernel
theorem dX6_waysByWedges_27 : decode cX6_waysByWedges 27 = .ok (.iload_n 1, 1) := by decide +kernel
theorem dX6_waysByWedges_28 : decode cX6_waysByWedges 28 = .ok (.if_icmp .gt 80, 3) := by decide +kernel
theorem dX6_waysByWedges_31 : decode cX6_waysByWedges 31 = .ok (.aload_n 0, 1) := by decide +kernel
theorem dX6_waysByWedges_32 : decode cX6_waysByWedges 32 = .ok (.getfield 42, 3) := by decide +kernel
theorem dX6_waysByWedges_35 : decode cX6_waysByWedges 35 = .ok (.getfield 145, 3) := by decide +kernel
theorem dX6_waysByWedges_38 : decode cX6_waysByWedges 38 = .ok (.iconst 3, 1) := by decide +kernel
theorem dX6_waysByWedges_39 : decode cX6_waysByWedges 39 = .ok (.iload 4, 2) := by decide +kernel
theorem dX6_waysByWedges_41 : decode cX6_waysByWedges 41 = .ok (.iastore, 1) := by decide +kernel
theorem dX6_waysByWedges_42 : decode cX6_waysByWedges 42 = .ok (.aload_n 0, 1) := by decide +kernel
theorem dX6_waysByWedges_43 : decode cX6_waysByWedges 43 = .ok (.getfield 28, 3) := by decide +kernel
theorem dX6_waysByWedges_46 : decode cX6_waysByWedges 46 = .ok (.aload_n 0, 1) := by decide +kernel
theorem dX6_waysByWedges_47 : decode cX6_waysByWedges 47 = .ok (.getfield 12, 3) := by decide +kernel
theorem dX6_waysByWedges_50 : decode cX6_waysByWedges 50 = .ok (.getfield 79, 3) := by decide +kernel
theorem dX6_waysByWedges_53 : decode cX6_waysByWedges 53 = .ok (.aload_n 0, 1) := by decide +kernel
theorem dX6_waysByWedges_54 : decode cX6_waysByWedges 54 = .ok (.getfield 42, 3) := by decide +kernel
theorem dX6_waysByWedges_57 : decode cX6_waysByWedges 57 = .ok (.iconst (-1), 1) := by decide +kernel
theorem dX6_waysByWedges_58 : decode cX6_waysByWedges 58 = .ok (.invokevirtual 194, 3) := by decide +kernel
theorem dX6_waysByWedges_61 : decode cX6_waysByWedges 61 = .ok (.aload_n 0, 1) := by decide +kernel
theorem dX6_waysByWedges_62 : decode cX6_waysByWedges 62 = .ok (.getfield 28, 3) := by decide +kernel
theorem dX6_waysByWedges_65 : decode cX6_waysByWedges 65 = .ok (.getfield 165, 3) := by decide +kernel
theorem dX6_waysByWedges_68 : decode cX6_waysByWedges 68 = .ok (.iconst 4, 1) := by decide +kernel
theorem dX6_waysByWedges_69 : decode cX6_waysByWedges 69 = .ok (.if_icmp .ne 19, 3) := by decide +kernel
theorem dX6_waysByWedges_72 : decode cX6_waysByWedges 72 = .ok (.iload_n 2, 1) := by decide +kernel
theorem dX6_waysByWedges_73 : decode cX6_waysByWedges 73 = .ok (.aload_n 0, 1) := by decide +kernel
theorem dX6_waysByWedges_74 : decode cX6_waysByWedges 74 = .ok (.getfield 28, 3) := by decide +kernel
theorem dX6_waysByWedges_77 : decode cX6_waysByWedges 77 = .ok (.getfield 168, 3) := by decide +kernel
theorem dX6_waysByWedges_80 : decode cX6_waysByWedges 80 = .ok (.invokestatic 197, 3) := by decide +kernel
theorem dX6_waysByWedges_83 : decode cX6_waysByWedges 83 = .ok (.ior, 1) := by decide +kernel
theorem dX6_waysByWedges_84 : decode cX6_waysByWedges 84 = .ok (.istore_n 2, 1) := by decide +kernel
theorem dX6_waysByWedges_85 : decode cX6_waysByWedges 85 = .ok (.goto 17, 3) := by decide +kernel
theorem dX6_waysByWedges_88 : decode cX6_waysByWedges 88 = .ok (.aload_n 0, 1) := by decide +kernel
theorem dX6_waysByWedges_89 : decode cX6_waysByWedges 89 = .ok (.getfield 28, 3) := by decide +kernel
theorem dX6_waysByWedges_92 : decode cX6_waysByWedges 92 = .ok (.getfield 165, 3) := by decide +kernel
theorem dX6_waysByWedges_95 : decode cX6_waysByWedges 95 = .ok (.iconst 2, 1) := by decide +kernel
theorem dX6_waysByWedges_96 : decode cX6_waysByWedges 96 = .ok (.if_icmp .eq 6, 3) := by decide +kernel
theorem dX6_waysByWedges_99 : decode cX6_waysByWedges 99 = .ok (.iload 4, 2) := by decide +kernel
theorem dX6_waysByWedges_101 : decode cX6_waysByWedges 101 = .ok (.istore_n 3, 1) := by decide +kernel
theorem dX6_waysByWedges_102 : decode cX6_waysByWedges 102 = .ok (.iinc 4 1, 3) := by decide +kernel
theorem dX6_waysByWedges_105 : decode cX6_waysByWedges 105 = .ok (.goto (-80), 3) := by decide +kernel
theorem dX6_waysByWedges_108 : decode cX6_waysByWedges 108 = .ok (.iload_n 3, 1) := by decide +kernel
theorem dX6_waysByWedges_109 : decode cX6_waysByWedges 109 = .ok (.iconst (-1), 1) := by decide +kernel
theorem dX6_waysByWedges_110 : decode cX6_waysByWedges 110 = .ok (.if_icmp .ne 7, 3) := by decide +kernel
theorem dX6_waysByWedges_113 : decode cX6_waysByWedges 113 = .ok (.iload_n 2, 1) := by decide +kernel
theorem dX6_waysByWedges_114 : decode cX6_waysByWedges 114 = .ok (.goto 10, 3) := by decide +kernel
theorem dX6_waysByWedges_117 : decode cX6_waysByWedges 117 = .ok (.iload_n 2, 1) := by decide +kernel
theorem dX6_waysByWedges_118 : decode cX6_waysByWedges 118 = .ok (.aload_n 0, 1) := by decide +kernel
theorem dX6_waysByWedges_119 : decode cX6_waysByWedges 119 = .ok (.iload_n 3, 1) := by decide +kernel
theorem dX6_waysByWedges_120 : decode cX6_waysByWedges 120 = .ok (.invokevirtual 200, 3) := by decide +kernel
theorem dX6_waysByWedges_123 : decode cX6_waysByWedges 123 = .ok (.ior, 1) := by decide +kernel
theorem dX6_waysByWedges_124 : decode cX6_waysByWedges 124 = .ok (.ireturn, 1) := by decide +kernel
theorem dX6_waysByStrip_0 : decode cX6_waysByStrip 0 = .ok (.aload_n 0, 1) := by decide +kernel
theorem dX6_waysByStrip_1 : decode cX6_waysByStrip 1 = .ok (.getfield 42, 3) := by decide +kernel
theorem dX6_waysByStrip_4 : decode cX6_waysByStrip 4 = .ok (.getfield 145, 3) := by decide +kernel
theorem dX6_waysByStrip_7 : decode cX6_waysByStrip 7 = .ok (.iconst 3, 1) := by decide +kernel
theorem dX6_waysByStrip_8 : decode cX6_waysByStrip 8 = .ok (.iload_n 1, 1) := by decide +kernel
theorem dX6_waysByStrip_9 : decode cX6_waysByStrip 9 = .ok (.iastore, 1) := by decide +kernel
theorem dX6_waysByStrip_10 : decode cX6_waysByStrip 10 = .ok (.iconst 0, 1) := by decide +kernel
theorem dX6_waysByStrip_11 : decode cX6_waysByStrip 11 = .ok (.istore_n 2, 1) := by decide +kernel
theorem dX6_waysByStrip_12 : decode cX6_waysByStrip 12 = .ok (.iconst 0, 1) := by decide +kernel
theorem dX6_waysByStrip_13 : decode cX6_waysByStrip 13 = .ok (.istore_n 3, 1) := by decide +kernel
theorem dX6_waysByStrip_14 : decode cX6_waysByStrip 14 = .ok (.iload_n 3, 1) := by decide +kernel
theorem dX6_waysByStrip_15 : decode cX6_waysByStrip 15 = .ok (.bipush 9, 2) := by decide +kernel
theorem dX6_waysByStrip_17 : decode cX6_waysByStrip 17 = .ok (.if_icmp .gt 78, 3) := by decide +kernel
theorem dX6_waysByStrip_20 : decode cX6_waysByStrip 20 = .ok (.iconst 0, 1) := by decide +kernel
theorem dX6_waysByStrip_21 : decode cX6_waysByStrip 21 = .ok (.istore 4, 2) := by decide +kernel
theorem dX6_waysByStrip_23 : decode cX6_waysByStrip 23 = .ok (.iload 4, 2) := by decide +kernel
theorem dX6_waysByStrip_25 : decode cX6_waysByStrip 25 = .ok (.bipush 9, 2) := by decide +kernel
theorem dX6_waysByStrip_27 : decode cX6_waysByStrip 27 = .ok (.if_icmp .gt 62, 3) := by decide +kernel
theorem dX6_waysByStrip_30 : decode cX6_waysByStrip 30 = .ok (.aload_n 0, 1) := by decide +kernel
theorem dX6_waysByStrip_31 : decode cX6_waysByStrip 31 = .ok (.getfield 42, 3) := by decide +kernel
theorem dX6_waysByStrip_34 : decode cX6_waysByStrip 34 = .ok (.getfield 145, 3) := by decide +kernel
theorem dX6_waysByStrip_37 : decode cX6_waysByStrip 37 = .ok (.iconst 1, 1) := by decide +kernel
theorem dX6_waysByStrip_38 : decode cX6_waysByStrip 38 = .ok (.iload_n 3, 1) := by decide +kernel
theorem dX6_waysByStrip_39 : decode cX6_waysByStrip 39 = .ok (.iastore, 1) := by decide +kernel
theorem dX6_waysByStrip_40 : decode cX6_waysByStrip 40 = .ok (.aload_n 0, 1) := by decide +kernel
theorem dX6_waysByStrip_41 : decode cX6_waysByStrip 41 = .ok (.getfield 42, 3) := by decide +kernel
theorem dX6_waysByStrip_44 : decode cX6_waysByStrip 44 = .ok (.getfield 145, 3) := by decide +kernel
theorem dX6_waysByStrip_47 : decode cX6_waysByStrip 47 = .ok (.iconst 2, 1) := by decide +kernel
theorem dX6_waysByStrip_48 : decode cX6_waysByStrip 48 = .ok (.iload 4, 2) := by decide +kernel
theorem dX6_waysByStrip_50 : decode cX6_waysByStrip 50 = .ok (.iastore, 1) := by decide +kernel
theorem dX6_waysByStrip_51 : decode cX6_waysByStrip 51 = .ok (.aload_n 0, 1) := by decide +kernel
theorem dX6_waysByStrip_52 : decode cX6_waysByStrip 52 = .ok (.getfield 28, 3) := by decide +kernel
theorem dX6_waysByStrip_55 : decode cX6_waysByStrip 55 = .ok (.aload_n 0, 1) := by decide +kernel
theorem dX6_waysByStrip_56 : decode cX6_waysByStrip 56 = .ok (.getfield 12, 3) := by decide +kernel
theorem dX6_waysByStrip_59 : decode cX6_waysByStrip 59 = .ok (.getfield 79, 3) := by decide +kernel
theorem dX6_waysByStrip_62 : decode cX6_waysByStrip 62 = .ok (.aload_n 0, 1) := by decide +kernel
theorem dX6_waysByStrip_63 : decode cX6_waysByStrip 63 = .ok (.getfield 42, 3) := by decide +kernel
theorem dX6_waysByStrip_66 : decode cX6_waysByStrip 66 = .ok (.iconst (-1), 1) := by decide +kernel
theorem dX6_waysByStrip_67 : decode cX6_waysByStrip 67 = .ok (.invokevirtual 194, 3) := by decide +kernel
theorem dX6_waysByStrip_70 : decode cX6_waysByStrip 70 = .ok (.iload_n 2, 1) := by decide +kernel
theorem dX6_waysByStrip_71 : decode cX6_waysByStrip 71 = .ok (.aload_n 0, 1) := by decide +kernel
theorem dX6_waysByStrip_72 : decode cX6_waysByStrip 72 = .ok (.getfield 28, 3) := by decide +kernel
theorem dX6_waysByStrip_75 : decode cX6_waysByStrip 75 = .ok (.getfield 168, 3) := by decide +kernel
theorem dX6_waysByStrip_78 : decode cX6_waysByStrip 78 = .ok (.invokestatic 197, 3) := by decide +kernel
theorem dX6_waysByStrip_81 : decode cX6_waysByStrip 81 = .ok (.ior, 1) := by decide +kernel
theorem dX6_waysByStrip_82 : decode cX6_waysByStrip 82 = .ok (.istore_n 2, 1) := by decide +kernel
theorem dX6_waysByStrip_83 : decode cX6_waysByStrip 83 = .ok (.iinc 4 1, 3) := by decide +kernel
theorem dX6_waysByStrip_86 : decode cX6_waysByStrip 86 = .ok (.goto (-63), 3) := by decide +kernel
theorem dX6_waysByStrip_89 : decode cX6_waysByStrip 89 = .ok (.iinc 3 1, 3) := by decide +kernel
theorem dX6_waysByStrip_92 : decode cX6_waysByStrip 92 = .ok (.goto (-78), 3) := by decide +kernel
theorem dX6_waysByStrip_95 : decode cX6_waysByStrip 95 = .ok (.iload_n 2, 1) := by decide +kernel
theorem dX6_waysByStrip_96 : decode cX6_waysByStrip 96 = .ok (.ireturn, 1) := by decide +kernel
theorem dX6_least_0 : decode cX6_least 0 = .ok (.aload_n 0, 1) := by decide +kernel
theorem dX6_least_1 : decode cX6_least 1 = .ok (.getfield 12, 3) := by decide +kernel
theorem dX6_least_4 : decode cX6_least 4 = .ok (.iload_n 1, 1) := by decide +kernel
theorem dX6_least_5 : decode cX6_least 5 = .ok (.invokevirtual 116, 3) := by decide +kernel
theorem dX6_least_8 : decode cX6_least 8 = .ok (.astore_n 3, 1) := by decide +kernel
theorem dX6_least_9 : decode cX6_least 9 = .ok (.aload_n 3, 1) := by decide +kernel
theorem dX6_least_10 : decode cX6_least 10 = .ok (.ifnull 12, 3) := by decide +kernel
theorem dX6_least_13 : decode cX6_least 13 = .ok (.iload_n 2, 1) := by decide +kernel
theorem dX6_least_14 : decode cX6_least 14 = .ok (.bipush 7, 2) := by decide +kernel
theorem dX6_least_16 : decode cX6_least 16 = .ok (.invokestatic 57, 3) := by decide +kernel
theorem dX6_least_19 : decode cX6_least 19 = .ok (.ifCond .eq 5, 3) := by decide +kernel
theorem dX6_least_22 : decode cX6_least 22 = .ok (.iconst (-1), 1) := by decide +kernel
theorem dX6_least_23 : decode cX6_least 23 = .ok (.ireturn, 1) := by decide +kernel
theorem dX6_least_24 : decode cX6_least 24 = .ok (.aload_n 3, 1) := by decide +kernel
theorem dX6_least_25 : decode cX6_least 25 = .ok (.getfield 141, 3) := by decide +kernel
theorem dX6_least_28 : decode cX6_least 28 = .ok (.ifCond .ne 6, 3) := by decide +kernel
theorem dX6_least_31 : decode cX6_least 31 = .ok (.bipush (-3), 2) := by decide +kernel
theorem dX6_least_33 : decode cX6_least 33 = .ok (.ireturn, 1) := by decide +kernel
theorem dX6_least_34 : decode cX6_least 34 = .ok (.aload_n 0, 1) := by decide +kernel
theorem dX6_least_35 : decode cX6_least 35 = .ok (.getfield 42, 3) := by decide +kernel
theorem dX6_least_38 : decode cX6_least 38 = .ok (.aload_n 3, 1) := by decide +kernel
theorem dX6_least_39 : decode cX6_least 39 = .ok (.invokevirtual 183, 3) := by decide +kernel
theorem dX6_least_42 : decode cX6_least 42 = .ok (.aload_n 0, 1) := by decide +kernel
theorem dX6_least_43 : decode cX6_least 43 = .ok (.getfield 42, 3) := by decide +kernel
theorem dX6_least_46 : decode cX6_least 46 = .ok (.getfield 145, 3) := by decide +kernel
theorem dX6_least_49 : decode cX6_least 49 = .ok (.iconst 0, 1) := by decide +kernel
theorem dX6_least_50 : decode cX6_least 50 = .ok (.iload_n 2, 1) := by decide +kernel
theorem dX6_least_51 : decode cX6_least 51 = .ok (.iastore, 1) := by decide +kernel
theorem dX6_least_52 : decode cX6_least 52 = .ok (.aload_n 0, 1) := by decide +kernel
theorem dX6_least_53 : decode cX6_least 53 = .ok (.getfield 42, 3) := by decide +kernel
theorem dX6_least_56 : decode cX6_least 56 = .ok (.getfield 145, 3) := by decide +kernel
theorem dX6_least_59 : decode cX6_least 59 = .ok (.iconst 5, 1) := by decide +kernel
theorem dX6_least_60 : decode cX6_least 60 = .ok (.iconst 0, 1) := by decide +kernel
theorem dX6_least_61 : decode cX6_least 61 = .ok (.iastore, 1) := by decide +kernel
theorem dX6_least_62 : decode cX6_least 62 = .ok (.aload_n 0, 1) := by decide +kernel
theorem dX6_least_63 : decode cX6_least 63 = .ok (.getfield 28, 3) := by decide +kernel
theorem dX6_least_66 : decode cX6_least 66 = .ok (.aload_n 0, 1) := by decide +kernel
theorem dX6_least_67 : decode cX6_least 67 = .ok (.getfield 12, 3) := by decide +kernel
theorem dX6_least_70 : decode cX6_least 70 = .ok (.getfield 79, 3) := by decide +kernel
theorem dX6_least_73 : decode cX6_least 73 = .ok (.aload_n 0, 1) := by decide +kernel
theorem dX6_least_74 : decode cX6_least 74 = .ok (.getfield 42, 3) := by decide +kernel
theorem dX6_least_77 : decode cX6_least 77 = .ok (.invokevirtual 190, 3) := by decide +kernel
theorem dX6_least_80 : decode cX6_least 80 = .ok (.iconst 0, 1) := by decide +kernel
theorem dX6_least_81 : decode cX6_least 81 = .ok (.istore 4, 2) := by decide +kernel
theorem dX6_least_83 : decode cX6_least 83 = .ok (.iload 4, 2) := by decide +kernel
theorem dX6_least_85 : decode cX6_least 85 = .ok (.bipush 9, 2) := by decide +kernel
theorem dX6_least_87 : decode cX6_least 87 = .ok (.if_icmp .gt 42, 3) := by decide +kernel
theorem dX6_least_90 : decode cX6_least 90 = .ok (.aload_n 0, 1) := by decide +kernel
theorem dX6_least_91 : decode cX6_least 91 = .ok (.getfield 42, 3) := by decide +kernel
theorem dX6_least_94 : decode cX6_least 94 = .ok (.getfield 145, 3) := by decide +kernel
theorem dX6_least_97 : decode cX6_least 97 = .ok (.iconst 3, 1) := by decide +kernel
theorem dX6_least_98 : decode cX6_least 98 = .ok (.iload 4, 2) := by decide +kernel
theorem dX6_least_100 : decode cX6_least 100 = .ok (.iastore, 1) := by decide +kernel
theorem dX6_least_101 : decode cX6_least 101 = .ok (.aload_n 0, 1) := by decide +kernel
theorem dX6_least_102 : decode cX6_least 102 = .ok (.invokevirtual 203, 3) := by decide +kernel
theorem dX6_least_105 : decode cX6_least 105 = .ok (.istore 5, 2) := by decide +kernel
theorem dX6_least_107 : decode cX6_least 107 = .ok (.iload 5, 2) := by decide +kernel
theorem dX6_least_109 : decode cX6_least 109 = .ok (.bipush (-5), 2) := by decide +kernel
theorem dX6_least_111 : decode cX6_least 111 = .ok (.if_icmp .eq 12, 3) := by decide +kernel
theorem dX6_least_114 : decode cX6_least 114 = .ok (.bipush 100, 2) := by decide +kernel
theorem dX6_least_116 : decode cX6_least 116 = .ok (.iload 4, 2) := by decide +kernel
theorem dX6_least_118 : decode cX6_least 118 = .ok (.imul, 1) := by decide +kernel
theorem dX6_least_119 : decode cX6_least 119 = .ok (.iload 5, 2) := by decide +kernel
theorem dX6_least_121 : decode cX6_least 121 = .ok (.iadd, 1) := by decide +kernel
theorem dX6_least_122 : decode cX6_least 122 = .ok (.ireturn, 1) := by decide +kernel
theorem dX6_least_123 : decode cX6_least 123 = .ok (.iinc 4 1, 3) := by decide +kernel
theorem dX6_least_126 : decode cX6_least 126 = .ok (.goto (-43), 3) := by decide +kernel
theorem dX6_least_129 : decode cX6_least 129 = .ok (.bipush (-5), 2) := by decide +kernel
theorem dX6_least_131 : decode cX6_least 131 = .ok (.ireturn, 1) := by decide +kernel
theorem dX6_leastStrip_0 : decode cX6_leastStrip 0 = .ok (.iconst 0, 1) := by decide +kernel
theorem dX6_leastStrip_1 : decode cX6_leastStrip 1 = .ok (.istore_n 1, 1) := by decide +kernel
theorem dX6_leastStrip_2 : decode cX6_leastStrip 2 = .ok (.iload_n 1, 1) := by decide +kernel
theorem dX6_leastStrip_3 : decode cX6_leastStrip 3 = .ok (.bipush 9, 2) := by decide +kernel
theorem dX6_leastStrip_5 : decode cX6_leastStrip 5 = .ok (.if_icmp .gt 79, 3) := by decide +kernel
theorem dX6_leastStrip_8 : decode cX6_leastStrip 8 = .ok (.iconst 0, 1) := by decide +kernel
theorem dX6_leastStrip_9 : decode cX6_leastStrip 9 = .ok (.istore_n 2, 1) := by decide +kernel
theorem dX6_leastStrip_10 : decode cX6_leastStrip 10 = .ok (.iload_n 2, 1) := by decide +kernel
theorem dX6_leastStrip_11 : decode cX6_leastStrip 11 = .ok (.bipush 9, 2) := by decide +kernel
theorem dX6_leastStrip_13 : decode cX6_leastStrip 13 = .ok (.if_icmp .gt 65, 3) := by decide +kernel
theorem dX6_leastStrip_16 : decode cX6_leastStrip 16 = .ok (.aload_n 0, 1) := by decide +kernel
theorem dX6_leastStrip_17 : decode cX6_leastStrip 17 = .ok (.getfield 42, 3) := by decide +kernel
theorem dX6_leastStrip_20 : decode cX6_leastStrip 20 = .ok (.getfield 145, 3) := by decide +kernel
theorem dX6_leastStrip_23 : decode cX6_leastStrip 23 = .ok (.iconst 1, 1) := by decide +kernel
theorem dX6_leastStrip_24 : decode cX6_leastStrip 24 = .ok (.iload_n 1, 1) := by decide +kernel
theorem dX6_leastStrip_25 : decode cX6_leastStrip 25 = .ok (.iastore, 1) := by decide +kernel
theorem dX6_leastStrip_26 : decode cX6_leastStrip 26 = .ok (.aload_n 0, 1) := by decide +kernel
theorem dX6_leastStrip_27 : decode cX6_leastStrip 27 = .ok (.getfield 42, 3) := by decide +kernel
theorem dX6_leastStrip_30 : decode cX6_leastStrip 30 = .ok (.getfield 145, 3) := by decide +kernel
theorem dX6_leastStrip_33 : decode cX6_leastStrip 33 = .ok (.iconst 2, 1) := by decide +kernel
theorem dX6_leastStrip_34 : decode cX6_leastStrip 34 = .ok (.iload_n 2, 1) := by decide +kernel
theorem dX6_leastStrip_35 : decode cX6_leastStrip 35 = .ok (.iastore, 1) := by decide +kernel
theorem dX6_leastStrip_36 : decode cX6_leastStrip 36 = .ok (.aload_n 0, 1) := by decide +kernel
theorem dX6_leastStrip_37 : decode cX6_leastStrip 37 = .ok (.getfield 28, 3) := by decide +kernel
theorem dX6_leastStrip_40 : decode cX6_leastStrip 40 = .ok (.aload_n 0, 1) := by decide +kernel
theorem dX6_leastStrip_41 : decode cX6_leastStrip 41 = .ok (.getfield 12, 3) := by decide +kernel
theorem dX6_leastStrip_44 : decode cX6_leastStrip 44 = .ok (.getfield 79, 3) := by decide +kernel
theorem dX6_leastStrip_47 : decode cX6_leastStrip 47 = .ok (.aload_n 0, 1) := by decide +kernel
theorem dX6_leastStrip_48 : decode cX6_leastStrip 48 = .ok (.getfield 42, 3) := by decide +kernel
theorem dX6_leastStrip_51 : decode cX6_leastStrip 51 = .ok (.iconst (-1), 1) := by decide +kernel
theorem dX6_leastStrip_52 : decode cX6_leastStrip 52 = .ok (.invokevirtual 194, 3) := by decide +kernel
theorem dX6_leastStrip_55 : decode cX6_leastStrip 55 = .ok (.aload_n 0, 1) := by decide +kernel
theorem dX6_leastStrip_56 : decode cX6_leastStrip 56 = .ok (.getfield 28, 3) := by decide +kernel
theorem dX6_leastStrip_59 : decode cX6_leastStrip 59 = .ok (.getfield 165, 3) := by decide +kernel
theorem dX6_leastStrip_62 : decode cX6_leastStrip 62 = .ok (.ifCond .ne 10, 3) := by decide +kernel
theorem dX6_leastStrip_65 : decode cX6_leastStrip 65 = .ok (.bipush 10, 2) := by decide +kernel
theorem dX6_leastStrip_67 : decode cX6_leastStrip 67 = .ok (.iload_n 1, 1) := by decide +kernel
theorem dX6_leastStrip_68 : decode cX6_leastStrip 68 = .ok (.imul, 1) := by decide +kernel
theorem dX6_leastStrip_69 : decode cX6_leastStrip 69 = .ok (.iload_n 2, 1) := by decide +kernel
theorem dX6_leastStrip_70 : decode cX6_leastStrip 70 = .ok (.iadd, 1) := by decide +kernel
theorem dX6_leastStrip_71 : decode cX6_leastStrip 71 = .ok (.ireturn, 1) := by decide +kernel
theorem dX6_leastStrip_72 : decode cX6_leastStrip 72 = .ok (.iinc 2 1, 3) := by decide +kernel
theorem dX6_leastStrip_75 : decode cX6_leastStrip 75 = .ok (.goto (-65), 3) := by decide +kernel
theorem dX6_leastStrip_78 : decode cX6_leastStrip 78 = .ok (.iinc 1 1, 3) := by decide +kernel
theorem dX6_leastStrip_81 : decode cX6_leastStrip 81 = .ok (.goto (-79), 3) := by decide +kernel
theorem dX6_leastStrip_84 : decode cX6_leastStrip 84 = .ok (.bipush (-5), 2) := by decide +kernel
theorem dX6_leastStrip_86 : decode cX6_leastStrip 86 = .ok (.ireturn, 1) := by decide +kernel
theorem dX6_gusts_0 : decode cX6_gusts 0 = .ok (.iload_n 1, 1) := by decide +kernel
theorem dX6_gusts_1 : decode cX6_gusts 1 = .ok (.bipush 10, 2) := by decide +kernel
theorem dX6_gusts_3 : decode cX6_gusts 3 = .ok (.invokestatic 57, 3) := by decide +kernel
theorem dX6_gusts_6 : decode cX6_gusts 6 = .ok (.ifCond .eq 6, 3) := by decide +kernel
theorem dX6_gusts_9 : decode cX6_gusts 9 = .ok (.bipush (-2), 2) := by decide +kernel
theorem dX6_gusts_11 : decode cX6_gusts 11 = .ok (.ireturn, 1) := by decide +kernel
theorem dX6_gusts_12 : decode cX6_gusts 12 = .ok (.aload_n 0, 1) := by decide +kernel
theorem dX6_gusts_13 : decode cX6_gusts 13 = .ok (.getfield 12, 3) := by decide +kernel
theorem dX6_gusts_16 : decode cX6_gusts 16 = .ok (.getfield 98, 3) := by decide +kernel
theorem dX6_gusts_19 : decode cX6_gusts 19 = .ok (.istore_n 2, 1) := by decide +kernel
theorem dX6_gusts_20 : decode cX6_gusts 20 = .ok (.aload_n 0, 1) := by decide +kernel
theorem dX6_gusts_21 : decode cX6_gusts 21 = .ok (.getfield 12, 3) := by decide +kernel
theorem dX6_gusts_24 : decode cX6_gusts 24 = .ok (.iload_n 1, 1) := by decide +kernel
theorem dX6_gusts_25 : decode cX6_gusts 25 = .ok (.putfield 98, 3) := by decide +kernel
theorem dX6_gusts_28 : decode cX6_gusts 28 = .ok (.iload_n 2, 1) := by decide +kernel
theorem dX6_gusts_29 : decode cX6_gusts 29 = .ok (.ireturn, 1) := by decide +kernel
theorem dX6_sure_0 : decode cX6_sure 0 = .ok (.aload_n 0, 1) := by decide +kernel
theorem dX6_sure_1 : decode cX6_sure 1 = .ok (.getfield 12, 3) := by decide +kernel
theorem dX6_sure_4 : decode cX6_sure 4 = .ok (.iload_n 1, 1) := by decide +kernel
theorem dX6_sure_5 : decode cX6_sure 5 = .ok (.invokevirtual 116, 3) := by decide +kernel
theorem dX6_sure_8 : decode cX6_sure 8 = .ok (.astore 4, 2) := by decide +kernel
theorem dX6_sure_10 : decode cX6_sure 10 = .ok (.aload 4, 2) := by decide +kernel
theorem dX6_sure_12 : decode cX6_sure 12 = .ok (.ifnull 27, 3) := by decide +kernel
theorem dX6_sure_15 : decode cX6_sure 15 = .ok (.iload_n 2, 1) := by decide +kernel
theorem dX6_sure_16 : decode cX6_sure 16 = .ok (.iconst 1, 1) := by decide +kernel
theorem dX6_sure_17 : decode cX6_sure 17 = .ok (.invokestatic 57, 3) := by decide +kernel
theorem dX6_sure_20 : decode cX6_sure 20 = .ok (.ifCond .ne 19, 3) := by decide +kernel
theorem dX6_sure_23 : decode cX6_sure 23 = .ok (.iload_n 3, 1) := by decide +kernel
theorem dX6_sure_24 : decode cX6_sure 24 = .ok (.iconst 1, 1) := by decide +kernel
theorem dX6_sure_25 : decode cX6_sure 25 = .ok (.invokestatic 57, 3) := by decide +kernel
theorem dX6_sure_28 : decode cX6_sure 28 = .ok (.ifCond .ne 11, 3) := by decide +kernel
theorem dX6_sure_31 : decode cX6_sure 31 = .ok (.aload 4, 2) := by decide +kernel
theorem dX6_sure_33 : decode cX6_sure 33 = .ok (.getfield 141, 3) := by decide +kernel
theorem dX6_sure_36 : decode cX6_sure 36 = .ok (.ifCond .ne 7, 3) := by decide +kernel
theorem dX6_sure_39 : decode cX6_sure 39 = .ok (.ldc2_w 177, 3) := by decide +kernel
theorem dX6_sure_42 : decode cX6_sure 42 = .ok (.lreturn, 1) := by decide +kernel
theorem dX6_sure_43 : decode cX6_sure 43 = .ok (.bipush 80, 2) := by decide +kernel
theorem dX6_sure_45 : decode cX6_sure 45 = .ok (.istore 5, 2) := by decide +kernel
theorem dX6_sure_47 : decode cX6_sure 47 = .ok (.iconst 0, 1) := by decide +kernel
theorem dX6_sure_48 : decode cX6_sure 48 = .ok (.istore 6, 2) := by decide +kernel
theorem dX6_sure_50 : decode cX6_sure 50 = .ok (.iconst (-1), 1) := by decide +kernel
theorem dX6_sure_51 : decode cX6_sure 51 = .ok (.istore 7, 2) := by decide +kernel
theorem dX6_sure_53 : decode cX6_sure 53 = .ok (.iload 7, 2) := by decide +kernel
theorem dX6_sure_55 : decode cX6_sure 55 = .ok (.bipush 8, 2) := by decide +kernel
theorem dX6_sure_57 : decode cX6_sure 57 = .ok (.if_icmp .ge 105, 3) := by decide +kernel
theorem dX6_sure_60 : decode cX6_sure 60 = .ok (.aload_n 0, 1) := by decide +kernel
theorem dX6_sure_61 : decode cX6_sure 61 = .ok (.getfield 12, 3) := by decide +kernel
theorem dX6_sure_64 : decode cX6_sure 64 = .ok (.iload 7, 2) := by decide +kernel
theorem dX6_sure_66 : decode cX6_sure 66 = .ok (.invokevirtual 207, 3) := by decide +kernel
theorem dX6_sure_69 : decode cX6_sure 69 = .ok (.istore 8, 2) := by decide +kernel
theorem dX6_sure_71 : decode cX6_sure 71 = .ok (.iload 8, 2) := by decide +kernel
theorem dX6_sure_73 : decode cX6_sure 73 = .ok (.ifCond .le 83, 3) := by decide +kernel
theorem dX6_sure_76 : decode cX6_sure 76 = .ok (.aload_n 0, 1) := by decide +kernel
theorem dX6_sure_77 : decode cX6_sure 77 = .ok (.getfield 28, 3) := by decide +kernel
theorem dX6_sure_80 : decode cX6_sure 80 = .ok (.aload_n 0, 1) := by decide +kernel
theorem dX6_sure_81 : decode cX6_sure 81 = .ok (.getfield 12, 3) := by decide +kernel
theorem dX6_sure_84 : decode cX6_sure 84 = .ok (.aload 4, 2) := by decide +kernel
theorem dX6_sure_86 : decode cX6_sure 86 = .ok (.iload 7, 2) := by decide +kernel
theorem dX6_sure_88 : decode cX6_sure 88 = .ok (.invokevirtual 149, 3) := by decide +kernel
theorem dX6_sure_91 : decode cX6_sure 91 = .ok (.iload_n 2, 1) := by decide +kernel
theorem dX6_sure_92 : decode cX6_sure 92 = .ok (.ifCond .ne 21, 3) := by decide +kernel
theorem dX6_sure_95 : decode cX6_sure 95 = .ok (.aload_n 0, 1) := by decide +kernel
theorem dX6_sure_96 : decode cX6_sure 96 = .ok (.getfield 28, 3) := by decide +kernel
theorem dX6_sure_99 : decode cX6_sure 99 = .ok (.getfield 165, 3) := by decide +kernel
theorem dX6_sure_102 : decode cX6_sure 102 = .ok (.ifCond .ne 7, 3) := by decide +kernel
theorem dX6_sure_105 : decode cX6_sure 105 = .ok (.iconst 1, 1) := by decide +kernel
theorem dX6_sure_106 : decode cX6_sure 106 = .ok (.goto 32, 3) := by decide +kernel
theorem dX6_sure_109 : decode cX6_sure 109 = .ok (.iconst 0, 1) := by decide +kernel
theorem dX6_sure_110 : decode cX6_sure 110 = .ok (.goto 28, 3) := by decide +kernel
theorem dX6_sure_113 : decode cX6_sure 113 = .ok (.aload_n 0, 1) := by decide +kernel
theorem dX6_sure_114 : decode cX6_sure 114 = .ok (.getfield 28, 3) := by decide +kernel
theorem dX6_sure_117 : decode cX6_sure 117 = .ok (.getfield 171, 3) := by decide +kernel
theorem dX6_sure_120 : decode cX6_sure 120 = .ok (.aload_n 0, 1) := by decide +kernel
theorem dX6_sure_121 : decode cX6_sure 121 = .ok (.getfield 12, 3) := by decide +kernel
theorem dX6_sure_124 : decode cX6_sure 124 = .ok (.getfield 49, 3) := by decide +kernel
theorem dX6_sure_127 : decode cX6_sure 127 = .ok (.land, 1) := by decide +kernel
theorem dX6_sure_128 : decode cX6_sure 128 = .ok (.lconst 0, 1) := by decide +kernel
theorem dX6_sure_129 : decode cX6_sure 129 = .ok (.lcmp, 1) := by decide +kernel
theorem dX6_sure_130 : decode cX6_sure 130 = .ok (.ifCond .eq 7, 3) := by decide +kernel
theorem dX6_sure_133 : decode cX6_sure 133 = .ok (.iconst 1, 1) := by decide +kernel
theorem dX6_sure_134 : decode cX6_sure 134 = .ok (.goto 4, 3) := by decide +kernel
theorem dX6_sure_137 : decode cX6_sure 137 = .ok (.iconst 0, 1) := by decide +kernel
theorem dX6_sure_138 : decode cX6_sure 138 = .ok (.istore 9, 2) := by decide +kernel
theorem dX6_sure_140 : decode cX6_sure 140 = .ok (.iload 6, 2) := by decide +kernel
theorem dX6_sure_142 : decode cX6_sure 142 = .ok (.iload 9, 2) := by decide +kernel
theorem dX6_sure_144 : decode cX6_sure 144 = .ok (.ifCond .eq 8, 3) := by decide +kernel
theorem dX6_sure_147 : decode cX6_sure 147 = .ok (.iload 8, 2) := by decide +kernel
theorem dX6_sure_149 : decode cX6_sure 149 = .ok (.goto 4, 3) := by decide +kernel
theorem dX6_sure_152 : decode cX6_sure 152 = .ok (.iconst 0, 1) := by decide +kernel
theorem dX6_sure_153 : decode cX6_sure 153 = .ok (.iadd, 1) := by decide +kernel
theorem dX6_sure_154 : decode cX6_sure 154 = .ok (.istore 6, 2) := by decide +kernel
theorem dX6_sure_156 : decode cX6_sure 156 = .ok (.iinc 7 1, 3) := by decide +kernel
theorem dX6_sure_159 : decode cX6_sure 159 = .ok (.goto (-106), 3) := by decide +kernel
theorem dX6_sure_162 : decode cX6_sure 162 = .ok (.iload 5, 2) := by decide +kernel
theorem dX6_sure_164 : decode cX6_sure 164 = .ok (.iload 6, 2) := by decide +kernel
theorem dX6_sure_166 : decode cX6_sure 166 = .ok (.invokestatic 210, 3) := by decide +kernel
theorem dX6_sure_169 : decode cX6_sure 169 = .ok (.istore 7, 2) := by decide +kernel
theorem dX6_sure_171 : decode cX6_sure 171 = .ok (.iload_n 3, 1) := by decide +kernel
theorem dX6_sure_172 : decode cX6_sure 172 = .ok (.ifCond .ne 8, 3) := by decide +kernel
theorem dX6_sure_175 : decode cX6_sure 175 = .ok (.iload 6, 2) := by decide +kernel
theorem dX6_sure_177 : decode cX6_sure 177 = .ok (.goto 5, 3) := by decide +kernel
theorem dX6_sure_180 : decode cX6_sure 180 = .ok (.iload 5, 2) := by decide +kernel
theorem dX6_sure_182 : decode cX6_sure 182 = .ok (.iload 7, 2) := by decide +kernel
theorem dX6_sure_184 : decode cX6_sure 184 = .ok (.idiv, 1) := by decide +kernel
theorem dX6_sure_185 : decode cX6_sure 185 = .ok (.i2l, 1) := by decide +kernel
theorem dX6_sure_186 : decode cX6_sure 186 = .ok (.lreturn, 1) := by decide +kernel
theorem dX6_stand_0 : decode cX6_stand 0 = .ok (.aload_n 0, 1) := by decide +kernel
theorem dX6_stand_1 : decode cX6_stand 1 = .ok (.getfield 12, 3) := by decide +kernel
theorem dX6_stand_4 : decode cX6_stand 4 = .ok (.iload_n 1, 1) := by decide +kernel
theorem dX6_stand_5 : decode cX6_stand 5 = .ok (.invokevirtual 116, 3) := by decide +kernel
theorem dX6_stand_8 : decode cX6_stand 8 = .ok (.astore_n 2, 1) := by decide +kernel
theorem dX6_stand_9 : decode cX6_stand 9 = .ok (.aload_n 2, 1) := by decide +kernel
theorem dX6_stand_10 : decode cX6_stand 10 = .ok (.ifnull 10, 3) := by decide +kernel
theorem dX6_stand_13 : decode cX6_stand 13 = .ok (.aload_n 2, 1) := by decide +kernel
theorem dX6_stand_14 : decode cX6_stand 14 = .ok (.getfield 141, 3) := by decide +kernel
theorem dX6_stand_17 : decode cX6_stand 17 = .ok (.ifCond .ne 7, 3) := by decide +kernel
theorem dX6_stand_20 : decode cX6_stand 20 = .ok (.ldc2_w 177, 3) := by decide +kernel
theorem dX6_stand_23 : decode cX6_stand 23 = .ok (.lreturn, 1) := by decide +kernel
theorem dX6_stand_24 : decode cX6_stand 24 = .ok (.aload_n 0, 1) := by decide +kernel
theorem dX6_stand_25 : decode cX6_stand 25 = .ok (.getfield 12, 3) := by decide +kernel
theorem dX6_stand_28 : decode cX6_stand 28 = .ok (.invokevirtual 214, 3) := by decide +kernel
theorem dX6_stand_31 : decode cX6_stand 31 = .ok (.aload_n 2, 1) := by decide +kernel
theorem dX6_stand_32 : decode cX6_stand 32 = .ok (.getfield 135, 3) := by decide +kernel
theorem dX6_stand_35 : decode cX6_stand 35 = .ok (.invokestatic 218, 3) := by decide +kernel
theorem dX6_stand_38 : decode cX6_stand 38 = .ok (.lor, 1) := by decide +kernel
theorem dX6_stand_39 : decode cX6_stand 39 = .ok (.lstore_n 3, 1) := by decide +kernel
theorem dX6_stand_40 : decode cX6_stand 40 = .ok (.iconst (-1), 1) := by decide +kernel
theorem dX6_stand_41 : decode cX6_stand 41 = .ok (.istore 5, 2) := by decide +kernel
theorem dX6_stand_43 : decode cX6_stand 43 = .ok (.iload 5, 2) := by decide +kernel
theorem dX6_stand_45 : decode cX6_stand 45 = .ok (.bipush 8, 2) := by decide +kernel
theorem dX6_stand_47 : decode cX6_stand 47 = .ok (.if_icmp .ge 45, 3) := by decide +kernel
theorem dX6_stand_50 : decode cX6_stand 50 = .ok (.aload_n 0, 1) := by decide +kernel
theorem dX6_stand_51 : decode cX6_stand 51 = .ok (.getfield 12, 3) := by decide +kernel
theorem dX6_stand_54 : decode cX6_stand 54 = .ok (.iload 5, 2) := by decide +kernel
theorem dX6_stand_56 : decode cX6_stand 56 = .ok (.invokevirtual 207, 3) := by decide +kernel
theorem dX6_stand_59 : decode cX6_stand 59 = .ok (.ifCond .le 27, 3) := by decide +kernel
theorem dX6_stand_62 : decode cX6_stand 62 = .ok (.aload_n 0, 1) := by decide +kernel
theorem dX6_stand_63 : decode cX6_stand 63 = .ok (.getfield 28, 3) := by decide +kernel
theorem dX6_stand_66 : decode cX6_stand 66 = .ok (.aload_n 0, 1) := by decide +kernel
theorem dX6_stand_67 : decode cX6_stand 67 = .ok (.getfield 12, 3) := by decide +kernel
theorem dX6_stand_70 : decode cX6_stand 70 = .ok (.aload_n 2, 1) := by decide +kernel
theorem dX6_stand_71 : decode cX6_stand 71 = .ok (.iload 5, 2) := by decide +kernel
theorem dX6_stand_73 : decode cX6_stand 73 = .ok (.invokevirtual 149, 3) := by decide +kernel
theorem dX6_stand_76 : decode cX6_stand 76 = .ok (.lload_n 3, 1) := by decide +kernel
theorem dX6_stand_77 : decode cX6_stand 77 = .ok (.aload_n 0, 1) := by decide +kernel
theorem dX6_stand_78 : decode cX6_stand 78 = .ok (.getfield 28, 3) := by decide +kernel
theorem dX6_stand_81 : decode cX6_stand 81 = .ok (.getfield 171, 3) := by decide +kernel
theorem dX6_stand_84 : decode cX6_stand 84 = .ok (.lor, 1) := by decide +kernel
theorem dX6_stand_85 : decode cX6_stand 85 = .ok (.lstore_n 3, 1) := by decide +kernel
theorem dX6_stand_86 : decode cX6_stand 86 = .ok (.iinc 5 1, 3) := by decide +kernel
theorem dX6_stand_89 : decode cX6_stand 89 = .ok (.goto (-46), 3) := by decide +kernel
theorem dX6_stand_92 : decode cX6_stand 92 = .ok (.lload_n 3, 1) := by decide +kernel
theorem dX6_stand_93 : decode cX6_stand 93 = .ok (.ldc2_w 222, 3) := by decide +kernel
theorem dX6_stand_96 : decode cX6_stand 96 = .ok (.lxor, 1) := by decide +kernel
theorem dX6_stand_97 : decode cX6_stand 97 = .ok (.lreturn, 1) := by decide +kernel
theorem dX6_order_0 : decode cX6_order 0 = .ok (.iload_n 1, 1) := by decide +kernel
theorem dX6_order_1 : decode cX6_order 1 = .ok (.iconst 4, 1) := by decide +kernel
theorem dX6_order_2 : decode cX6_order 2 = .ok (.invokestatic 57, 3) := by decide +kernel
theorem dX6_order_5 : decode cX6_order 5 = .ok (.ifCond .eq 5, 3) := by decide +kernel
theorem dX6_order_8 : decode cX6_order 8 = .ok (.iconst (-1), 1) := by decide +kernel
theorem dX6_order_9 : decode cX6_order 9 = .ok (.ireturn, 1) := by decide +kernel
theorem dX6_order_10 : decode cX6_order 10 = .ok (.aload_n 0, 1) := by decide +kernel
theorem dX6_order_11 : decode cX6_order 11 = .ok (.getfield 12, 3) := by decide +kernel
theorem dX6_order_14 : decode cX6_order 14 = .ok (.invokevirtual 224, 3) := by decide +kernel
theorem dX6_order_17 : decode cX6_order 17 = .ok (.istore_n 2, 1) := by decide +kernel
theorem dX6_order_18 : decode cX6_order 18 = .ok (.iload_n 2, 1) := by decide +kernel
theorem dX6_order_19 : decode cX6_order 19 = .ok (.invokestatic 227, 3) := by decide +kernel
theorem dX6_order_22 : decode cX6_order 22 = .ok (.istore_n 3, 1) := by decide +kernel
theorem dX6_order_23 : decode cX6_order 23 = .ok (.iload_n 3, 1) := by decide +kernel
theorem dX6_order_24 : decode cX6_order 24 = .ok (.iconst 5, 1) := by decide +kernel
theorem dX6_order_25 : decode cX6_order 25 = .ok (.if_icmp .le 6, 3) := by decide +kernel
theorem dX6_order_28 : decode cX6_order 28 = .ok (.bipush (-9), 2) := by decide +kernel
theorem dX6_order_30 : decode cX6_order 30 = .ok (.ireturn, 1) := by decide +kernel
theorem dX6_order_31 : decode cX6_order 31 = .ok (.bipush (-5), 2) := by decide +kernel
theorem dX6_order_33 : decode cX6_order 33 = .ok (.istore 4, 2) := by decide +kernel
theorem dX6_order_35 : decode cX6_order 35 = .ok (.iconst 0, 1) := by decide +kernel
theorem dX6_order_36 : decode cX6_order 36 = .ok (.istore 5, 2) := by decide +kernel
theorem dX6_order_38 : decode cX6_order 38 = .ok (.iload 5, 2) := by decide +kernel
theorem dX6_order_40 : decode cX6_order 40 = .ok (.iload_n 3, 1) := by decide +kernel
theorem dX6_order_41 : decode cX6_order 41 = .ok (.if_icmp .ge 46, 3) := by decide +kernel
theorem dX6_order_44 : decode cX6_order 44 = .ok (.aload_n 0, 1) := by decide +kernel
theorem dX6_order_45 : decode cX6_order 45 = .ok (.iload_n 2, 1) := by decide +kernel
theorem dX6_order_46 : decode cX6_order 46 = .ok (.invokevirtual 231, 3) := by decide +kernel
theorem dX6_order_49 : decode cX6_order 49 = .ok (.istore 6, 2) := by decide +kernel
theorem dX6_order_51 : decode cX6_order 51 = .ok (.iload 6, 2) := by decide +kernel
theorem dX6_order_53 : decode cX6_order 53 = .ok (.bipush (-5), 2) := by decide +kernel
theorem dX6_order_55 : decode cX6_order 55 = .ok (.if_icmp .ne 6, 3) := by decide +kernel
theorem dX6_order_58 : decode cX6_order 58 = .ok (.bipush (-5), 2) := by decide +kernel
theorem dX6_order_60 : decode cX6_order 60 = .ok (.ireturn, 1) := by decide +kernel
theorem dX6_order_61 : decode cX6_order 61 = .ok (.iload 5, 2) := by decide +kernel
theorem dX6_order_63 : decode cX6_order 63 = .ok (.iload_n 1, 1) := by decide +kernel
theorem dX6_order_64 : decode cX6_order 64 = .ok (.if_icmp .ne 7, 3) := by decide +kernel
theorem dX6_order_67 : decode cX6_order 67 = .ok (.iload 6, 2) := by decide +kernel
theorem dX6_order_69 : decode cX6_order 69 = .ok (.istore 4, 2) := by decide +kernel
theorem dX6_order_71 : decode cX6_order 71 = .ok (.iload_n 2, 1) := by decide +kernel
theorem dX6_order_72 : decode cX6_order 72 = .ok (.iload 6, 2) := by decide +kernel
theorem dX6_order_74 : decode cX6_order 74 = .ok (.invokestatic 197, 3) := by decide +kernel
theorem dX6_order_77 : decode cX6_order 77 = .ok (.iconst (-1), 1) := by decide +kernel
theorem dX6_order_78 : decode cX6_order 78 = .ok (.ixor, 1) := by decide +kernel
theorem dX6_order_79 : decode cX6_order 79 = .ok (.iand, 1) := by decide +kernel
theorem dX6_order_80 : decode cX6_order 80 = .ok (.istore_n 2, 1) := by decide +kernel
theorem dX6_order_81 : decode cX6_order 81 = .ok (.iinc 5 1, 3) := by decide +kernel
theorem dX6_order_84 : decode cX6_order 84 = .ok (.goto (-46), 3) := by decide +kernel
theorem dX6_order_87 : decode cX6_order 87 = .ok (.iload 4, 2) := by decide +kernel
theorem dX6_order_89 : decode cX6_order 89 = .ok (.ireturn, 1) := by decide +kernel
theorem dX6_firstFree_0 : decode cX6_firstFree 0 = .ok (.iconst 0, 1) := by decide +kernel
theorem dX6_firstFree_1 : decode cX6_firstFree 1 = .ok (.istore_n 2, 1) := by decide +kernel
theorem dX6_firstFree_2 : decode cX6_firstFree 2 = .ok (.iload_n 2, 1) := by decide +kernel
theorem dX6_firstFree_3 : decode cX6_firstFree 3 = .ok (.aload_n 0, 1) := by decide +kernel
theorem dX6_firstFree_4 : decode cX6_firstFree 4 = .ok (.getfield 12, 3) := by decide +kernel
theorem dX6_firstFree_7 : decode cX6_firstFree 7 = .ok (.getfield 105, 3) := by decide +kernel
theorem dX6_firstFree_10 : decode cX6_firstFree 10 = .ok (.if_icmp .ge 88, 3) := by decide +kernel
theorem dX6_firstFree_13 : decode cX6_firstFree 13 = .ok (.iload_n 1, 1) := by decide +kernel
theorem dX6_firstFree_14 : decode cX6_firstFree 14 = .ok (.iload_n 2, 1) := by decide +kernel
theorem dX6_firstFree_15 : decode cX6_firstFree 15 = .ok (.invokestatic 197, 3) := by decide +kernel
theorem dX6_firstFree_18 : decode cX6_firstFree 18 = .ok (.iand, 1) := by decide +kernel
theorem dX6_firstFree_19 : decode cX6_firstFree 19 = .ok (.ifCond .eq 73, 3) := by decide +kernel
theorem dX6_firstFree_22 : decode cX6_firstFree 22 = .ok (.aload_n 0, 1) := by decide +kernel
theorem dX6_firstFree_23 : decode cX6_firstFree 23 = .ok (.getfield 28, 3) := by decide +kernel
theorem dX6_firstFree_26 : decode cX6_firstFree 26 = .ok (.aload_n 0, 1) := by decide +kernel
theorem dX6_firstFree_27 : decode cX6_firstFree 27 = .ok (.getfield 12, 3) := by decide +kernel
theorem dX6_firstFree_30 : decode cX6_firstFree 30 = .ok (.getfield 79, 3) := by decide +kernel
theorem dX6_firstFree_33 : decode cX6_firstFree 33 = .ok (.aload_n 0, 1) := by decide +kernel
theorem dX6_firstFree_34 : decode cX6_firstFree 34 = .ok (.getfield 12, 3) := by decide +kernel
theorem dX6_firstFree_37 : decode cX6_firstFree 37 = .ok (.getfield 108, 3) := by decide +kernel
theorem dX6_firstFree_40 : decode cX6_firstFree 40 = .ok (.iload_n 2, 1) := by decide +kernel
theorem dX6_firstFree_41 : decode cX6_firstFree 41 = .ok (.aaload, 1) := by decide +kernel
theorem dX6_firstFree_42 : decode cX6_firstFree 42 = .ok (.iconst (-1), 1) := by decide +kernel
theorem dX6_firstFree_43 : decode cX6_firstFree 43 = .ok (.invokevirtual 179, 3) := by decide +kernel
theorem dX6_firstFree_46 : decode cX6_firstFree 46 = .ok (.aload_n 0, 1) := by decide +kernel
theorem dX6_firstFree_47 : decode cX6_firstFree 47 = .ok (.getfield 28, 3) := by decide +kernel
theorem dX6_firstFree_50 : decode cX6_firstFree 50 = .ok (.aload_n 0, 1) := by decide +kernel
theorem dX6_firstFree_51 : decode cX6_firstFree 51 = .ok (.getfield 12, 3) := by decide +kernel
theorem dX6_firstFree_54 : decode cX6_firstFree 54 = .ok (.aload_n 0, 1) := by decide +kernel
theorem dX6_firstFree_55 : decode cX6_firstFree 55 = .ok (.getfield 12, 3) := by decide +kernel
theorem dX6_firstFree_58 : decode cX6_firstFree 58 = .ok (.getfield 108, 3) := by decide +kernel
theorem dX6_firstFree_61 : decode cX6_firstFree 61 = .ok (.iload_n 2, 1) := by decide +kernel
theorem dX6_firstFree_62 : decode cX6_firstFree 62 = .ok (.aaload, 1) := by decide +kernel
theorem dX6_firstFree_63 : decode cX6_firstFree 63 = .ok (.iload_n 1, 1) := by decide +kernel
theorem dX6_firstFree_64 : decode cX6_firstFree 64 = .ok (.invokevirtual 234, 3) := by decide +kernel
theorem dX6_firstFree_67 : decode cX6_firstFree 67 = .ok (.aload_n 0, 1) := by decide +kernel
theorem dX6_firstFree_68 : decode cX6_firstFree 68 = .ok (.getfield 28, 3) := by decide +kernel
theorem dX6_firstFree_71 : decode cX6_firstFree 71 = .ok (.getfield 165, 3) := by decide +kernel
theorem dX6_firstFree_74 : decode cX6_firstFree 74 = .ok (.iconst 2, 1) := by decide +kernel
theorem dX6_firstFree_75 : decode cX6_firstFree 75 = .ok (.if_icmp .eq 17, 3) := by decide +kernel
theorem dX6_firstFree_78 : decode cX6_firstFree 78 = .ok (.aload_n 0, 1) := by decide +kernel
theorem dX6_firstFree_79 : decode cX6_firstFree 79 = .ok (.getfield 28, 3) := by decide +kernel
theorem dX6_firstFree_82 : decode cX6_firstFree 82 = .ok (.getfield 174, 3) := by decide +kernel
theorem dX6_firstFree_85 : decode cX6_firstFree 85 = .ok (.bipush (-5), 2) := by decide +kernel
theorem dX6_firstFree_87 : decode cX6_firstFree 87 = .ok (.if_icmp .ne 5, 3) := by decide +kernel
theorem dX6_firstFree_90 : decode cX6_firstFree 90 = .ok (.iload_n 2, 1) := by decide +kernel
theorem dX6_firstFree_91 : decode cX6_firstFree 91 = .ok (.ireturn, 1) := by decide +kernel
theorem dX6_firstFree_92 : decode cX6_firstFree 92 = .ok (.iinc 2 1, 3) := by decide +kernel
theorem dX6_firstFree_95 : decode cX6_firstFree 95 = .ok (.goto (-93), 3) := by decide +kernel
theorem dX6_firstFree_98 : decode cX6_firstFree 98 = .ok (.bipush (-5), 2) := by decide +kernel
theorem dX6_firstFree_100 : decode cX6_firstFree 100 = .ok (.ireturn, 1) := by decide +kernel
theorem dX6_hung_0 : decode cX6_hung 0 = .ok (.iconst 0, 1) := by decide +kernel
theorem dX6_hung_1 : decode cX6_hung 1 = .ok (.istore_n 1, 1) := by decide +kernel
theorem dX6_hung_2 : decode cX6_hung 2 = .ok (.iconst 0, 1) := by decide +kernel
theorem dX6_hung_3 : decode cX6_hung 3 = .ok (.istore_n 2, 1) := by decide +kernel
theorem dX6_hung_4 : decode cX6_hung 4 = .ok (.iload_n 2, 1) := by decide +kernel
theorem dX6_hung_5 : decode cX6_hung 5 = .ok (.aload_n 0, 1) := by decide +kernel
theorem dX6_hung_6 : decode cX6_hung 6 = .ok (.getfield 12, 3) := by decide +kernel
theorem dX6_hung_9 : decode cX6_hung 9 = .ok (.getfield 105, 3) := by decide +kernel
theorem dX6_hung_12 : decode cX6_hung 12 = .ok (.if_icmp .ge 59, 3) := by decide +kernel
theorem dX6_hung_15 : decode cX6_hung 15 = .ok (.aload_n 0, 1) := by decide +kernel
theorem dX6_hung_16 : decode cX6_hung 16 = .ok (.getfield 12, 3) := by decide +kernel
theorem dX6_hung_19 : decode cX6_hung 19 = .ok (.getfield 108, 3) := by decide +kernel
theorem dX6_hung_22 : decode cX6_hung 22 = .ok (.iload_n 2, 1) := by decide +kernel
theorem dX6_hung_23 : decode cX6_hung 23 = .ok (.aaload, 1) := by decide +kernel
theorem dX6_hung_24 : decode cX6_hung 24 = .ok (.astore_n 3, 1) := by decide +kernel
theorem dX6_hung_25 : decode cX6_hung 25 = .ok (.aload_n 3, 1) := by decide +kernel
theorem dX6_hung_26 : decode cX6_hung 26 = .ok (.getfield 141, 3) := by decide +kernel
theorem dX6_hung_29 : decode cX6_hung 29 = .ok (.ifCond .eq 36, 3) := by decide +kernel
theorem dX6_hung_32 : decode cX6_hung 32 = .ok (.aload_n 0, 1) := by decide +kernel
theorem dX6_hung_33 : decode cX6_hung 33 = .ok (.getfield 28, 3) := by decide +kernel
theorem dX6_hung_36 : decode cX6_hung 36 = .ok (.aload_n 0, 1) := by decide +kernel
theorem dX6_hung_37 : decode cX6_hung 37 = .ok (.getfield 12, 3) := by decide +kernel
theorem dX6_hung_40 : decode cX6_hung 40 = .ok (.aload_n 3, 1) := by decide +kernel
theorem dX6_hung_41 : decode cX6_hung 41 = .ok (.iconst (-1), 1) := by decide +kernel
theorem dX6_hung_42 : decode cX6_hung 42 = .ok (.invokevirtual 149, 3) := by decide +kernel
theorem dX6_hung_45 : decode cX6_hung 45 = .ok (.iload_n 1, 1) := by decide +kernel
theorem dX6_hung_46 : decode cX6_hung 46 = .ok (.aload_n 0, 1) := by decide +kernel
theorem dX6_hung_47 : decode cX6_hung 47 = .ok (.getfield 28, 3) := by decide +kernel
theorem dX6_hung_50 : decode cX6_hung 50 = .ok (.getfield 174, 3) := by decide +kernel
theorem dX6_hung_53 : decode cX6_hung 53 = .ok (.bipush (-5), 2) := by decide +kernel
theorem dX6_hung_55 : decode cX6_hung 55 = .ok (.if_icmp .ne 7, 3) := by decide +kernel
theorem dX6_hung_58 : decode cX6_hung 58 = .ok (.iconst 0, 1) := by decide +kernel
theorem dX6_hung_59 : decode cX6_hung 59 = .ok (.goto 4, 3) := by decide +kernel
theorem dX6_hung_62 : decode cX6_hung 62 = .ok (.iconst 1, 1) := by decide +kernel
theorem dX6_hung_63 : decode cX6_hung 63 = .ok (.iadd, 1) := by decide +kernel
theorem dX6_hung_64 : decode cX6_hung 64 = .ok (.istore_n 1, 1) := by decide +kernel
theorem dX6_hung_65 : decode cX6_hung 65 = .ok (.iinc 2 1, 3) := by decide +kernel
theorem dX6_hung_68 : decode cX6_hung 68 = .ok (.goto (-64), 3) := by decide +kernel
theorem dX6_hung_71 : decode cX6_hung 71 = .ok (.iload_n 1, 1) := by decide +kernel
theorem dX6_hung_72 : decode cX6_hung 72 = .ok (.ireturn, 1) := by decide +kernel
theorem dX6_blame_0 : decode cX6_blame 0 = .ok (.aload_n 0, 1) := by decide +kernel
theorem dX6_blame_1 : decode cX6_blame 1 = .ok (.getfield 12, 3) := by decide +kernel
theorem dX6_blame_4 : decode cX6_blame 4 = .ok (.iload_n 1, 1) := by decide +kernel
theorem dX6_blame_5 : decode cX6_blame 5 = .ok (.invokevirtual 116, 3) := by decide +kernel
theorem dX6_blame_8 : decode cX6_blame 8 = .ok (.astore_n 3, 1) := by decide +kernel
theorem dX6_blame_9 : decode cX6_blame 9 = .ok (.aload_n 3, 1) := by decide +kernel
theorem dX6_blame_10 : decode cX6_blame 10 = .ok (.ifnull 12, 3) := by decide +kernel
theorem dX6_blame_13 : decode cX6_blame 13 = .ok (.iload_n 2, 1) := by decide +kernel
theorem dX6_blame_14 : decode cX6_blame 14 = .ok (.bipush 7, 2) := by decide +kernel
theorem dX6_blame_16 : decode cX6_blame 16 = .ok (.invokestatic 57, 3) := by decide +kernel
theorem dX6_blame_19 : decode cX6_blame 19 = .ok (.ifCond .eq 5, 3) := by decide +kernel
theorem dX6_blame_22 : decode cX6_blame 22 = .ok (.iconst (-1), 1) := by decide +kernel
theorem dX6_blame_23 : decode cX6_blame 23 = .ok (.ireturn, 1) := by decide +kernel
theorem dX6_blame_24 : decode cX6_blame 24 = .ok (.aload_n 3, 1) := by decide +kernel
theorem dX6_blame_25 : decode cX6_blame 25 = .ok (.getfield 141, 3) := by decide +kernel
theorem dX6_blame_28 : decode cX6_blame 28 = .ok (.ifCond .ne 6, 3) := by decide +kernel
theorem dX6_blame_31 : decode cX6_blame 31 = .ok (.bipush (-3), 2) := by decide +kernel
theorem dX6_blame_33 : decode cX6_blame 33 = .ok (.ireturn, 1) := by decide +kernel
theorem dX6_blame_34 : decode cX6_blame 34 = .ok (.iconst 0, 1) := by decide +kernel
theorem dX6_blame_35 : decode cX6_blame 35 = .ok (.istore 4, 2) := by decide +kernel
theorem dX6_blame_37 : decode cX6_blame 37 = .ok (.iconst (-1), 1) := by decide +kernel
theorem dX6_blame_38 : decode cX6_blame 38 = .ok (.istore 5, 2) := by decide +kernel
theorem dX6_blame_40 : decode cX6_blame 40 = .ok (.iload 5, 2) := by decide +kernel
theorem dX6_blame_42 : decode cX6_blame 42 = .ok (.bipush 8, 2) := by decide +kernel
theorem dX6_blame_44 : decode cX6_blame 44 = .ok (.if_icmp .ge 68, 3) := by decide +kernel
theorem dX6_blame_47 : decode cX6_blame 47 = .ok (.aload_n 0, 1) := by decide +kernel
theorem dX6_blame_48 : decode cX6_blame 48 = .ok (.getfield 12, 3) := by decide +kernel
theorem dX6_blame_51 : decode cX6_blame 51 = .ok (.iload 5, 2) := by decide +kernel
theorem dX6_blame_53 : decode cX6_blame 53 = .ok (.invokevirtual 207, 3) := by decide +kernel
theorem dX6_blame_56 : decode cX6_blame 56 = .ok (.ifCond .le 50, 3) := by decide +kernel
theorem dX6_blame_59 : decode cX6_blame 59 = .ok (.aload_n 0, 1) := by decide +kernel
theorem dX6_blame_60 : decode cX6_blame 60 = .ok (.getfield 28, 3) := by decide +kernel
theorem dX6_blame_63 : decode cX6_blame 63 = .ok (.aload_n 0, 1) := by decide +kernel
theorem dX6_blame_64 : decode cX6_blame 64 = .ok (.getfield 12, 3) := by decide +kernel
theorem dX6_blame_67 : decode cX6_blame 67 = .ok (.getfield 79, 3) := by decide +kernel
theorem dX6_blame_70 : decode cX6_blame 70 = .ok (.aload_n 3, 1) := by decide +kernel
theorem dX6_blame_71 : decode cX6_blame 71 = .ok (.iload 5, 2) := by decide +kernel
theorem dX6_blame_73 : decode cX6_blame 73 = .ok (.invokevirtual 179, 3) := by decide +kernel
theorem dX6_blame_76 : decode cX6_blame 76 = .ok (.iload 4, 2) := by decide +kernel
theorem dX6_blame_78 : decode cX6_blame 78 = .ok (.aload_n 0, 1) := by decide +kernel
theorem dX6_blame_79 : decode cX6_blame 79 = .ok (.getfield 28, 3) := by decide +kernel
theorem dX6_blame_82 : decode cX6_blame 82 = .ok (.getfield 168, 3) := by decide +kernel
theorem dX6_blame_85 : decode cX6_blame 85 = .ok (.iload_n 2, 1) := by decide +kernel
theorem dX6_blame_86 : decode cX6_blame 86 = .ok (.if_icmp .ne 16, 3) := by decide +kernel
theorem dX6_blame_89 : decode cX6_blame 89 = .ok (.aload_n 0, 1) := by decide +kernel
theorem dX6_blame_90 : decode cX6_blame 90 = .ok (.getfield 28, 3) := by decide +kernel
theorem dX6_blame_93 : decode cX6_blame 93 = .ok (.getfield 165, 3) := by decide +kernel
theorem dX6_blame_96 : decode cX6_blame 96 = .ok (.invokestatic 197, 3) := by decide +kernel
theorem dX6_blame_99 : decode cX6_blame 99 = .ok (.goto 4, 3) := by decide +kernel
theorem dX6_blame_102 : decode cX6_blame 102 = .ok (.iconst 0, 1) := by decide +kernel
theorem dX6_blame_103 : decode cX6_blame 103 = .ok (.ior, 1) := by decide +kernel
theorem dX6_blame_104 : decode cX6_blame 104 = .ok (.istore 4, 2) := by decide +kernel
theorem dX6_blame_106 : decode cX6_blame 106 = .ok (.iinc 5 1, 3) := by decide +kernel
theorem dX6_blame_109 : decode cX6_blame 109 = .ok (.goto (-69), 3) := by decide +kernel
theorem dX6_blame_112 : decode cX6_blame 112 = .ok (.iload 4, 2) := by decide +kernel
theorem dX6_blame_114 : decode cX6_blame 114 = .ok (.ireturn, 1) := by decide +kernel
theorem dX6_knock_0 : decode cX6_knock 0 = .ok (.aload_n 0, 1) := by decide +kernel
theorem dX6_knock_1 : decode cX6_knock 1 = .ok (.getfield 12, 3) := by decide +kernel
theorem dX6_knock_4 : decode cX6_knock 4 = .ok (.iload_n 1, 1) := by decide +kernel
theorem dX6_knock_5 : decode cX6_knock 5 = .ok (.invokevirtual 116, 3) := by decide +kernel
theorem dX6_knock_8 : decode cX6_knock 8 = .ok (.astore_n 3, 1) := by decide +kernel
theorem dX6_knock_9 : decode cX6_knock 9 = .ok (.aload_n 3, 1) := by decide +kernel
theorem dX6_knock_10 : decode cX6_knock 10 = .ok (.ifnull 11, 3) := by decide +kernel
theorem dX6_knock_13 : decode cX6_knock 13 = .ok (.iload_n 2, 1) := by decide +kernel
theorem dX6_knock_14 : decode cX6_knock 14 = .ok (.iconst 4, 1) := by decide +kernel
theorem dX6_knock_15 : decode cX6_knock 15 = .ok (.invokestatic 57, 3) := by decide +kernel
theorem dX6_knock_18 : decode cX6_knock 18 = .ok (.ifCond .eq 5, 3) := by decide +kernel
theorem dX6_knock_21 : decode cX6_knock 21 = .ok (.iconst (-1), 1) := by decide +kernel
theorem dX6_knock_22 : decode cX6_knock 22 = .ok (.ireturn, 1) := by decide +kernel
theorem dX6_knock_23 : decode cX6_knock 23 = .ok (.aload_n 3, 1) := by decide +kernel
theorem dX6_knock_24 : decode cX6_knock 24 = .ok (.getfield 141, 3) := by decide +kernel
theorem dX6_knock_27 : decode cX6_knock 27 = .ok (.ifCond .ne 6, 3) := by decide +kernel
theorem dX6_knock_30 : decode cX6_knock 30 = .ok (.bipush (-3), 2) := by decide +kernel
theorem dX6_knock_32 : decode cX6_knock 32 = .ok (.ireturn, 1) := by decide +kernel
theorem dX6_knock_33 : decode cX6_knock 33 = .ok (.aload_n 0, 1) := by decide +kernel
theorem dX6_knock_34 : decode cX6_knock 34 = .ok (.getfield 42, 3) := by decide +kernel
theorem dX6_knock_37 : decode cX6_knock 37 = .ok (.aload_n 3, 1) := by decide +kernel
theorem dX6_knock_38 : decode cX6_knock 38 = .ok (.invokevirtual 183, 3) := by decide +kernel
theorem dX6_knock_41 : decode cX6_knock 41 = .ok (.iconst 0, 1) := by decide +kernel
theorem dX6_knock_42 : decode cX6_knock 42 = .ok (.istore 4, 2) := by decide +kernel
theorem dX6_knock_44 : decode cX6_knock 44 = .ok (.iconst 0, 1) := by decide +kernel
theorem dX6_knock_45 : decode cX6_knock 45 = .ok (.istore 5, 2) := by decide +kernel
theorem dX6_knock_47 : decode cX6_knock 47 = .ok (.iload 5, 2) := by decide +kernel
theorem dX6_knock_49 : decode cX6_knock 49 = .ok (.bipush 9, 2) := by decide +kernel
theorem dX6_knock_51 : decode cX6_knock 51 = .ok (.if_icmp .gt 62, 3) := by decide +kernel
theorem dX6_knock_54 : decode cX6_knock 54 = .ok (.aload_n 0, 1) := by decide +kernel
theorem dX6_knock_55 : decode cX6_knock 55 = .ok (.getfield 42, 3) := by decide +kernel
theorem dX6_knock_58 : decode cX6_knock 58 = .ok (.iload 5, 2) := by decide +kernel
theorem dX6_knock_60 : decode cX6_knock 60 = .ok (.putfield 126, 3) := by decide +kernel
theorem dX6_knock_63 : decode cX6_knock 63 = .ok (.aload_n 0, 1) := by decide +kernel
theorem dX6_knock_64 : decode cX6_knock 64 = .ok (.getfield 28, 3) := by decide +kernel
theorem dX6_knock_67 : decode cX6_knock 67 = .ok (.aload_n 0, 1) := by decide +kernel
theorem dX6_knock_68 : decode cX6_knock 68 = .ok (.getfield 12, 3) := by decide +kernel
theorem dX6_knock_71 : decode cX6_knock 71 = .ok (.getfield 79, 3) := by decide +kernel
theorem dX6_knock_74 : decode cX6_knock 74 = .ok (.aload_n 0, 1) := by decide +kernel
theorem dX6_knock_75 : decode cX6_knock 75 = .ok (.getfield 42, 3) := by decide +kernel
theorem dX6_knock_78 : decode cX6_knock 78 = .ok (.iconst (-1), 1) := by decide +kernel
theorem dX6_knock_79 : decode cX6_knock 79 = .ok (.invokevirtual 179, 3) := by decide +kernel
theorem dX6_knock_82 : decode cX6_knock 82 = .ok (.iload 4, 2) := by decide +kernel
theorem dX6_knock_84 : decode cX6_knock 84 = .ok (.aload_n 0, 1) := by decide +kernel
theorem dX6_knock_85 : decode cX6_knock 85 = .ok (.getfield 28, 3) := by decide +kernel
theorem dX6_knock_88 : decode cX6_knock 88 = .ok (.getfield 165, 3) := by decide +kernel
theorem dX6_knock_91 : decode cX6_knock 91 = .ok (.iload_n 2, 1) := by decide +kernel
theorem dX6_knock_92 : decode cX6_knock 92 = .ok (.if_icmp .ne 11, 3) := by decide +kernel
theorem dX6_knock_95 : decode cX6_knock 95 = .ok (.iload 5, 2) := by decide +kernel
theorem dX6_knock_97 : decode cX6_knock 97 = .ok (.invokestatic 197, 3) := by decide +kernel
theorem dX6_knock_100 : decode cX6_knock 100 = .ok (.goto 4, 3) := by decide +kernel
theorem dX6_knock_103 : decode cX6_knock 103 = .ok (.iconst 0, 1) := by decide +kernel
theorem dX6_knock_104 : decode cX6_knock 104 = .ok (.ior, 1) := by decide +kernel
theorem dX6_knock_105 : decode cX6_knock 105 = .ok (.istore 4, 2) := by decide +kernel
theorem dX6_knock_107 : decode cX6_knock 107 = .ok (.iinc 5 1, 3) := by decide +kernel
theorem dX6_knock_110 : decode cX6_knock 110 = .ok (.goto (-63), 3) := by decide +kernel
theorem dX6_knock_113 : decode cX6_knock 113 = .ok (.iload 4, 2) := by decide +kernel
theorem dX6_knock_115 : decode cX6_knock 115 = .ok (.ireturn, 1) := by decide +kernel
theorem dX6_limbs_0 : decode cX6_limbs 0 = .ok (.aload_n 0, 1) := by decide +kernel
theorem dX6_limbs_1 : decode cX6_limbs 1 = .ok (.getfield 12, 3) := by decide +kernel
theorem dX6_limbs_4 : decode cX6_limbs 4 = .ok (.iload_n 1, 1) := by decide +kernel
theorem dX6_limbs_5 : decode cX6_limbs 5 = .ok (.invokevirtual 116, 3) := by decide +kernel
theorem dX6_limbs_8 : decode cX6_limbs 8 = .ok (.astore_n 2, 1) := by decide +kernel
theorem dX6_limbs_9 : decode cX6_limbs 9 = .ok (.aload_n 2, 1) := by decide +kernel
theorem dX6_limbs_10 : decode cX6_limbs 10 = .ok (.ifnonnull 5, 3) := by decide +kernel
theorem dX6_limbs_13 : decode cX6_limbs 13 = .ok (.iconst (-1), 1) := by decide +kernel
theorem dX6_limbs_14 : decode cX6_limbs 14 = .ok (.ireturn, 1) := by decide +kernel
theorem dX6_limbs_15 : decode cX6_limbs 15 = .ok (.aload_n 2, 1) := by decide +kernel
theorem dX6_limbs_16 : decode cX6_limbs 16 = .ok (.getfield 141, 3) := by decide +kernel
theorem dX6_limbs_19 : decode cX6_limbs 19 = .ok (.ifCond .ne 6, 3) := by decide +kernel
theorem dX6_limbs_22 : decode cX6_limbs 22 = .ok (.bipush (-3), 2) := by decide +kernel
theorem dX6_limbs_24 : decode cX6_limbs 24 = .ok (.ireturn, 1) := by decide +kernel
theorem dX6_limbs_25 : decode cX6_limbs 25 = .ok (.aload_n 0, 1) := by decide +kernel
theorem dX6_limbs_26 : decode cX6_limbs 26 = .ok (.getfield 42, 3) := by decide +kernel
theorem dX6_limbs_29 : decode cX6_limbs 29 = .ok (.aload_n 2, 1) := by decide +kernel
theorem dX6_limbs_30 : decode cX6_limbs 30 = .ok (.invokevirtual 183, 3) := by decide +kernel
theorem dX6_limbs_33 : decode cX6_limbs 33 = .ok (.iconst 0, 1) := by decide +kernel
theorem dX6_limbs_34 : decode cX6_limbs 34 = .ok (.istore_n 3, 1) := by decide +kernel
theorem dX6_limbs_35 : decode cX6_limbs 35 = .ok (.iload_n 3, 1) := by decide +kernel
theorem dX6_limbs_36 : decode cX6_limbs 36 = .ok (.aload_n 2, 1) := by decide +kernel
theorem dX6_limbs_37 : decode cX6_limbs 37 = .ok (.getfield 120, 3) := by decide +kernel
theorem dX6_limbs_40 : decode cX6_limbs 40 = .ok (.if_icmp .gt 53, 3) := by decide +kernel
theorem dX6_limbs_43 : decode cX6_limbs 43 = .ok (.aload_n 0, 1) := by decide +kernel
theorem dX6_limbs_44 : decode cX6_limbs 44 = .ok (.getfield 42, 3) := by decide +kernel
theorem dX6_limbs_47 : decode cX6_limbs 47 = .ok (.aload_n 2, 1) := by decide +kernel
theorem dX6_limbs_48 : decode cX6_limbs 48 = .ok (.getfield 120, 3) := by decide +kernel
theorem dX6_limbs_51 : decode cX6_limbs 51 = .ok (.iload_n 3, 1) := by decide +kernel
theorem dX6_limbs_52 : decode cX6_limbs 52 = .ok (.isub, 1) := by decide +kernel
theorem dX6_limbs_53 : decode cX6_limbs 53 = .ok (.putfield 120, 3) := by decide +kernel
theorem dX6_limbs_56 : decode cX6_limbs 56 = .ok (.aload_n 0, 1) := by decide +kernel
theorem dX6_limbs_57 : decode cX6_limbs 57 = .ok (.getfield 28, 3) := by decide +kernel
theorem dX6_limbs_60 : decode cX6_limbs 60 = .ok (.aload_n 0, 1) := by decide +kernel
theorem dX6_limbs_61 : decode cX6_limbs 61 = .ok (.getfield 12, 3) := by decide +kernel
theorem dX6_limbs_64 : decode cX6_limbs 64 = .ok (.getfield 79, 3) := by decide +kernel
theorem dX6_limbs_67 : decode cX6_limbs 67 = .ok (.aload_n 0, 1) := by decide +kernel
theorem dX6_limbs_68 : decode cX6_limbs 68 = .ok (.getfield 42, 3) := by decide +kernel
theorem dX6_limbs_71 : decode cX6_limbs 71 = .ok (.iconst (-1), 1) := by decide +kernel
theorem dX6_limbs_72 : decode cX6_limbs 72 = .ok (.invokevirtual 179, 3) := by decide +kernel
theorem dX6_limbs_75 : decode cX6_limbs 75 = .ok (.aload_n 0, 1) := by decide +kernel
theorem dX6_limbs_76 : decode cX6_limbs 76 = .ok (.getfield 28, 3) := by decide +kernel
theorem dX6_limbs_79 : decode cX6_limbs 79 = .ok (.getfield 165, 3) := by decide +kernel
theorem dX6_limbs_82 : decode cX6_limbs 82 = .ok (.ifCond .ne 5, 3) := by decide +kernel
theorem dX6_limbs_85 : decode cX6_limbs 85 = .ok (.iload_n 3, 1) := by decide +kernel
theorem dX6_limbs_86 : decode cX6_limbs 86 = .ok (.ireturn, 1) := by decide +kernel
theorem dX6_limbs_87 : decode cX6_limbs 87 = .ok (.iinc 3 1, 3) := by decide +kernel
theorem dX6_limbs_90 : decode cX6_limbs 90 = .ok (.goto (-55), 3) := by decide +kernel
theorem dX6_limbs_93 : decode cX6_limbs 93 = .ok (.bipush (-5), 2) := by decide +kernel
theorem dX6_limbs_95 : decode cX6_limbs 95 = .ok (.ireturn, 1) := by decide +kernel
theorem dX6_book_0 : decode cX6_book 0 = .ok (.iload_n 1, 1) := by decide +kernel
theorem dX6_book_1 : decode cX6_book 1 = .ok (.iconst (-1), 1) := by decide +kernel
theorem dX6_book_2 : decode cX6_book 2 = .ok (.if_icmp .ne 13, 3) := by decide +kernel
theorem dX6_book_5 : decode cX6_book 5 = .ok (.aload_n 0, 1) := by decide +kernel
theorem dX6_book_6 : decode cX6_book 6 = .ok (.getfield 12, 3) := by decide +kernel
theorem dX6_book_9 : decode cX6_book 9 = .ok (.iconst 0, 1) := by decide +kernel
theorem dX6_book_10 : decode cX6_book 10 = .ok (.putfield 237, 3) := by decide +kernel
theorem dX6_book_13 : decode cX6_book 13 = .ok (.iconst 0, 1) := by decide +kernel
theorem dX6_book_14 : decode cX6_book 14 = .ok (.ireturn, 1) := by decide +kernel
theorem dX6_book_15 : decode cX6_book 15 = .ok (.iload_n 1, 1) := by decide +kernel
theorem dX6_book_16 : decode cX6_book 16 = .ok (.bipush 7, 2) := by decide +kernel
theorem dX6_book_18 : decode cX6_book 18 = .ok (.invokestatic 57, 3) := by decide +kernel
theorem dX6_book_21 : decode cX6_book 21 = .ok (.ifCond .eq 5, 3) := by decide +kernel
theorem dX6_book_24 : decode cX6_book 24 = .ok (.iconst (-1), 1) := by decide +kernel
theorem dX6_book_25 : decode cX6_book 25 = .ok (.ireturn, 1) := by decide +kernel
theorem dX6_book_26 : decode cX6_book 26 = .ok (.aload_n 0, 1) := by decide +kernel
theorem dX6_book_27 : decode cX6_book 27 = .ok (.getfield 12, 3) := by decide +kernel
theorem dX6_book_30 : decode cX6_book 30 = .ok (.getfield 237, 3) := by decide +kernel
theorem dX6_book_33 : decode cX6_book 33 = .ok (.bipush 6, 2) := by decide +kernel
theorem dX6_book_35 : decode cX6_book 35 = .ok (.if_icmp .lt 6, 3) := by decide +kernel
theorem dX6_book_38 : decode cX6_book 38 = .ok (.bipush (-4), 2) := by decide +kernel
theorem dX6_book_40 : decode cX6_book 40 = .ok (.ireturn, 1) := by decide +kernel
theorem dX6_book_41 : decode cX6_book 41 = .ok (.aload_n 0, 1) := by decide +kernel
theorem dX6_book_42 : decode cX6_book 42 = .ok (.getfield 12, 3) := by decide +kernel
theorem dX6_book_45 : decode cX6_book 45 = .ok (.getfield 240, 3) := by decide +kernel
theorem dX6_book_48 : decode cX6_book 48 = .ok (.aload_n 0, 1) := by decide +kernel
theorem dX6_book_49 : decode cX6_book 49 = .ok (.getfield 12, 3) := by decide +kernel
theorem dX6_book_52 : decode cX6_book 52 = .ok (.getfield 237, 3) := by decide +kernel
theorem dX6_book_55 : decode cX6_book 55 = .ok (.iload_n 1, 1) := by decide +kernel
theorem dX6_book_56 : decode cX6_book 56 = .ok (.iastore, 1) := by decide +kernel
theorem dX6_book_57 : decode cX6_book 57 = .ok (.aload_n 0, 1) := by decide +kernel
theorem dX6_book_58 : decode cX6_book 58 = .ok (.getfield 12, 3) := by decide +kernel
theorem dX6_book_61 : decode cX6_book 61 = .ok (.dup, 1) := by decide +kernel
theorem dX6_book_62 : decode cX6_book 62 = .ok (.getfield 237, 3) := by decide +kernel
theorem dX6_book_65 : decode cX6_book 65 = .ok (.iconst 1, 1) := by decide +kernel
theorem dX6_book_66 : decode cX6_book 66 = .ok (.iadd, 1) := by decide +kernel
theorem dX6_book_67 : decode cX6_book 67 = .ok (.putfield 237, 3) := by decide +kernel
theorem dX6_book_70 : decode cX6_book 70 = .ok (.aload_n 0, 1) := by decide +kernel
theorem dX6_book_71 : decode cX6_book 71 = .ok (.getfield 12, 3) := by decide +kernel
theorem dX6_book_74 : decode cX6_book 74 = .ok (.getfield 237, 3) := by decide +kernel
theorem dX6_book_77 : decode cX6_book 77 = .ok (.ireturn, 1) := by decide +kernel
theorem dX6_judged_0 : decode cX6_judged 0 = .ok (.iload_n 1, 1) := by decide +kernel
theorem dX6_judged_1 : decode cX6_judged 1 = .ok (.iconst 1, 1) := by decide +kernel
theorem dX6_judged_2 : decode cX6_judged 2 = .ok (.invokestatic 57, 3) := by decide +kernel
theorem dX6_judged_5 : decode cX6_judged 5 = .ok (.ifCond .eq 5, 3) := by decide +kernel
theorem dX6_judged_8 : decode cX6_judged 8 = .ok (.iconst (-1), 1) := by decide +kernel
theorem dX6_judged_9 : decode cX6_judged 9 = .ok (.ireturn, 1) := by decide +kernel
theorem dX6_judged_10 : decode cX6_judged 10 = .ok (.iconst 0, 1) := by decide +kernel
theorem dX6_judged_11 : decode cX6_judged 11 = .ok (.istore_n 2, 1) := by decide +kernel
theorem dX6_judged_12 : decode cX6_judged 12 = .ok (.bipush (-5), 2) := by decide +kernel
theorem dX6_judged_14 : decode cX6_judged 14 = .ok (.istore_n 3, 1) := by decide +kernel
theorem dX6_judged_15 : decode cX6_judged 15 = .ok (.aload_n 0, 1) := by decide +kernel
theorem dX6_judged_16 : decode cX6_judged 16 = .ok (.getfield 12, 3) := by decide +kernel
theorem dX6_judged_19 : decode cX6_judged 19 = .ok (.getfield 105, 3) := by decide +kernel
theorem dX6_judged_22 : decode cX6_judged 22 = .ok (.aload_n 0, 1) := by decide +kernel
theorem dX6_judged_23 : decode cX6_judged 23 = .ok (.getfield 12, 3) := by decide +kernel
theorem dX6_judged_26 : decode cX6_judged 26 = .ok (.getfield 237, 3) := by decide +kernel
theorem dX6_judged_29 : decode cX6_judged 29 = .ok (.invokestatic 243, 3) := by decide +kernel
theorem dX6_judged_32 : decode cX6_judged 32 = .ok (.istore 4, 2) := by decide +kernel
theorem dX6_judged_34 : decode cX6_judged 34 = .ok (.iconst 0, 1) := by decide +kernel
theorem dX6_judged_35 : decode cX6_judged 35 = .ok (.istore 5, 2) := by decide +kernel
theorem dX6_judged_37 : decode cX6_judged 37 = .ok (.iload 5, 2) := by decide +kernel
theorem dX6_judged_39 : decode cX6_judged 39 = .ok (.iload 4, 2) := by decide +kernel
theorem dX6_judged_41 : decode cX6_judged 41 = .ok (.if_icmp .ge 81, 3) := by decide +kernel
theorem dX6_judged_44 : decode cX6_judged 44 = .ok (.aload_n 0, 1) := by decide +kernel
theorem dX6_judged_45 : decode cX6_judged 45 = .ok (.getfield 12, 3) := by decide +kernel
theorem dX6_judged_48 : decode cX6_judged 48 = .ok (.getfield 108, 3) := by decide +kernel
theorem dX6_judged_51 : decode cX6_judged 51 = .ok (.iload 5, 2) := by decide +kernel
theorem dX6_judged_53 : decode cX6_judged 53 = .ok (.aaload, 1) := by decide +kernel
theorem dX6_judged_54 : decode cX6_judged 54 = .ok (.astore 6, 2) := by decide +kernel
theorem dX6_judged_56 : decode cX6_judged 56 = .ok (.aload 6, 2) := by decide +kernel
theorem dX6_judged_58 : decode cX6_judged 58 = .ok (.getfield 141, 3) := by decide +kernel
theorem dX6_judged_61 : decode cX6_judged 61 = .ok (.ifCond .eq 55, 3) := by decide +kernel
theorem dX6_judged_64 : decode cX6_judged 64 = .ok (.aload_n 0, 1) := by decide +kernel
theorem dX6_judged_65 : decode cX6_judged 65 = .ok (.getfield 28, 3) := by decide +kernel
theorem dX6_judged_68 : decode cX6_judged 68 = .ok (.aload_n 0, 1) := by decide +kernel
theorem dX6_judged_69 : decode cX6_judged 69 = .ok (.getfield 12, 3) := by decide +kernel
theorem dX6_judged_72 : decode cX6_judged 72 = .ok (.getfield 79, 3) := by decide +kernel
theorem dX6_judged_75 : decode cX6_judged 75 = .ok (.aload 6, 2) := by decide +kernel
theorem dX6_judged_77 : decode cX6_judged 77 = .ok (.iconst (-1), 1) := by decide +kernel
theorem dX6_judged_78 : decode cX6_judged 78 = .ok (.invokevirtual 179, 3) := by decide +kernel
theorem dX6_judged_81 : decode cX6_judged 81 = .ok (.aload_n 0, 1) := by decide +kernel
theorem dX6_judged_82 : decode cX6_judged 82 = .ok (.getfield 28, 3) := by decide +kernel
theorem dX6_judged_85 : decode cX6_judged 85 = .ok (.getfield 168, 3) := by decide +kernel
theorem dX6_judged_88 : decode cX6_judged 88 = .ok (.aload_n 0, 1) := by decide +kernel
theorem dX6_judged_89 : decode cX6_judged 89 = .ok (.getfield 12, 3) := by decide +kernel
theorem dX6_judged_92 : decode cX6_judged 92 = .ok (.getfield 240, 3) := by decide +kernel
theorem dX6_judged_95 : decode cX6_judged 95 = .ok (.iload 5, 2) := by decide +kernel
theorem dX6_judged_97 : decode cX6_judged 97 = .ok (.iaload, 1) := by decide +kernel
theorem dX6_judged_98 : decode cX6_judged 98 = .ok (.if_icmp .ne 9, 3) := by decide +kernel
theorem dX6_judged_101 : decode cX6_judged 101 = .ok (.iinc 2 1, 3) := by decide +kernel
theorem dX6_judged_104 : decode cX6_judged 104 = .ok (.goto 12, 3) := by decide +kernel
theorem dX6_judged_107 : decode cX6_judged 107 = .ok (.iload_n 3, 1) := by decide +kernel
theorem dX6_judged_108 : decode cX6_judged 108 = .ok (.bipush (-5), 2) := by decide +kernel
theorem dX6_judged_110 : decode cX6_judged 110 = .ok (.if_icmp .ne 6, 3) := by decide +kernel
theorem dX6_judged_113 : decode cX6_judged 113 = .ok (.iload 5, 2) := by decide +kernel
theorem dX6_judged_115 : decode cX6_judged 115 = .ok (.istore_n 3, 1) := by decide +kernel
theorem dX6_judged_116 : decode cX6_judged 116 = .ok (.iinc 5 1, 3) := by decide +kernel
theorem dX6_judged_119 : decode cX6_judged 119 = .ok (.goto (-82), 3) := by decide +kernel
theorem dX6_judged_122 : decode cX6_judged 122 = .ok (.iload_n 1, 1) := by decide +kernel
theorem dX6_judged_123 : decode cX6_judged 123 = .ok (.ifCond .ne 7, 3) := by decide +kernel
theorem dX6_judged_126 : decode cX6_judged 126 = .ok (.iload_n 2, 1) := by decide +kernel
theorem dX6_judged_127 : decode cX6_judged 127 = .ok (.goto 4, 3) := by decide +kernel
theorem dX6_judged_130 : decode cX6_judged 130 = .ok (.iload_n 3, 1) := by decide +kernel
theorem dX6_judged_131 : decode cX6_judged 131 = .ok (.ireturn, 1) := by decide +kernel
theorem dX6_act_0 : decode cX6_act 0 = .ok (.aload_n 0, 1) := by decide +kernel
theorem dX6_act_1 : decode cX6_act 1 = .ok (.getfield 35, 3) := by decide +kernel
theorem dX6_act_4 : decode cX6_act 4 = .ok (.iconst 0, 1) := by decide +kernel
theorem dX6_act_5 : decode cX6_act 5 = .ok (.putfield 248, 3) := by decide +kernel
theorem dX6_act_8 : decode cX6_act 8 = .ok (.aload_n 0, 1) := by decide +kernel
theorem dX6_act_9 : decode cX6_act 9 = .ok (.getfield 12, 3) := by decide +kernel
theorem dX6_act_12 : decode cX6_act 12 = .ok (.iload_n 1, 1) := by decide +kernel
theorem dX6_act_13 : decode cX6_act 13 = .ok (.invokevirtual 116, 3) := by decide +kernel
theorem dX6_act_16 : decode cX6_act 16 = .ok (.astore 4, 2) := by decide +kernel
theorem dX6_act_18 : decode cX6_act 18 = .ok (.aload 4, 2) := by decide +kernel
theorem dX6_act_20 : decode cX6_act 20 = .ok (.ifnonnull 7, 3) := by decide +kernel
theorem dX6_act_23 : decode cX6_act 23 = .ok (.iconst 0, 1) := by decide +kernel
theorem dX6_act_24 : decode cX6_act 24 = .ok (.goto 14, 3) := by decide +kernel
theorem dX6_act_27 : decode cX6_act 27 = .ok (.aload_n 0, 1) := by decide +kernel
theorem dX6_act_28 : decode cX6_act 28 = .ok (.getfield 35, 3) := by decide +kernel
theorem dX6_act_31 : decode cX6_act 31 = .ok (.aload 4, 2) := by decide +kernel
theorem dX6_act_33 : decode cX6_act 33 = .ok (.iload_n 2, 1) := by decide +kernel
theorem dX6_act_34 : decode cX6_act 34 = .ok (.iload_n 3, 1) := by decide +kernel
theorem dX6_act_35 : decode cX6_act 35 = .ok (.invokevirtual 251, 3) := by decide +kernel
theorem dX6_act_38 : decode cX6_act 38 = .ok (.ireturn, 1) := by decide +kernel
theorem dX6_trace_0 : decode cX6_trace 0 = .ok (.iload_n 1, 1) := by decide +kernel
theorem dX6_trace_1 : decode cX6_trace 1 = .ok (.aload_n 0, 1) := by decide +kernel
theorem dX6_trace_2 : decode cX6_trace 2 = .ok (.getfield 35, 3) := by decide +kernel
theorem dX6_trace_5 : decode cX6_trace 5 = .ok (.getfield 248, 3) := by decide +kernel
theorem dX6_trace_8 : decode cX6_trace 8 = .ok (.bipush 20, 2) := by decide +kernel
theorem dX6_trace_10 : decode cX6_trace 10 = .ok (.invokestatic 243, 3) := by decide +kernel
theorem dX6_trace_13 : decode cX6_trace 13 = .ok (.iconst 1, 1) := by decide +kernel
theorem dX6_trace_14 : decode cX6_trace 14 = .ok (.isub, 1) := by decide +kernel
theorem dX6_trace_15 : decode cX6_trace 15 = .ok (.invokestatic 57, 3) := by decide +kernel
theorem dX6_trace_18 : decode cX6_trace 18 = .ok (.ifCond .eq 7, 3) := by decide +kernel
theorem dX6_trace_21 : decode cX6_trace 21 = .ok (.iconst (-1), 1) := by decide +kernel
theorem dX6_trace_22 : decode cX6_trace 22 = .ok (.goto 12, 3) := by decide +kernel
theorem dX6_trace_25 : decode cX6_trace 25 = .ok (.aload_n 0, 1) := by decide +kernel
theorem dX6_trace_26 : decode cX6_trace 26 = .ok (.getfield 35, 3) := by decide +kernel
theorem dX6_trace_29 : decode cX6_trace 29 = .ok (.getfield 254, 3) := by decide +kernel
theorem dX6_trace_32 : decode cX6_trace 32 = .ok (.iload_n 1, 1) := by decide +kernel
theorem dX6_trace_33 : decode cX6_trace 33 = .ok (.iaload, 1) := by decide +kernel
theorem dX6_trace_34 : decode cX6_trace 34 = .ok (.ireturn, 1) := by decide +kernel
theorem dX6_as_0 : decode cX6_as 0 = .ok (.aload_n 0, 1) := by decide +kernel
theorem dX6_as_1 : decode cX6_as 1 = .ok (.getfield 12, 3) := by decide +kernel
theorem dX6_as_4 : decode cX6_as 4 = .ok (.iload_n 1, 1) := by decide +kernel
theorem dX6_as_5 : decode cX6_as 5 = .ok (.invokevirtual 116, 3) := by decide +kernel
theorem dX6_as_8 : decode cX6_as 8 = .ok (.astore_n 3, 1) := by decide +kernel
theorem dX6_as_9 : decode cX6_as 9 = .ok (.aload_n 3, 1) := by decide +kernel
theorem dX6_as_10 : decode cX6_as 10 = .ok (.ifnull 12, 3) := by decide +kernel
theorem dX6_as_13 : decode cX6_as 13 = .ok (.iload_n 2, 1) := by decide +kernel
theorem dX6_as_14 : decode cX6_as 14 = .ok (.bipush 6, 2) := by decide +kernel
theorem dX6_as_16 : decode cX6_as 16 = .ok (.invokestatic 57, 3) := by decide +kernel
theorem dX6_as_19 : decode cX6_as 19 = .ok (.ifCond .eq 5, 3) := by decide +kernel
theorem dX6_as_22 : decode cX6_as 22 = .ok (.iconst (-1), 1) := by decide +kernel
theorem dX6_as_23 : decode cX6_as 23 = .ok (.ireturn, 1) := by decide +kernel
theorem dX6_as_24 : decode cX6_as 24 = .ok (.aload_n 3, 1) := by decide +kernel
theorem dX6_as_25 : decode cX6_as 25 = .ok (.getfield 129, 3) := by decide +kernel
theorem dX6_as_28 : decode cX6_as 28 = .ok (.istore 4, 2) := by decide +kernel
theorem dX6_as_30 : decode cX6_as 30 = .ok (.iconst 0, 1) := by decide +kernel
theorem dX6_as_31 : decode cX6_as 31 = .ok (.istore 5, 2) := by decide +kernel
theorem dX6_as_33 : decode cX6_as 33 = .ok (.iload 5, 2) := by decide +kernel
theorem dX6_as_35 : decode cX6_as 35 = .ok (.bipush 7, 2) := by decide +kernel
theorem dX6_as_37 : decode cX6_as 37 = .ok (.if_icmp .ge 33, 3) := by decide +kernel
theorem dX6_as_40 : decode cX6_as 40 = .ok (.iload 4, 2) := by decide +kernel
theorem dX6_as_42 : decode cX6_as 42 = .ok (.iconst (-1), 1) := by decide +kernel
theorem dX6_as_43 : decode cX6_as 43 = .ok (.if_icmp .eq 27, 3) := by decide +kernel
theorem dX6_as_46 : decode cX6_as 46 = .ok (.iload 4, 2) := by decide +kernel
theorem dX6_as_48 : decode cX6_as 48 = .ok (.iload_n 2, 1) := by decide +kernel
theorem dX6_as_49 : decode cX6_as 49 = .ok (.if_icmp .ne 8, 3) := by decide +kernel
theorem dX6_as_52 : decode cX6_as 52 = .ok (.aload_n 3, 1) := by decide +kernel
theorem dX6_as_53 : decode cX6_as 53 = .ok (.getfield 132, 3) := by decide +kernel
theorem dX6_as_56 : decode cX6_as 56 = .ok (.ireturn, 1) := by decide +kernel
theorem dX6_as_57 : decode cX6_as 57 = .ok (.iload 4, 2) := by decide +kernel
theorem dX6_as_59 : decode cX6_as 59 = .ok (.invokestatic 257, 3) := by decide +kernel
theorem dX6_as_62 : decode cX6_as 62 = .ok (.istore 4, 2) := by decide +kernel
theorem dX6_as_64 : decode cX6_as 64 = .ok (.iinc 5 1, 3) := by decide +kernel
theorem dX6_as_67 : decode cX6_as 67 = .ok (.goto (-34), 3) := by decide +kernel
theorem dX6_as_70 : decode cX6_as 70 = .ok (.bipush (-6), 2) := by decide +kernel
theorem dX6_as_72 : decode cX6_as 72 = .ok (.ireturn, 1) := by decide +kernel
theorem dX6_image_0 : decode cX6_image 0 = .ok (.aload_n 0, 1) := by decide +kernel
theorem dX6_image_1 : decode cX6_image 1 = .ok (.getfield 46, 3) := by decide +kernel
theorem dX6_image_4 : decode cX6_image 4 = .ok (.ifnonnull 14, 3) := by decide +kernel
theorem dX6_image_7 : decode cX6_image 7 = .ok (.aload_n 0, 1) := by decide +kernel
theorem dX6_image_8 : decode cX6_image 8 = .ok (.new 9, 3) := by decide +kernel
theorem dX6_image_11 : decode cX6_image 11 = .ok (.dup, 1) := by decide +kernel
theorem dX6_image_12 : decode cX6_image 12 = .ok (.invokespecial 11, 3) := by decide +kernel
theorem dX6_image_15 : decode cX6_image 15 = .ok (.putfield 46, 3) := by decide +kernel
theorem dX6_image_18 : decode cX6_image 18 = .ok (.aload_n 0, 1) := by decide +kernel
theorem dX6_image_19 : decode cX6_image 19 = .ok (.getfield 46, 3) := by decide +kernel
theorem dX6_image_22 : decode cX6_image 22 = .ok (.aload_n 0, 1) := by decide +kernel
theorem dX6_image_23 : decode cX6_image 23 = .ok (.getfield 12, 3) := by decide +kernel
theorem dX6_image_26 : decode cX6_image 26 = .ok (.invokevirtual 260, 3) := by decide +kernel
theorem dX6_image_29 : decode cX6_image 29 = .ok (.aload_n 0, 1) := by decide +kernel
theorem dX6_image_30 : decode cX6_image 30 = .ok (.getfield 12, 3) := by decide +kernel
theorem dX6_image_33 : decode cX6_image 33 = .ok (.getfield 105, 3) := by decide +kernel
theorem dX6_image_36 : decode cX6_image 36 = .ok (.ireturn, 1) := by decide +kernel
theorem dX6_undo_0 : decode cX6_undo 0 = .ok (.aload_n 0, 1) := by decide +kernel
theorem dX6_undo_1 : decode cX6_undo 1 = .ok (.getfield 46, 3) := by decide +kernel
theorem dX6_undo_4 : decode cX6_undo 4 = .ok (.ifnonnull 6, 3) := by decide +kernel
theorem dX6_undo_7 : decode cX6_undo 7 = .ok (.bipush (-3), 2) := by decide +kernel
theorem dX6_undo_9 : decode cX6_undo 9 = .ok (.ireturn, 1) := by decide +kernel
theorem dX6_undo_10 : decode cX6_undo 10 = .ok (.aload_n 0, 1) := by decide +kernel
theorem dX6_undo_11 : decode cX6_undo 11 = .ok (.getfield 12, 3) := by decide +kernel
theorem dX6_undo_14 : decode cX6_undo 14 = .ok (.aload_n 0, 1) := by decide +kernel
theorem dX6_undo_15 : decode cX6_undo 15 = .ok (.getfield 46, 3) := by decide +kernel
theorem dX6_undo_18 : decode cX6_undo 18 = .ok (.invokevirtual 260, 3) := by decide +kernel
theorem dX6_undo_21 : decode cX6_undo 21 = .ok (.aload_n 0, 1) := by decide +kernel
theorem dX6_undo_22 : decode cX6_undo 22 = .ok (.getfield 12, 3) := by decide +kernel
theorem dX6_undo_25 : decode cX6_undo 25 = .ok (.getfield 105, 3) := by decide +kernel
theorem dX6_undo_28 : decode cX6_undo 28 = .ok (.ireturn, 1) := by decide +kernel
theorem dX6_count_0 : decode cX6_count 0 = .ok (.iload_n 1, 1) := by decide +kernel
theorem dX6_count_1 : decode cX6_count 1 = .ok (.tableswitch 90 0 5 #[39, 47, 55, 63, 71, 79], 39) := by decide +kernel
theorem dX6_count_40 : decode cX6_count 40 = .ok (.aload_n 0, 1) := by decide +kernel
theorem dX6_count_41 : decode cX6_count 41 = .ok (.getfield 12, 3) := by decide +kernel
theorem dX6_count_44 : decode cX6_count 44 = .ok (.getfield 105, 3) := by decide +kernel
theorem dX6_count_47 : decode cX6_count 47 = .ok (.ireturn, 1) := by decide +kernel
theorem dX6_count_48 : decode cX6_count 48 = .ok (.aload_n 0, 1) := by decide +kernel
theorem dX6_count_49 : decode cX6_count 49 = .ok (.getfield 12, 3) := by decide +kernel
theorem dX6_count_52 : decode cX6_count 52 = .ok (.getfield 69, 3) := by decide +kernel
theorem dX6_count_55 : decode cX6_count 55 = .ok (.ireturn, 1) := by decide +kernel
theorem dX6_count_56 : decode cX6_count 56 = .ok (.aload_n 0, 1) := by decide +kernel
theorem dX6_count_57 : decode cX6_count 57 = .ok (.getfield 12, 3) := by decide +kernel
theorem dX6_count_60 : decode cX6_count 60 = .ok (.getfield 237, 3) := by decide +kernel
theorem dX6_count_63 : decode cX6_count 63 = .ok (.ireturn, 1) := by decide +kernel
theorem dX6_count_64 : decode cX6_count 64 = .ok (.aload_n 0, 1) := by decide +kernel
theorem dX6_count_65 : decode cX6_count 65 = .ok (.getfield 12, 3) := by decide +kernel
theorem dX6_count_68 : decode cX6_count 68 = .ok (.getfield 61, 3) := by decide +kernel
theorem dX6_count_71 : decode cX6_count 71 = .ok (.ireturn, 1) := by decide +kernel
theorem dX6_count_72 : decode cX6_count 72 = .ok (.aload_n 0, 1) := by decide +kernel
theorem dX6_count_73 : decode cX6_count 73 = .ok (.getfield 35, 3) := by decide +kernel
theorem dX6_count_76 : decode cX6_count 76 = .ok (.getfield 248, 3) := by decide +kernel
theorem dX6_count_79 : decode cX6_count 79 = .ok (.ireturn, 1) := by decide +kernel
theorem dX6_count_80 : decode cX6_count 80 = .ok (.aload_n 0, 1) := by decide +kernel
theorem dX6_count_81 : decode cX6_count 81 = .ok (.getfield 12, 3) := by decide +kernel
theorem dX6_count_84 : decode cX6_count 84 = .ok (.invokevirtual 224, 3) := by decide +kernel
theorem dX6_count_87 : decode cX6_count 87 = .ok (.invokestatic 227, 3) := by decide +kernel
theorem dX6_count_90 : decode cX6_count 90 = .ok (.ireturn, 1) := by decide +kernel
theorem dX6_count_91 : decode cX6_count 91 = .ok (.iconst (-1), 1) := by decide +kernel
theorem dX6_count_92 : decode cX6_count 92 = .ok (.ireturn, 1) := by decide +kernel
theorem dX6_outside_0 : decode cX6_outside 0 = .ok (.iload_n 0, 1) := by decide +kernel
theorem dX6_outside_1 : decode cX6_outside 1 = .ok (.ifCond .lt 8, 3) := by decide +kernel
theorem dX6_outside_4 : decode cX6_outside 4 = .ok (.iload_n 0, 1) := by decide +kernel
theorem dX6_outside_5 : decode cX6_outside 5 = .ok (.iload_n 1, 1) := by decide +kernel
theorem dX6_outside_6 : decode cX6_outside 6 = .ok (.if_icmp .le 7, 3) := by decide +kernel
theorem dX6_outside_9 : decode cX6_outside 9 = .ok (.iconst 1, 1) := by decide +kernel
theorem dX6_outside_10 : decode cX6_outside 10 = .ok (.goto 4, 3) := by decide +kernel
theorem dX6_outside_13 : decode cX6_outside 13 = .ok (.iconst 0, 1) := by decide +kernel
theorem dX6_outside_14 : decode cX6_outside 14 = .ok (.ireturn, 1) := by decide +kernel
theorem dX6_bitOf_0 : decode cX6_bitOf 0 = .ok (.iload_n 0, 1) := by decide +kernel
theorem dX6_bitOf_1 : decode cX6_bitOf 1 = .ok (.ifCond .ge 7, 3) := by decide +kernel
theorem dX6_bitOf_4 : decode cX6_bitOf 4 = .ok (.iconst 0, 1) := by decide +kernel
theorem dX6_bitOf_5 : decode cX6_bitOf 5 = .ok (.goto 6, 3) := by decide +kernel
theorem dX6_bitOf_8 : decode cX6_bitOf 8 = .ok (.iconst 1, 1) := by decide +kernel
theorem dX6_bitOf_9 : decode cX6_bitOf 9 = .ok (.iload_n 0, 1) := by decide +kernel
theorem dX6_bitOf_10 : decode cX6_bitOf 10 = .ok (.ishl, 1) := by decide +kernel
theorem dX6_bitOf_11 : decode cX6_bitOf 11 = .ok (.ireturn, 1) := by decide +kernel
theorem dX6_commonDivisor_0 : decode cX6_commonDivisor 0 = .ok (.iload_n 0, 1) := by decide +kernel
theorem dX6_commonDivisor_1 : decode cX6_commonDivisor 1 = .ok (.istore_n 2, 1) := by decide +kernel
theorem dX6_commonDivisor_2 : decode cX6_commonDivisor 2 = .ok (.iload_n 1, 1) := by decide +kernel
theorem dX6_commonDivisor_3 : decode cX6_commonDivisor 3 = .ok (.istore_n 3, 1) := by decide +kernel
theorem dX6_commonDivisor_4 : decode cX6_commonDivisor 4 = .ok (.iconst 0, 1) := by decide +kernel
theorem dX6_commonDivisor_5 : decode cX6_commonDivisor 5 = .ok (.istore 4, 2) := by decide +kernel
theorem dX6_commonDivisor_7 : decode cX6_commonDivisor 7 = .ok (.iload 4, 2) := by decide +kernel
theorem dX6_commonDivisor_9 : decode cX6_commonDivisor 9 = .ok (.bipush 64, 2) := by decide +kernel
theorem dX6_commonDivisor_11 : decode cX6_commonDivisor 11 = .ok (.if_icmp .ge 23, 3) := by decide +kernel
theorem dX6_commonDivisor_14 : decode cX6_commonDivisor 14 = .ok (.iload_n 3, 1) := by decide +kernel
theorem dX6_commonDivisor_15 : decode cX6_commonDivisor 15 = .ok (.ifCond .eq 19, 3) := by decide +kernel
theorem dX6_commonDivisor_18 : decode cX6_commonDivisor 18 = .ok (.iload_n 2, 1) := by decide +kernel
theorem dX6_commonDivisor_19 : decode cX6_commonDivisor 19 = .ok (.iload_n 3, 1) := by decide +kernel
theorem dX6_commonDivisor_20 : decode cX6_commonDivisor 20 = .ok (.irem, 1) := by decide +kernel
theorem dX6_commonDivisor_21 : decode cX6_commonDivisor 21 = .ok (.istore 5, 2) := by decide +kernel
theorem dX6_commonDivisor_23 : decode cX6_commonDivisor 23 = .ok (.iload_n 3, 1) := by decide +kernel
theorem dX6_commonDivisor_24 : decode cX6_commonDivisor 24 = .ok (.istore_n 2, 1) := by decide +kernel
theorem dX6_commonDivisor_25 : decode cX6_commonDivisor 25 = .ok (.iload 5, 2) := by decide +kernel
theorem dX6_commonDivisor_27 : decode cX6_commonDivisor 27 = .ok (.istore_n 3, 1) := by decide +kernel
theorem dX6_commonDivisor_28 : decode cX6_commonDivisor 28 = .ok (.iinc 4 1, 3) := by decide +kernel
theorem dX6_commonDivisor_31 : decode cX6_commonDivisor 31 = .ok (.goto (-24), 3) := by decide +kernel
theorem dX6_commonDivisor_34 : decode cX6_commonDivisor 34 = .ok (.iload_n 2, 1) := by decide +kernel
theorem dX6_commonDivisor_35 : decode cX6_commonDivisor 35 = .ok (.ifCond .ne 7, 3) := by decide +kernel
theorem dX6_commonDivisor_38 : decode cX6_commonDivisor 38 = .ok (.iconst 1, 1) := by decide +kernel
theorem dX6_commonDivisor_39 : decode cX6_commonDivisor 39 = .ok (.goto 4, 3) := by decide +kernel
theorem dX6_commonDivisor_42 : decode cX6_commonDivisor 42 = .ok (.iload_n 2, 1) := by decide +kernel
theorem dX6_commonDivisor_43 : decode cX6_commonDivisor 43 = .ok (.ireturn, 1) := by decide +kernel
theorem dX6_stepsBehind_0 : decode cX6_stepsBehind 0 = .ok (.iload_n 0, 1) := by decide +kernel
theorem dX6_stepsBehind_1 : decode cX6_stepsBehind 1 = .ok (.iload_n 1, 1) := by decide +kernel
theorem dX6_stepsBehind_2 : decode cX6_stepsBehind 2 = .ok (.isub, 1) := by decide +kernel
theorem dX6_stepsBehind_3 : decode cX6_stepsBehind 3 = .ok (.bipush 7, 2) := by decide +kernel
theorem dX6_stepsBehind_5 : decode cX6_stepsBehind 5 = .ok (.iand, 1) := by decide +kernel
theorem dX6_stepsBehind_6 : decode cX6_stepsBehind 6 = .ok (.ireturn, 1) := by decide +kernel
theorem dX6_alongOf_0 : decode cX6_alongOf 0 = .ok (.iload_n 0, 1) := by decide +kernel
theorem dX6_alongOf_1 : decode cX6_alongOf 1 = .ok (.iload_n 1, 1) := by decide +kernel
theorem dX6_alongOf_2 : decode cX6_alongOf 2 = .ok (.invokestatic 263, 3) := by decide +kernel
theorem dX6_alongOf_5 : decode cX6_alongOf 5 = .ok (.istore_n 2, 1) := by decide +kernel
theorem dX6_alongOf_6 : decode cX6_alongOf 6 = .ok (.iconst 2, 1) := by decide +kernel
theorem dX6_alongOf_7 : decode cX6_alongOf 7 = .ok (.iload_n 2, 1) := by decide +kernel
theorem dX6_alongOf_8 : decode cX6_alongOf 8 = .ok (.bipush 8, 2) := by decide +kernel
theorem dX6_alongOf_10 : decode cX6_alongOf 10 = .ok (.iload_n 2, 1) := by decide +kernel
theorem dX6_alongOf_11 : decode cX6_alongOf 11 = .ok (.isub, 1) := by decide +kernel
theorem dX6_alongOf_12 : decode cX6_alongOf 12 = .ok (.invokestatic 243, 3) := by decide +kernel
theorem dX6_alongOf_15 : decode cX6_alongOf 15 = .ok (.isub, 1) := by decide +kernel
theorem dX6_alongOf_16 : decode cX6_alongOf 16 = .ok (.ireturn, 1) := by decide +kernel
theorem dX6_sideOf_0 : decode cX6_sideOf 0 = .ok (.iload_n 0, 1) := by decide +kernel
theorem dX6_sideOf_1 : decode cX6_sideOf 1 = .ok (.iload_n 1, 1) := by decide +kernel
theorem dX6_sideOf_2 : decode cX6_sideOf 2 = .ok (.invokestatic 263, 3) := by decide +kernel
theorem dX6_sideOf_5 : decode cX6_sideOf 5 = .ok (.istore_n 2, 1) := by decide +kernel
theorem dX6_sideOf_6 : decode cX6_sideOf 6 = .ok (.iload_n 2, 1) := by decide +kernel
theorem dX6_sideOf_7 : decode cX6_sideOf 7 = .ok (.ifCond .eq 8, 3) := by decide +kernel
theorem dX6_sideOf_10 : decode cX6_sideOf 10 = .ok (.iload_n 2, 1) := by decide +kernel
theorem dX6_sideOf_11 : decode cX6_sideOf 11 = .ok (.iconst 4, 1) := by decide +kernel
theorem dX6_sideOf_12 : decode cX6_sideOf 12 = .ok (.if_icmp .ne 5, 3) := by decide +kernel
theorem dX6_sideOf_15 : decode cX6_sideOf 15 = .ok (.iconst 0, 1) := by decide +kernel
theorem dX6_sideOf_16 : decode cX6_sideOf 16 = .ok (.ireturn, 1) := by decide +kernel
theorem dX6_sideOf_17 : decode cX6_sideOf 17 = .ok (.iload_n 2, 1) := by decide +kernel
theorem dX6_sideOf_18 : decode cX6_sideOf 18 = .ok (.iconst 4, 1) := by decide +kernel
theorem dX6_sideOf_19 : decode cX6_sideOf 19 = .ok (.if_icmp .ge 7, 3) := by decide +kernel
theorem dX6_sideOf_22 : decode cX6_sideOf 22 = .ok (.iconst 1, 1) := by decide +kernel
theorem dX6_sideOf_23 : decode cX6_sideOf 23 = .ok (.goto 4, 3) := by decide +kernel
theorem dX6_sideOf_26 : decode cX6_sideOf 26 = .ok (.iconst (-1), 1) := by decide +kernel
theorem dX6_sideOf_27 : decode cX6_sideOf 27 = .ok (.ireturn, 1) := by decide +kernel
theorem dX6_nextPlace_0 : decode cX6_nextPlace 0 = .ok (.iload_n 0, 1) := by decide +kernel
theorem dX6_nextPlace_1 : decode cX6_nextPlace 1 = .ok (.bipush 8, 2) := by decide +kernel
theorem dX6_nextPlace_3 : decode cX6_nextPlace 3 = .ok (.idiv, 1) := by decide +kernel
theorem dX6_nextPlace_4 : decode cX6_nextPlace 4 = .ok (.getstatic 266, 3) := by decide +kernel
theorem dX6_nextPlace_7 : decode cX6_nextPlace 7 = .ok (.iload_n 1, 1) := by decide +kernel
theorem dX6_nextPlace_8 : decode cX6_nextPlace 8 = .ok (.bipush 7, 2) := by decide +kernel
theorem dX6_nextPlace_10 : decode cX6_nextPlace 10 = .ok (.iand, 1) := by decide +kernel
theorem dX6_nextPlace_11 : decode cX6_nextPlace 11 = .ok (.iaload, 1) := by decide +kernel
theorem dX6_nextPlace_12 : decode cX6_nextPlace 12 = .ok (.iadd, 1) := by decide +kernel
theorem dX6_nextPlace_13 : decode cX6_nextPlace 13 = .ok (.istore_n 2, 1) := by decide +kernel
theorem dX6_nextPlace_14 : decode cX6_nextPlace 14 = .ok (.iload_n 0, 1) := by decide +kernel
theorem dX6_nextPlace_15 : decode cX6_nextPlace 15 = .ok (.bipush 8, 2) := by decide +kernel
theorem dX6_nextPlace_17 : decode cX6_nextPlace 17 = .ok (.irem, 1) := by decide +kernel
theorem dX6_nextPlace_18 : decode cX6_nextPlace 18 = .ok (.getstatic 269, 3) := by decide +kernel
theorem dX6_nextPlace_21 : decode cX6_nextPlace 21 = .ok (.iload_n 1, 1) := by decide +kernel
theorem dX6_nextPlace_22 : decode cX6_nextPlace 22 = .ok (.bipush 7, 2) := by decide +kernel
theorem dX6_nextPlace_24 : decode cX6_nextPlace 24 = .ok (.iand, 1) := by decide +kernel
theorem dX6_nextPlace_25 : decode cX6_nextPlace 25 = .ok (.iaload, 1) := by decide +kernel
theorem dX6_nextPlace_26 : decode cX6_nextPlace 26 = .ok (.iadd, 1) := by decide +kernel
theorem dX6_nextPlace_27 : decode cX6_nextPlace 27 = .ok (.istore_n 3, 1) := by decide +kernel
theorem dX6_nextPlace_28 : decode cX6_nextPlace 28 = .ok (.iload_n 2, 1) := by decide +kernel
theorem dX6_nextPlace_29 : decode cX6_nextPlace 29 = .ok (.bipush 7, 2) := by decide +kernel
theorem dX6_nextPlace_31 : decode cX6_nextPlace 31 = .ok (.invokestatic 57, 3) := by decide +kernel
theorem dX6_nextPlace_34 : decode cX6_nextPlace 34 = .ok (.ifCond .ne 12, 3) := by decide +kernel
theorem dX6_nextPlace_37 : decode cX6_nextPlace 37 = .ok (.iload_n 3, 1) := by decide +kernel
theorem dX6_nextPlace_38 : decode cX6_nextPlace 38 = .ok (.bipush 7, 2) := by decide +kernel
theorem dX6_nextPlace_40 : decode cX6_nextPlace 40 = .ok (.invokestatic 57, 3) := by decide +kernel
theorem dX6_nextPlace_43 : decode cX6_nextPlace 43 = .ok (.ifCond .eq 7, 3) := by decide +kernel
theorem dX6_nextPlace_46 : decode cX6_nextPlace 46 = .ok (.iconst (-1), 1) := by decide +kernel
theorem dX6_nextPlace_47 : decode cX6_nextPlace 47 = .ok (.goto 9, 3) := by decide +kernel
theorem dX6_nextPlace_50 : decode cX6_nextPlace 50 = .ok (.bipush 8, 2) := by decide +kernel
theorem dX6_nextPlace_52 : decode cX6_nextPlace 52 = .ok (.iload_n 2, 1) := by decide +kernel
theorem dX6_nextPlace_53 : decode cX6_nextPlace 53 = .ok (.imul, 1) := by decide +kernel
theorem dX6_nextPlace_54 : decode cX6_nextPlace 54 = .ok (.iload_n 3, 1) := by decide +kernel
theorem dX6_nextPlace_55 : decode cX6_nextPlace 55 = .ok (.iadd, 1) := by decide +kernel
theorem dX6_nextPlace_56 : decode cX6_nextPlace 56 = .ok (.ireturn, 1) := by decide +kernel
theorem dX6_stepsFrom_0 : decode cX6_stepsFrom 0 = .ok (.lconst 0, 1) := by decide +kernel
theorem dX6_stepsFrom_1 : decode cX6_stepsFrom 1 = .ok (.lstore_n 1, 1) := by decide +kernel
theorem dX6_stepsFrom_2 : decode cX6_stepsFrom 2 = .ok (.iconst 0, 1) := by decide +kernel
theorem dX6_stepsFrom_3 : decode cX6_stepsFrom 3 = .ok (.istore_n 3, 1) := by decide +kernel
theorem dX6_stepsFrom_4 : decode cX6_stepsFrom 4 = .ok (.iload_n 3, 1) := by decide +kernel
theorem dX6_stepsFrom_5 : decode cX6_stepsFrom 5 = .ok (.bipush 8, 2) := by decide +kernel
theorem dX6_stepsFrom_7 : decode cX6_stepsFrom 7 = .ok (.if_icmp .ge 33, 3) := by decide +kernel
theorem dX6_stepsFrom_10 : decode cX6_stepsFrom 10 = .ok (.iload_n 0, 1) := by decide +kernel
theorem dX6_stepsFrom_11 : decode cX6_stepsFrom 11 = .ok (.iload_n 3, 1) := by decide +kernel
theorem dX6_stepsFrom_12 : decode cX6_stepsFrom 12 = .ok (.invokestatic 272, 3) := by decide +kernel
theorem dX6_stepsFrom_15 : decode cX6_stepsFrom 15 = .ok (.istore 4, 2) := by decide +kernel
theorem dX6_stepsFrom_17 : decode cX6_stepsFrom 17 = .ok (.lload_n 1, 1) := by decide +kernel
theorem dX6_stepsFrom_18 : decode cX6_stepsFrom 18 = .ok (.iload 4, 2) := by decide +kernel
theorem dX6_stepsFrom_20 : decode cX6_stepsFrom 20 = .ok (.iconst (-1), 1) := by decide +kernel
theorem dX6_stepsFrom_21 : decode cX6_stepsFrom 21 = .ok (.if_icmp .ne 7, 3) := by decide +kernel
theorem dX6_stepsFrom_24 : decode cX6_stepsFrom 24 = .ok (.lconst 0, 1) := by decide +kernel
theorem dX6_stepsFrom_25 : decode cX6_stepsFrom 25 = .ok (.goto 7, 3) := by decide +kernel
theorem dX6_stepsFrom_28 : decode cX6_stepsFrom 28 = .ok (.lconst 1, 1) := by decide +kernel
theorem dX6_stepsFrom_29 : decode cX6_stepsFrom 29 = .ok (.iload 4, 2) := by decide +kernel
theorem dX6_stepsFrom_31 : decode cX6_stepsFrom 31 = .ok (.lshl, 1) := by decide +kernel
theorem dX6_stepsFrom_32 : decode cX6_stepsFrom 32 = .ok (.lor, 1) := by decide +kernel
theorem dX6_stepsFrom_33 : decode cX6_stepsFrom 33 = .ok (.lstore_n 1, 1) := by decide +kernel
theorem dX6_stepsFrom_34 : decode cX6_stepsFrom 34 = .ok (.iinc 3 1, 3) := by decide +kernel
theorem dX6_stepsFrom_37 : decode cX6_stepsFrom 37 = .ok (.goto (-33), 3) := by decide +kernel
theorem dX6_stepsFrom_40 : decode cX6_stepsFrom 40 = .ok (.lload_n 1, 1) := by decide +kernel
theorem dX6_stepsFrom_41 : decode cX6_stepsFrom 41 = .ok (.lreturn, 1) := by decide +kernel
theorem dX6_kindAbove_0 : decode cX6_kindAbove 0 = .ok (.iload_n 0, 1) := by decide +kernel
theorem dX6_kindAbove_1 : decode cX6_kindAbove 1 = .ok (.bipush 6, 2) := by decide +kernel
theorem dX6_kindAbove_3 : decode cX6_kindAbove 3 = .ok (.invokestatic 57, 3) := by decide +kernel
theorem dX6_kindAbove_6 : decode cX6_kindAbove 6 = .ok (.ifCond .eq 7, 3) := by decide +kernel
theorem dX6_kindAbove_9 : decode cX6_kindAbove 9 = .ok (.iconst (-1), 1) := by decide +kernel
theorem dX6_kindAbove_10 : decode cX6_kindAbove 10 = .ok (.goto 8, 3) := by decide +kernel
theorem dX6_kindAbove_13 : decode cX6_kindAbove 13 = .ok (.getstatic 275, 3) := by decide +kernel
theorem dX6_kindAbove_16 : decode cX6_kindAbove 16 = .ok (.iload_n 0, 1) := by decide +kernel
theorem dX6_kindAbove_17 : decode cX6_kindAbove 17 = .ok (.iaload, 1) := by decide +kernel
theorem dX6_kindAbove_18 : decode cX6_kindAbove 18 = .ok (.ireturn, 1) := by decide +kernel
