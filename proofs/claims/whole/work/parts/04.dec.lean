theorem dX0_init_0 : decode cX0_init 0 = .ok (.aload_n 0, 1) := by decide +kernel
theorem dX0_init_1 : decode cX0_init 1 = .ok (.invokespecial 3, 3) := by decide +kernel
theorem dX0_init_4 : decode cX0_init 4 = .ok (.aload_n 0, 1) := by decide +kernel
theorem dX0_init_5 : decode cX0_init 5 = .ok (.bipush 20, 2) := by decide +kernel
theorem dX0_init_7 : decode cX0_init 7 = .ok (.newarray .int, 2) := by decide +kernel
theorem dX0_init_9 : decode cX0_init 9 = .ok (.putfield 9, 3) := by decide +kernel
theorem dX0_init_12 : decode cX0_init 12 = .ok (.return_, 1) := by decide +kernel
theorem dX0_begin_0 : decode cX0_begin 0 = .ok (.aload_n 0, 1) := by decide +kernel
theorem dX0_begin_1 : decode cX0_begin 1 = .ok (.getfield 15, 3) := by decide +kernel
theorem dX0_begin_4 : decode cX0_begin 4 = .ok (.bipush 20, 2) := by decide +kernel
theorem dX0_begin_6 : decode cX0_begin 6 = .ok (.if_icmp .ge 13, 3) := by decide +kernel
theorem dX0_begin_9 : decode cX0_begin 9 = .ok (.aload_n 0, 1) := by decide +kernel
theorem dX0_begin_10 : decode cX0_begin 10 = .ok (.getfield 9, 3) := by decide +kernel
theorem dX0_begin_13 : decode cX0_begin 13 = .ok (.aload_n 0, 1) := by decide +kernel
theorem dX0_begin_14 : decode cX0_begin 14 = .ok (.getfield 15, 3) := by decide +kernel
theorem dX0_begin_17 : decode cX0_begin 17 = .ok (.iload_n 1, 1) := by decide +kernel
theorem dX0_begin_18 : decode cX0_begin 18 = .ok (.iastore, 1) := by decide +kernel
theorem dX0_begin_19 : decode cX0_begin 19 = .ok (.aload_n 0, 1) := by decide +kernel
theorem dX0_begin_20 : decode cX0_begin 20 = .ok (.dup, 1) := by decide +kernel
theorem dX0_begin_21 : decode cX0_begin 21 = .ok (.getfield 15, 3) := by decide +kernel
theorem dX0_begin_24 : decode cX0_begin 24 = .ok (.iconst 1, 1) := by decide +kernel
theorem dX0_begin_25 : decode cX0_begin 25 = .ok (.iadd, 1) := by decide +kernel
theorem dX0_begin_26 : decode cX0_begin 26 = .ok (.putfield 15, 3) := by decide +kernel
theorem dX0_begin_29 : decode cX0_begin 29 = .ok (.return_, 1) := by decide +kernel
theorem dX0_run_0 : decode cX0_run 0 = .ok (.iload_n 2, 1) := by decide +kernel
theorem dX0_run_1 : decode cX0_run 1 = .ok (.tableswitch 60 0 2 #[27, 38, 49], 27) := by decide +kernel
theorem dX0_run_28 : decode cX0_run 28 = .ok (.aload_n 0, 1) := by decide +kernel
theorem dX0_run_29 : decode cX0_run 29 = .ok (.aload_n 1, 1) := by decide +kernel
theorem dX0_run_30 : decode cX0_run 30 = .ok (.aload_n 1, 1) := by decide +kernel
theorem dX0_run_31 : decode cX0_run 31 = .ok (.getfield 19, 3) := by decide +kernel
theorem dX0_run_34 : decode cX0_run 34 = .ok (.iload_n 3, 1) := by decide +kernel
theorem dX0_run_35 : decode cX0_run 35 = .ok (.invokevirtual 24, 3) := by decide +kernel
theorem dX0_run_38 : decode cX0_run 38 = .ok (.ireturn, 1) := by decide +kernel
theorem dX0_run_39 : decode cX0_run 39 = .ok (.aload_n 0, 1) := by decide +kernel
theorem dX0_run_40 : decode cX0_run 40 = .ok (.aload_n 1, 1) := by decide +kernel
theorem dX0_run_41 : decode cX0_run 41 = .ok (.aload_n 1, 1) := by decide +kernel
theorem dX0_run_42 : decode cX0_run 42 = .ok (.getfield 19, 3) := by decide +kernel
theorem dX0_run_45 : decode cX0_run 45 = .ok (.iload_n 3, 1) := by decide +kernel
theorem dX0_run_46 : decode cX0_run 46 = .ok (.invokevirtual 28, 3) := by decide +kernel
theorem dX0_run_49 : decode cX0_run 49 = .ok (.ireturn, 1) := by decide +kernel
theorem dX0_run_50 : decode cX0_run 50 = .ok (.aload_n 0, 1) := by decide +kernel
theorem dX0_run_51 : decode cX0_run 51 = .ok (.aload_n 1, 1) := by decide +kernel
theorem dX0_run_52 : decode cX0_run 52 = .ok (.aload_n 1, 1) := by decide +kernel
theorem dX0_run_53 : decode cX0_run 53 = .ok (.getfield 19, 3) := by decide +kernel
theorem dX0_run_56 : decode cX0_run 56 = .ok (.iload_n 3, 1) := by decide +kernel
theorem dX0_run_57 : decode cX0_run 57 = .ok (.invokevirtual 31, 3) := by decide +kernel
theorem dX0_run_60 : decode cX0_run 60 = .ok (.ireturn, 1) := by decide +kernel
theorem dX0_run_61 : decode cX0_run 61 = .ok (.iconst 0, 1) := by decide +kernel
theorem dX0_run_62 : decode cX0_run 62 = .ok (.ireturn, 1) := by decide +kernel
theorem dX0_leans_0 : decode cX0_leans 0 = .ok (.iload_n 2, 1) := by decide +kernel
theorem dX0_leans_1 : decode cX0_leans 1 = .ok (.tableswitch 70 1 5 #[35, 70, 70, 35, 51], 35) := by decide +kernel
theorem dX0_leans_36 : decode cX0_leans 36 = .ok (.aload_n 0, 1) := by decide +kernel
theorem dX0_leans_37 : decode cX0_leans 37 = .ok (.bipush 11, 2) := by decide +kernel
theorem dX0_leans_39 : decode cX0_leans 39 = .ok (.invokevirtual 34, 3) := by decide +kernel
theorem dX0_leans_42 : decode cX0_leans 42 = .ok (.aload_n 0, 1) := by decide +kernel
theorem dX0_leans_43 : decode cX0_leans 43 = .ok (.aload_n 1, 1) := by decide +kernel
theorem dX0_leans_44 : decode cX0_leans 44 = .ok (.iconst 0, 1) := by decide +kernel
theorem dX0_leans_45 : decode cX0_leans 45 = .ok (.iload_n 3, 1) := by decide +kernel
theorem dX0_leans_46 : decode cX0_leans 46 = .ok (.iconst 3, 1) := by decide +kernel
theorem dX0_leans_47 : decode cX0_leans 47 = .ok (.imul, 1) := by decide +kernel
theorem dX0_leans_48 : decode cX0_leans 48 = .ok (.invokevirtual 24, 3) := by decide +kernel
theorem dX0_leans_51 : decode cX0_leans 51 = .ok (.ireturn, 1) := by decide +kernel
theorem dX0_leans_52 : decode cX0_leans 52 = .ok (.aload_n 0, 1) := by decide +kernel
theorem dX0_leans_53 : decode cX0_leans 53 = .ok (.bipush 51, 2) := by decide +kernel
theorem dX0_leans_55 : decode cX0_leans 55 = .ok (.invokevirtual 34, 3) := by decide +kernel
theorem dX0_leans_58 : decode cX0_leans 58 = .ok (.aload_n 0, 1) := by decide +kernel
theorem dX0_leans_59 : decode cX0_leans 59 = .ok (.aload_n 1, 1) := by decide +kernel
theorem dX0_leans_60 : decode cX0_leans 60 = .ok (.iconst 2, 1) := by decide +kernel
theorem dX0_leans_61 : decode cX0_leans 61 = .ok (.iload_n 3, 1) := by decide +kernel
theorem dX0_leans_62 : decode cX0_leans 62 = .ok (.invokevirtual 24, 3) := by decide +kernel
theorem dX0_leans_65 : decode cX0_leans 65 = .ok (.aload_n 1, 1) := by decide +kernel
theorem dX0_leans_66 : decode cX0_leans 66 = .ok (.getfield 38, 3) := by decide +kernel
theorem dX0_leans_69 : decode cX0_leans 69 = .ok (.ixor, 1) := by decide +kernel
theorem dX0_leans_70 : decode cX0_leans 70 = .ok (.ireturn, 1) := by decide +kernel
theorem dX0_leans_71 : decode cX0_leans 71 = .ok (.aload_n 0, 1) := by decide +kernel
theorem dX0_leans_72 : decode cX0_leans 72 = .ok (.iconst 1, 1) := by decide +kernel
theorem dX0_leans_73 : decode cX0_leans 73 = .ok (.invokevirtual 34, 3) := by decide +kernel
theorem dX0_leans_76 : decode cX0_leans 76 = .ok (.iload_n 3, 1) := by decide +kernel
theorem dX0_leans_77 : decode cX0_leans 77 = .ok (.aload_n 1, 1) := by decide +kernel
theorem dX0_leans_78 : decode cX0_leans 78 = .ok (.getfield 38, 3) := by decide +kernel
theorem dX0_leans_81 : decode cX0_leans 81 = .ok (.iadd, 1) := by decide +kernel
theorem dX0_leans_82 : decode cX0_leans 82 = .ok (.ireturn, 1) := by decide +kernel
theorem dX0_holds_0 : decode cX0_holds 0 = .ok (.iload_n 2, 1) := by decide +kernel
theorem dX0_holds_1 : decode cX0_holds 1 = .ok (.tableswitch 69 2 6 #[35, 69, 69, 35, 50], 35) := by decide +kernel
theorem dX0_holds_36 : decode cX0_holds 36 = .ok (.aload_n 0, 1) := by decide +kernel
theorem dX0_holds_37 : decode cX0_holds 37 = .ok (.bipush 21, 2) := by decide +kernel
theorem dX0_holds_39 : decode cX0_holds 39 = .ok (.invokevirtual 34, 3) := by decide +kernel
theorem dX0_holds_42 : decode cX0_holds 42 = .ok (.aload_n 0, 1) := by decide +kernel
theorem dX0_holds_43 : decode cX0_holds 43 = .ok (.aload_n 1, 1) := by decide +kernel
theorem dX0_holds_44 : decode cX0_holds 44 = .ok (.iconst 0, 1) := by decide +kernel
theorem dX0_holds_45 : decode cX0_holds 45 = .ok (.iload_n 3, 1) := by decide +kernel
theorem dX0_holds_46 : decode cX0_holds 46 = .ok (.invokevirtual 28, 3) := by decide +kernel
theorem dX0_holds_49 : decode cX0_holds 49 = .ok (.ineg, 1) := by decide +kernel
theorem dX0_holds_50 : decode cX0_holds 50 = .ok (.ireturn, 1) := by decide +kernel
theorem dX0_holds_51 : decode cX0_holds 51 = .ok (.aload_n 0, 1) := by decide +kernel
theorem dX0_holds_52 : decode cX0_holds 52 = .ok (.bipush 61, 2) := by decide +kernel
theorem dX0_holds_54 : decode cX0_holds 54 = .ok (.invokevirtual 34, 3) := by decide +kernel
theorem dX0_holds_57 : decode cX0_holds 57 = .ok (.aload_n 0, 1) := by decide +kernel
theorem dX0_holds_58 : decode cX0_holds 58 = .ok (.aload_n 1, 1) := by decide +kernel
theorem dX0_holds_59 : decode cX0_holds 59 = .ok (.iconst 3, 1) := by decide +kernel
theorem dX0_holds_60 : decode cX0_holds 60 = .ok (.iload_n 3, 1) := by decide +kernel
theorem dX0_holds_61 : decode cX0_holds 61 = .ok (.invokevirtual 28, 3) := by decide +kernel
theorem dX0_holds_64 : decode cX0_holds 64 = .ok (.aload_n 1, 1) := by decide +kernel
theorem dX0_holds_65 : decode cX0_holds 65 = .ok (.getfield 41, 3) := by decide +kernel
theorem dX0_holds_68 : decode cX0_holds 68 = .ok (.iadd, 1) := by decide +kernel
theorem dX0_holds_69 : decode cX0_holds 69 = .ok (.ireturn, 1) := by decide +kernel
theorem dX0_holds_70 : decode cX0_holds 70 = .ok (.aload_n 0, 1) := by decide +kernel
theorem dX0_holds_71 : decode cX0_holds 71 = .ok (.iconst 2, 1) := by decide +kernel
theorem dX0_holds_72 : decode cX0_holds 72 = .ok (.invokevirtual 34, 3) := by decide +kernel
theorem dX0_holds_75 : decode cX0_holds 75 = .ok (.aload_n 0, 1) := by decide +kernel
theorem dX0_holds_76 : decode cX0_holds 76 = .ok (.aload_n 1, 1) := by decide +kernel
theorem dX0_holds_77 : decode cX0_holds 77 = .ok (.aload_n 1, 1) := by decide +kernel
theorem dX0_holds_78 : decode cX0_holds 78 = .ok (.getfield 19, 3) := by decide +kernel
theorem dX0_holds_81 : decode cX0_holds 81 = .ok (.iload_n 3, 1) := by decide +kernel
theorem dX0_holds_82 : decode cX0_holds 82 = .ok (.invokevirtual 24, 3) := by decide +kernel
theorem dX0_holds_85 : decode cX0_holds 85 = .ok (.aload_n 1, 1) := by decide +kernel
theorem dX0_holds_86 : decode cX0_holds 86 = .ok (.getfield 41, 3) := by decide +kernel
theorem dX0_holds_89 : decode cX0_holds 89 = .ok (.isub, 1) := by decide +kernel
theorem dX0_holds_90 : decode cX0_holds 90 = .ok (.ireturn, 1) := by decide +kernel
theorem dX0_tells_0 : decode cX0_tells 0 = .ok (.iload_n 2, 1) := by decide +kernel
theorem dX0_tells_1 : decode cX0_tells 1 = .ok (.tableswitch 79 3 6 #[31, 48, 79, 31], 31) := by decide +kernel
theorem dX0_tells_32 : decode cX0_tells 32 = .ok (.aload_n 0, 1) := by decide +kernel
theorem dX0_tells_33 : decode cX0_tells 33 = .ok (.bipush 31, 2) := by decide +kernel
theorem dX0_tells_35 : decode cX0_tells 35 = .ok (.invokevirtual 34, 3) := by decide +kernel
theorem dX0_tells_38 : decode cX0_tells 38 = .ok (.aload_n 0, 1) := by decide +kernel
theorem dX0_tells_39 : decode cX0_tells 39 = .ok (.aload_n 1, 1) := by decide +kernel
theorem dX0_tells_40 : decode cX0_tells 40 = .ok (.iconst 0, 1) := by decide +kernel
theorem dX0_tells_41 : decode cX0_tells 41 = .ok (.iload_n 3, 1) := by decide +kernel
theorem dX0_tells_42 : decode cX0_tells 42 = .ok (.invokevirtual 31, 3) := by decide +kernel
theorem dX0_tells_45 : decode cX0_tells 45 = .ok (.bipush 7, 2) := by decide +kernel
theorem dX0_tells_47 : decode cX0_tells 47 = .ok (.ixor, 1) := by decide +kernel
theorem dX0_tells_48 : decode cX0_tells 48 = .ok (.ireturn, 1) := by decide +kernel
theorem dX0_tells_49 : decode cX0_tells 49 = .ok (.aload_n 0, 1) := by decide +kernel
theorem dX0_tells_50 : decode cX0_tells 50 = .ok (.bipush 41, 2) := by decide +kernel
theorem dX0_tells_52 : decode cX0_tells 52 = .ok (.invokevirtual 34, 3) := by decide +kernel
theorem dX0_tells_55 : decode cX0_tells 55 = .ok (.aload_n 0, 1) := by decide +kernel
theorem dX0_tells_56 : decode cX0_tells 56 = .ok (.aload_n 1, 1) := by decide +kernel
theorem dX0_tells_57 : decode cX0_tells 57 = .ok (.iconst 1, 1) := by decide +kernel
theorem dX0_tells_58 : decode cX0_tells 58 = .ok (.iload_n 3, 1) := by decide +kernel
theorem dX0_tells_59 : decode cX0_tells 59 = .ok (.iconst 1, 1) := by decide +kernel
theorem dX0_tells_60 : decode cX0_tells 60 = .ok (.isub, 1) := by decide +kernel
theorem dX0_tells_61 : decode cX0_tells 61 = .ok (.invokevirtual 31, 3) := by decide +kernel
theorem dX0_tells_64 : decode cX0_tells 64 = .ok (.istore 4, 2) := by decide +kernel
theorem dX0_tells_66 : decode cX0_tells 66 = .ok (.iload 4, 2) := by decide +kernel
theorem dX0_tells_68 : decode cX0_tells 68 = .ok (.aload_n 0, 1) := by decide +kernel
theorem dX0_tells_69 : decode cX0_tells 69 = .ok (.aload_n 1, 1) := by decide +kernel
theorem dX0_tells_70 : decode cX0_tells 70 = .ok (.aload_n 1, 1) := by decide +kernel
theorem dX0_tells_71 : decode cX0_tells 71 = .ok (.getfield 19, 3) := by decide +kernel
theorem dX0_tells_74 : decode cX0_tells 74 = .ok (.iconst 2, 1) := by decide +kernel
theorem dX0_tells_75 : decode cX0_tells 75 = .ok (.invokevirtual 24, 3) := by decide +kernel
theorem dX0_tells_78 : decode cX0_tells 78 = .ok (.iadd, 1) := by decide +kernel
theorem dX0_tells_79 : decode cX0_tells 79 = .ok (.ireturn, 1) := by decide +kernel
theorem dX0_tells_80 : decode cX0_tells 80 = .ok (.aload_n 0, 1) := by decide +kernel
theorem dX0_tells_81 : decode cX0_tells 81 = .ok (.iconst 3, 1) := by decide +kernel
theorem dX0_tells_82 : decode cX0_tells 82 = .ok (.invokevirtual 34, 3) := by decide +kernel
theorem dX0_tells_85 : decode cX0_tells 85 = .ok (.aload_n 0, 1) := by decide +kernel
theorem dX0_tells_86 : decode cX0_tells 86 = .ok (.aload_n 1, 1) := by decide +kernel
theorem dX0_tells_87 : decode cX0_tells 87 = .ok (.aload_n 1, 1) := by decide +kernel
theorem dX0_tells_88 : decode cX0_tells 88 = .ok (.getfield 19, 3) := by decide +kernel
theorem dX0_tells_91 : decode cX0_tells 91 = .ok (.iload_n 3, 1) := by decide +kernel
theorem dX0_tells_92 : decode cX0_tells 92 = .ok (.invokevirtual 28, 3) := by decide +kernel
theorem dX0_tells_95 : decode cX0_tells 95 = .ok (.iconst 2, 1) := by decide +kernel
theorem dX0_tells_96 : decode cX0_tells 96 = .ok (.imul, 1) := by decide +kernel
theorem dX0_tells_97 : decode cX0_tells 97 = .ok (.ireturn, 1) := by decide +kernel
theorem dX1_init_0 : decode cX1_init 0 = .ok (.aload_n 0, 1) := by decide +kernel
theorem dX1_init_1 : decode cX1_init 1 = .ok (.invokespecial 3, 3) := by decide +kernel
theorem dX1_init_4 : decode cX1_init 4 = .ok (.return_, 1) := by decide +kernel
theorem dX1_run_0 : decode cX1_run 0 = .ok (.aload_n 0, 1) := by decide +kernel
theorem dX1_run_1 : decode cX1_run 1 = .ok (.aload_n 1, 1) := by decide +kernel
theorem dX1_run_2 : decode cX1_run 2 = .ok (.getfield 9, 3) := by decide +kernel
theorem dX1_run_5 : decode cX1_run 5 = .ok (.aload_n 2, 1) := by decide +kernel
theorem dX1_run_6 : decode cX1_run 6 = .ok (.iload_n 3, 1) := by decide +kernel
theorem dX1_run_7 : decode cX1_run 7 = .ok (.invokevirtual 15, 3) := by decide +kernel
theorem dX1_run_10 : decode cX1_run 10 = .ok (.aload_n 0, 1) := by decide +kernel
theorem dX1_run_11 : decode cX1_run 11 = .ok (.aload_n 1, 1) := by decide +kernel
theorem dX1_run_12 : decode cX1_run 12 = .ok (.aload_n 2, 1) := by decide +kernel
theorem dX1_run_13 : decode cX1_run 13 = .ok (.aload_n 1, 1) := by decide +kernel
theorem dX1_run_14 : decode cX1_run 14 = .ok (.invokevirtual 21, 3) := by decide +kernel
theorem dX1_run_17 : decode cX1_run 17 = .ok (.invokevirtual 25, 3) := by decide +kernel
theorem dX1_run_20 : decode cX1_run 20 = .ok (.return_, 1) := by decide +kernel
theorem dX1_decide_0 : decode cX1_decide 0 = .ok (.aload_n 0, 1) := by decide +kernel
theorem dX1_decide_1 : decode cX1_decide 1 = .ok (.aload_n 1, 1) := by decide +kernel
theorem dX1_decide_2 : decode cX1_decide 2 = .ok (.aload_n 2, 1) := by decide +kernel
theorem dX1_decide_3 : decode cX1_decide 3 = .ok (.invokevirtual 29, 3) := by decide +kernel
theorem dX1_decide_6 : decode cX1_decide 6 = .ok (.aload_n 0, 1) := by decide +kernel
theorem dX1_decide_7 : decode cX1_decide 7 = .ok (.aload_n 1, 1) := by decide +kernel
theorem dX1_decide_8 : decode cX1_decide 8 = .ok (.aload_n 2, 1) := by decide +kernel
theorem dX1_decide_9 : decode cX1_decide 9 = .ok (.iload_n 3, 1) := by decide +kernel
theorem dX1_decide_10 : decode cX1_decide 10 = .ok (.invokevirtual 33, 3) := by decide +kernel
theorem dX1_decide_13 : decode cX1_decide 13 = .ok (.return_, 1) := by decide +kernel
theorem dX1_weigh_0 : decode cX1_weigh 0 = .ok (.aload_n 2, 1) := by decide +kernel
theorem dX1_weigh_1 : decode cX1_weigh 1 = .ok (.getfield 36, 3) := by decide +kernel
theorem dX1_weigh_4 : decode cX1_weigh 4 = .ok (.iconst 0, 1) := by decide +kernel
theorem dX1_weigh_5 : decode cX1_weigh 5 = .ok (.iaload, 1) := by decide +kernel
theorem dX1_weigh_6 : decode cX1_weigh 6 = .ok (.istore_n 3, 1) := by decide +kernel
theorem dX1_weigh_7 : decode cX1_weigh 7 = .ok (.aload_n 0, 1) := by decide +kernel
theorem dX1_weigh_8 : decode cX1_weigh 8 = .ok (.iconst 1, 1) := by decide +kernel
theorem dX1_weigh_9 : decode cX1_weigh 9 = .ok (.aload_n 1, 1) := by decide +kernel
theorem dX1_weigh_10 : decode cX1_weigh 10 = .ok (.iconst 0, 1) := by decide +kernel
theorem dX1_weigh_11 : decode cX1_weigh 11 = .ok (.aload_n 2, 1) := by decide +kernel
theorem dX1_weigh_12 : decode cX1_weigh 12 = .ok (.iload_n 3, 1) := by decide +kernel
theorem dX1_weigh_13 : decode cX1_weigh 13 = .ok (.invokevirtual 44, 3) := by decide +kernel
theorem dX1_weigh_16 : decode cX1_weigh 16 = .ok (.iadd, 1) := by decide +kernel
theorem dX1_weigh_17 : decode cX1_weigh 17 = .ok (.putfield 48, 3) := by decide +kernel
theorem dX1_weigh_20 : decode cX1_weigh 20 = .ok (.aload_n 0, 1) := by decide +kernel
theorem dX1_weigh_21 : decode cX1_weigh 21 = .ok (.iconst 0, 1) := by decide +kernel
theorem dX1_weigh_22 : decode cX1_weigh 22 = .ok (.bipush 40, 2) := by decide +kernel
theorem dX1_weigh_24 : decode cX1_weigh 24 = .ok (.aload_n 1, 1) := by decide +kernel
theorem dX1_weigh_25 : decode cX1_weigh 25 = .ok (.iconst 1, 1) := by decide +kernel
theorem dX1_weigh_26 : decode cX1_weigh 26 = .ok (.aload_n 2, 1) := by decide +kernel
theorem dX1_weigh_27 : decode cX1_weigh 27 = .ok (.iload_n 3, 1) := by decide +kernel
theorem dX1_weigh_28 : decode cX1_weigh 28 = .ok (.invokevirtual 44, 3) := by decide +kernel
theorem dX1_weigh_31 : decode cX1_weigh 31 = .ok (.isub, 1) := by decide +kernel
theorem dX1_weigh_32 : decode cX1_weigh 32 = .ok (.invokestatic 52, 3) := by decide +kernel
theorem dX1_weigh_35 : decode cX1_weigh 35 = .ok (.putfield 58, 3) := by decide +kernel
theorem dX1_weigh_38 : decode cX1_weigh 38 = .ok (.return_, 1) := by decide +kernel
theorem dX1_push_0 : decode cX1_push 0 = .ok (.aload_n 2, 1) := by decide +kernel
theorem dX1_push_1 : decode cX1_push 1 = .ok (.getfield 36, 3) := by decide +kernel
theorem dX1_push_4 : decode cX1_push 4 = .ok (.astore 4, 2) := by decide +kernel
theorem dX1_push_6 : decode cX1_push 6 = .ok (.aload 4, 2) := by decide +kernel
theorem dX1_push_8 : decode cX1_push 8 = .ok (.iconst 0, 1) := by decide +kernel
theorem dX1_push_9 : decode cX1_push 9 = .ok (.iaload, 1) := by decide +kernel
theorem dX1_push_10 : decode cX1_push 10 = .ok (.istore 5, 2) := by decide +kernel
theorem dX1_push_12 : decode cX1_push 12 = .ok (.aload_n 1, 1) := by decide +kernel
theorem dX1_push_13 : decode cX1_push 13 = .ok (.getfield 61, 3) := by decide +kernel
theorem dX1_push_16 : decode cX1_push 16 = .ok (.aload 4, 2) := by decide +kernel
theorem dX1_push_18 : decode cX1_push 18 = .ok (.iconst 5, 1) := by decide +kernel
theorem dX1_push_19 : decode cX1_push 19 = .ok (.iaload, 1) := by decide +kernel
theorem dX1_push_20 : decode cX1_push 20 = .ok (.imul, 1) := by decide +kernel
theorem dX1_push_21 : decode cX1_push 21 = .ok (.istore 6, 2) := by decide +kernel
theorem dX1_push_23 : decode cX1_push 23 = .ok (.aload 4, 2) := by decide +kernel
theorem dX1_push_25 : decode cX1_push 25 = .ok (.iconst 1, 1) := by decide +kernel
theorem dX1_push_26 : decode cX1_push 26 = .ok (.iaload, 1) := by decide +kernel
theorem dX1_push_27 : decode cX1_push 27 = .ok (.aload 4, 2) := by decide +kernel
theorem dX1_push_29 : decode cX1_push 29 = .ok (.iconst 2, 1) := by decide +kernel
theorem dX1_push_30 : decode cX1_push 30 = .ok (.iaload, 1) := by decide +kernel
theorem dX1_push_31 : decode cX1_push 31 = .ok (.iadd, 1) := by decide +kernel
theorem dX1_push_32 : decode cX1_push 32 = .ok (.istore 7, 2) := by decide +kernel
theorem dX1_push_34 : decode cX1_push 34 = .ok (.aload_n 0, 1) := by decide +kernel
theorem dX1_push_35 : decode cX1_push 35 = .ok (.aload_n 2, 1) := by decide +kernel
theorem dX1_push_36 : decode cX1_push 36 = .ok (.getfield 64, 3) := by decide +kernel
theorem dX1_push_39 : decode cX1_push 39 = .ok (.aload_n 2, 1) := by decide +kernel
theorem dX1_push_40 : decode cX1_push 40 = .ok (.getfield 67, 3) := by decide +kernel
theorem dX1_push_43 : decode cX1_push 43 = .ok (.iload 5, 2) := by decide +kernel
theorem dX1_push_45 : decode cX1_push 45 = .ok (.invokestatic 70, 3) := by decide +kernel
theorem dX1_push_48 : decode cX1_push 48 = .ok (.imul, 1) := by decide +kernel
theorem dX1_push_49 : decode cX1_push 49 = .ok (.aload_n 1, 1) := by decide +kernel
theorem dX1_push_50 : decode cX1_push 50 = .ok (.getfield 73, 3) := by decide +kernel
theorem dX1_push_53 : decode cX1_push 53 = .ok (.aload 4, 2) := by decide +kernel
theorem dX1_push_55 : decode cX1_push 55 = .ok (.iconst 3, 1) := by decide +kernel
theorem dX1_push_56 : decode cX1_push 56 = .ok (.iaload, 1) := by decide +kernel
theorem dX1_push_57 : decode cX1_push 57 = .ok (.imul, 1) := by decide +kernel
theorem dX1_push_58 : decode cX1_push 58 = .ok (.iadd, 1) := by decide +kernel
theorem dX1_push_59 : decode cX1_push 59 = .ok (.iload 6, 2) := by decide +kernel
theorem dX1_push_61 : decode cX1_push 61 = .ok (.aload 4, 2) := by decide +kernel
theorem dX1_push_63 : decode cX1_push 63 = .ok (.iconst 4, 1) := by decide +kernel
theorem dX1_push_64 : decode cX1_push 64 = .ok (.iaload, 1) := by decide +kernel
theorem dX1_push_65 : decode cX1_push 65 = .ok (.iload 5, 2) := by decide +kernel
theorem dX1_push_67 : decode cX1_push 67 = .ok (.invokestatic 70, 3) := by decide +kernel
theorem dX1_push_70 : decode cX1_push 70 = .ok (.imul, 1) := by decide +kernel
theorem dX1_push_71 : decode cX1_push 71 = .ok (.iadd, 1) := by decide +kernel
theorem dX1_push_72 : decode cX1_push 72 = .ok (.putfield 76, 3) := by decide +kernel
theorem dX1_push_75 : decode cX1_push 75 = .ok (.aload_n 0, 1) := by decide +kernel
theorem dX1_push_76 : decode cX1_push 76 = .ok (.aload_n 2, 1) := by decide +kernel
theorem dX1_push_77 : decode cX1_push 77 = .ok (.getfield 64, 3) := by decide +kernel
theorem dX1_push_80 : decode cX1_push 80 = .ok (.aload_n 2, 1) := by decide +kernel
theorem dX1_push_81 : decode cX1_push 81 = .ok (.getfield 67, 3) := by decide +kernel
theorem dX1_push_84 : decode cX1_push 84 = .ok (.iload 5, 2) := by decide +kernel
theorem dX1_push_86 : decode cX1_push 86 = .ok (.invokestatic 79, 3) := by decide +kernel
theorem dX1_push_89 : decode cX1_push 89 = .ok (.imul, 1) := by decide +kernel
theorem dX1_push_90 : decode cX1_push 90 = .ok (.aload 4, 2) := by decide +kernel
theorem dX1_push_92 : decode cX1_push 92 = .ok (.iconst 2, 1) := by decide +kernel
theorem dX1_push_93 : decode cX1_push 93 = .ok (.iaload, 1) := by decide +kernel
theorem dX1_push_94 : decode cX1_push 94 = .ok (.iadd, 1) := by decide +kernel
theorem dX1_push_95 : decode cX1_push 95 = .ok (.aload 4, 2) := by decide +kernel
theorem dX1_push_97 : decode cX1_push 97 = .ok (.iconst 1, 1) := by decide +kernel
theorem dX1_push_98 : decode cX1_push 98 = .ok (.iaload, 1) := by decide +kernel
theorem dX1_push_99 : decode cX1_push 99 = .ok (.isub, 1) := by decide +kernel
theorem dX1_push_100 : decode cX1_push 100 = .ok (.iload 6, 2) := by decide +kernel
theorem dX1_push_102 : decode cX1_push 102 = .ok (.aload 4, 2) := by decide +kernel
theorem dX1_push_104 : decode cX1_push 104 = .ok (.iconst 4, 1) := by decide +kernel
theorem dX1_push_105 : decode cX1_push 105 = .ok (.iaload, 1) := by decide +kernel
theorem dX1_push_106 : decode cX1_push 106 = .ok (.iload 5, 2) := by decide +kernel
theorem dX1_push_108 : decode cX1_push 108 = .ok (.invokestatic 79, 3) := by decide +kernel
theorem dX1_push_111 : decode cX1_push 111 = .ok (.imul, 1) := by decide +kernel
theorem dX1_push_112 : decode cX1_push 112 = .ok (.iadd, 1) := by decide +kernel
theorem dX1_push_113 : decode cX1_push 113 = .ok (.putfield 82, 3) := by decide +kernel
theorem dX1_push_116 : decode cX1_push 116 = .ok (.iload_n 3, 1) := by decide +kernel
theorem dX1_push_117 : decode cX1_push 117 = .ok (.iconst (-1), 1) := by decide +kernel
theorem dX1_push_118 : decode cX1_push 118 = .ok (.if_icmp .eq 48, 3) := by decide +kernel
theorem dX1_push_121 : decode cX1_push 121 = .ok (.aload_n 1, 1) := by decide +kernel
theorem dX1_push_122 : decode cX1_push 122 = .ok (.iconst 2, 1) := by decide +kernel
theorem dX1_push_123 : decode cX1_push 123 = .ok (.aload_n 2, 1) := by decide +kernel
theorem dX1_push_124 : decode cX1_push 124 = .ok (.iload_n 3, 1) := by decide +kernel
theorem dX1_push_125 : decode cX1_push 125 = .ok (.invokevirtual 44, 3) := by decide +kernel
theorem dX1_push_128 : decode cX1_push 128 = .ok (.istore 8, 2) := by decide +kernel
theorem dX1_push_130 : decode cX1_push 130 = .ok (.aload_n 0, 1) := by decide +kernel
theorem dX1_push_131 : decode cX1_push 131 = .ok (.dup, 1) := by decide +kernel
theorem dX1_push_132 : decode cX1_push 132 = .ok (.getfield 76, 3) := by decide +kernel
theorem dX1_push_135 : decode cX1_push 135 = .ok (.iload 8, 2) := by decide +kernel
theorem dX1_push_137 : decode cX1_push 137 = .ok (.iload_n 3, 1) := by decide +kernel
theorem dX1_push_138 : decode cX1_push 138 = .ok (.iload 5, 2) := by decide +kernel
theorem dX1_push_140 : decode cX1_push 140 = .ok (.invokestatic 70, 3) := by decide +kernel
theorem dX1_push_143 : decode cX1_push 143 = .ok (.imul, 1) := by decide +kernel
theorem dX1_push_144 : decode cX1_push 144 = .ok (.iadd, 1) := by decide +kernel
theorem dX1_push_145 : decode cX1_push 145 = .ok (.putfield 76, 3) := by decide +kernel
theorem dX1_push_148 : decode cX1_push 148 = .ok (.aload_n 0, 1) := by decide +kernel
theorem dX1_push_149 : decode cX1_push 149 = .ok (.dup, 1) := by decide +kernel
theorem dX1_push_150 : decode cX1_push 150 = .ok (.getfield 82, 3) := by decide +kernel
theorem dX1_push_153 : decode cX1_push 153 = .ok (.iload 8, 2) := by decide +kernel
theorem dX1_push_155 : decode cX1_push 155 = .ok (.iload_n 3, 1) := by decide +kernel
theorem dX1_push_156 : decode cX1_push 156 = .ok (.iload 5, 2) := by decide +kernel
theorem dX1_push_158 : decode cX1_push 158 = .ok (.invokestatic 79, 3) := by decide +kernel
theorem dX1_push_161 : decode cX1_push 161 = .ok (.imul, 1) := by decide +kernel
theorem dX1_push_162 : decode cX1_push 162 = .ok (.iadd, 1) := by decide +kernel
theorem dX1_push_163 : decode cX1_push 163 = .ok (.putfield 82, 3) := by decide +kernel
theorem dX1_push_166 : decode cX1_push 166 = .ok (.aload_n 0, 1) := by decide +kernel
theorem dX1_push_167 : decode cX1_push 167 = .ok (.aload_n 0, 1) := by decide +kernel
theorem dX1_push_168 : decode cX1_push 168 = .ok (.getfield 48, 3) := by decide +kernel
theorem dX1_push_171 : decode cX1_push 171 = .ok (.iload 7, 2) := by decide +kernel
theorem dX1_push_173 : decode cX1_push 173 = .ok (.imul, 1) := by decide +kernel
theorem dX1_push_174 : decode cX1_push 174 = .ok (.aload_n 2, 1) := by decide +kernel
theorem dX1_push_175 : decode cX1_push 175 = .ok (.getfield 85, 3) := by decide +kernel
theorem dX1_push_178 : decode cX1_push 178 = .ok (.iload 7, 2) := by decide +kernel
theorem dX1_push_180 : decode cX1_push 180 = .ok (.imul, 1) := by decide +kernel
theorem dX1_push_181 : decode cX1_push 181 = .ok (.bipush 10, 2) := by decide +kernel
theorem dX1_push_183 : decode cX1_push 183 = .ok (.idiv, 1) := by decide +kernel
theorem dX1_push_184 : decode cX1_push 184 = .ok (.isub, 1) := by decide +kernel
theorem dX1_push_185 : decode cX1_push 185 = .ok (.putfield 88, 3) := by decide +kernel
theorem dX1_push_188 : decode cX1_push 188 = .ok (.aload_n 0, 1) := by decide +kernel
theorem dX1_push_189 : decode cX1_push 189 = .ok (.aload_n 0, 1) := by decide +kernel
theorem dX1_push_190 : decode cX1_push 190 = .ok (.getfield 58, 3) := by decide +kernel
theorem dX1_push_193 : decode cX1_push 193 = .ok (.putfield 91, 3) := by decide +kernel
theorem dX1_push_196 : decode cX1_push 196 = .ok (.aload_n 0, 1) := by decide +kernel
theorem dX1_push_197 : decode cX1_push 197 = .ok (.aload_n 2, 1) := by decide +kernel
theorem dX1_push_198 : decode cX1_push 198 = .ok (.getfield 94, 3) := by decide +kernel
theorem dX1_push_201 : decode cX1_push 201 = .ok (.aload_n 2, 1) := by decide +kernel
theorem dX1_push_202 : decode cX1_push 202 = .ok (.getfield 97, 3) := by decide +kernel
theorem dX1_push_205 : decode cX1_push 205 = .ok (.invokevirtual 100, 3) := by decide +kernel
theorem dX1_push_208 : decode cX1_push 208 = .ok (.aload_n 0, 1) := by decide +kernel
theorem dX1_push_209 : decode cX1_push 209 = .ok (.aload_n 0, 1) := by decide +kernel
theorem dX1_push_210 : decode cX1_push 210 = .ok (.invokevirtual 104, 3) := by decide +kernel
theorem dX1_push_213 : decode cX1_push 213 = .ok (.putfield 107, 3) := by decide +kernel
theorem dX1_push_216 : decode cX1_push 216 = .ok (.aload_n 0, 1) := by decide +kernel
theorem dX1_push_217 : decode cX1_push 217 = .ok (.aload_n 0, 1) := by decide +kernel
theorem dX1_push_218 : decode cX1_push 218 = .ok (.iload 5, 2) := by decide +kernel
theorem dX1_push_220 : decode cX1_push 220 = .ok (.invokevirtual 110, 3) := by decide +kernel
theorem dX1_push_223 : decode cX1_push 223 = .ok (.putfield 114, 3) := by decide +kernel
theorem dX1_push_226 : decode cX1_push 226 = .ok (.return_, 1) := by decide +kernel
theorem dX1_changeByKind_0 : decode cX1_changeByKind 0 = .ok (.iload_n 1, 1) := by decide +kernel
theorem dX1_changeByKind_1 : decode cX1_changeByKind 1 = .ok (.iconst 1, 1) := by decide +kernel
theorem dX1_changeByKind_2 : decode cX1_changeByKind 2 = .ok (.if_icmp .eq 8, 3) := by decide +kernel
theorem dX1_changeByKind_5 : decode cX1_changeByKind 5 = .ok (.iload_n 1, 1) := by decide +kernel
theorem dX1_changeByKind_6 : decode cX1_changeByKind 6 = .ok (.iconst 4, 1) := by decide +kernel
theorem dX1_changeByKind_7 : decode cX1_changeByKind 7 = .ok (.if_icmp .ne 19, 3) := by decide +kernel
theorem dX1_changeByKind_10 : decode cX1_changeByKind 10 = .ok (.aload_n 0, 1) := by decide +kernel
theorem dX1_changeByKind_11 : decode cX1_changeByKind 11 = .ok (.getfield 82, 3) := by decide +kernel
theorem dX1_changeByKind_14 : decode cX1_changeByKind 14 = .ok (.invokestatic 117, 3) := by decide +kernel
theorem dX1_changeByKind_17 : decode cX1_changeByKind 17 = .ok (.iload_n 2, 1) := by decide +kernel
theorem dX1_changeByKind_18 : decode cX1_changeByKind 18 = .ok (.if_icmp .gt 8, 3) := by decide +kernel
theorem dX1_changeByKind_21 : decode cX1_changeByKind 21 = .ok (.aload_n 0, 1) := by decide +kernel
theorem dX1_changeByKind_22 : decode cX1_changeByKind 22 = .ok (.iconst 0, 1) := by decide +kernel
theorem dX1_changeByKind_23 : decode cX1_changeByKind 23 = .ok (.putfield 82, 3) := by decide +kernel
theorem dX1_changeByKind_26 : decode cX1_changeByKind 26 = .ok (.iload_n 1, 1) := by decide +kernel
theorem dX1_changeByKind_27 : decode cX1_changeByKind 27 = .ok (.iconst 2, 1) := by decide +kernel
theorem dX1_changeByKind_28 : decode cX1_changeByKind 28 = .ok (.if_icmp .eq 8, 3) := by decide +kernel
theorem dX1_changeByKind_31 : decode cX1_changeByKind 31 = .ok (.iload_n 1, 1) := by decide +kernel
theorem dX1_changeByKind_32 : decode cX1_changeByKind 32 = .ok (.iconst 5, 1) := by decide +kernel
theorem dX1_changeByKind_33 : decode cX1_changeByKind 33 = .ok (.if_icmp .ne 13, 3) := by decide +kernel
theorem dX1_changeByKind_36 : decode cX1_changeByKind 36 = .ok (.aload_n 0, 1) := by decide +kernel
theorem dX1_changeByKind_37 : decode cX1_changeByKind 37 = .ok (.dup, 1) := by decide +kernel
theorem dX1_changeByKind_38 : decode cX1_changeByKind 38 = .ok (.getfield 82, 3) := by decide +kernel
theorem dX1_changeByKind_41 : decode cX1_changeByKind 41 = .ok (.iload_n 2, 1) := by decide +kernel
theorem dX1_changeByKind_42 : decode cX1_changeByKind 42 = .ok (.iadd, 1) := by decide +kernel
theorem dX1_changeByKind_43 : decode cX1_changeByKind 43 = .ok (.putfield 82, 3) := by decide +kernel
theorem dX1_changeByKind_46 : decode cX1_changeByKind 46 = .ok (.iload_n 1, 1) := by decide +kernel
theorem dX1_changeByKind_47 : decode cX1_changeByKind 47 = .ok (.iconst 5, 1) := by decide +kernel
theorem dX1_changeByKind_48 : decode cX1_changeByKind 48 = .ok (.if_icmp .ne 17, 3) := by decide +kernel
theorem dX1_changeByKind_51 : decode cX1_changeByKind 51 = .ok (.aload_n 0, 1) := by decide +kernel
theorem dX1_changeByKind_52 : decode cX1_changeByKind 52 = .ok (.iconst 0, 1) := by decide +kernel
theorem dX1_changeByKind_53 : decode cX1_changeByKind 53 = .ok (.aload_n 0, 1) := by decide +kernel
theorem dX1_changeByKind_54 : decode cX1_changeByKind 54 = .ok (.getfield 88, 3) := by decide +kernel
theorem dX1_changeByKind_57 : decode cX1_changeByKind 57 = .ok (.iload_n 2, 1) := by decide +kernel
theorem dX1_changeByKind_58 : decode cX1_changeByKind 58 = .ok (.isub, 1) := by decide +kernel
theorem dX1_changeByKind_59 : decode cX1_changeByKind 59 = .ok (.invokestatic 52, 3) := by decide +kernel
theorem dX1_changeByKind_62 : decode cX1_changeByKind 62 = .ok (.putfield 88, 3) := by decide +kernel
theorem dX1_changeByKind_65 : decode cX1_changeByKind 65 = .ok (.iload_n 1, 1) := by decide +kernel
theorem dX1_changeByKind_66 : decode cX1_changeByKind 66 = .ok (.iconst 3, 1) := by decide +kernel
theorem dX1_changeByKind_67 : decode cX1_changeByKind 67 = .ok (.if_icmp .eq 9, 3) := by decide +kernel
theorem dX1_changeByKind_70 : decode cX1_changeByKind 70 = .ok (.iload_n 1, 1) := by decide +kernel
theorem dX1_changeByKind_71 : decode cX1_changeByKind 71 = .ok (.bipush 6, 2) := by decide +kernel
theorem dX1_changeByKind_73 : decode cX1_changeByKind 73 = .ok (.if_icmp .ne 13, 3) := by decide +kernel
theorem dX1_changeByKind_76 : decode cX1_changeByKind 76 = .ok (.aload_n 0, 1) := by decide +kernel
theorem dX1_changeByKind_77 : decode cX1_changeByKind 77 = .ok (.dup, 1) := by decide +kernel
theorem dX1_changeByKind_78 : decode cX1_changeByKind 78 = .ok (.getfield 76, 3) := by decide +kernel
theorem dX1_changeByKind_81 : decode cX1_changeByKind 81 = .ok (.iload_n 2, 1) := by decide +kernel
theorem dX1_changeByKind_82 : decode cX1_changeByKind 82 = .ok (.isub, 1) := by decide +kernel
theorem dX1_changeByKind_83 : decode cX1_changeByKind 83 = .ok (.putfield 76, 3) := by decide +kernel
theorem dX1_changeByKind_86 : decode cX1_changeByKind 86 = .ok (.iload_n 1, 1) := by decide +kernel
theorem dX1_changeByKind_87 : decode cX1_changeByKind 87 = .ok (.bipush 6, 2) := by decide +kernel
theorem dX1_changeByKind_89 : decode cX1_changeByKind 89 = .ok (.if_icmp .ne 17, 3) := by decide +kernel
theorem dX1_changeByKind_92 : decode cX1_changeByKind 92 = .ok (.aload_n 0, 1) := by decide +kernel
theorem dX1_changeByKind_93 : decode cX1_changeByKind 93 = .ok (.iconst 0, 1) := by decide +kernel
theorem dX1_changeByKind_94 : decode cX1_changeByKind 94 = .ok (.aload_n 0, 1) := by decide +kernel
theorem dX1_changeByKind_95 : decode cX1_changeByKind 95 = .ok (.getfield 91, 3) := by decide +kernel
theorem dX1_changeByKind_98 : decode cX1_changeByKind 98 = .ok (.iload_n 2, 1) := by decide +kernel
theorem dX1_changeByKind_99 : decode cX1_changeByKind 99 = .ok (.isub, 1) := by decide +kernel
theorem dX1_changeByKind_100 : decode cX1_changeByKind 100 = .ok (.invokestatic 52, 3) := by decide +kernel
theorem dX1_changeByKind_103 : decode cX1_changeByKind 103 = .ok (.putfield 91, 3) := by decide +kernel
theorem dX1_changeByKind_106 : decode cX1_changeByKind 106 = .ok (.return_, 1) := by decide +kernel
theorem dX1_howItGoes_0 : decode cX1_howItGoes 0 = .ok (.aload_n 0, 1) := by decide +kernel
theorem dX1_howItGoes_1 : decode cX1_howItGoes 1 = .ok (.getfield 82, 3) := by decide +kernel
theorem dX1_howItGoes_4 : decode cX1_howItGoes 4 = .ok (.invokestatic 117, 3) := by decide +kernel
theorem dX1_howItGoes_7 : decode cX1_howItGoes 7 = .ok (.istore_n 1, 1) := by decide +kernel
theorem dX1_howItGoes_8 : decode cX1_howItGoes 8 = .ok (.aload_n 0, 1) := by decide +kernel
theorem dX1_howItGoes_9 : decode cX1_howItGoes 9 = .ok (.getfield 76, 3) := by decide +kernel
theorem dX1_howItGoes_12 : decode cX1_howItGoes 12 = .ok (.ifCond .ge 5, 3) := by decide +kernel
theorem dX1_howItGoes_15 : decode cX1_howItGoes 15 = .ok (.iconst 2, 1) := by decide +kernel
theorem dX1_howItGoes_16 : decode cX1_howItGoes 16 = .ok (.ireturn, 1) := by decide +kernel
theorem dX1_howItGoes_17 : decode cX1_howItGoes 17 = .ok (.aload_n 0, 1) := by decide +kernel
theorem dX1_howItGoes_18 : decode cX1_howItGoes 18 = .ok (.getfield 76, 3) := by decide +kernel
theorem dX1_howItGoes_21 : decode cX1_howItGoes 21 = .ok (.aload_n 0, 1) := by decide +kernel
theorem dX1_howItGoes_22 : decode cX1_howItGoes 22 = .ok (.getfield 91, 3) := by decide +kernel
theorem dX1_howItGoes_25 : decode cX1_howItGoes 25 = .ok (.if_icmp .le 5, 3) := by decide +kernel
theorem dX1_howItGoes_28 : decode cX1_howItGoes 28 = .ok (.iconst 4, 1) := by decide +kernel
theorem dX1_howItGoes_29 : decode cX1_howItGoes 29 = .ok (.ireturn, 1) := by decide +kernel
theorem dX1_howItGoes_30 : decode cX1_howItGoes 30 = .ok (.iload_n 1, 1) := by decide +kernel
theorem dX1_howItGoes_31 : decode cX1_howItGoes 31 = .ok (.aload_n 0, 1) := by decide +kernel
theorem dX1_howItGoes_32 : decode cX1_howItGoes 32 = .ok (.getfield 88, 3) := by decide +kernel
theorem dX1_howItGoes_35 : decode cX1_howItGoes 35 = .ok (.if_icmp .le 5, 3) := by decide +kernel
theorem dX1_howItGoes_38 : decode cX1_howItGoes 38 = .ok (.iconst 3, 1) := by decide +kernel
theorem dX1_howItGoes_39 : decode cX1_howItGoes 39 = .ok (.ireturn, 1) := by decide +kernel
theorem dX1_howItGoes_40 : decode cX1_howItGoes 40 = .ok (.iconst 2, 1) := by decide +kernel
theorem dX1_howItGoes_41 : decode cX1_howItGoes 41 = .ok (.iload_n 1, 1) := by decide +kernel
theorem dX1_howItGoes_42 : decode cX1_howItGoes 42 = .ok (.imul, 1) := by decide +kernel
theorem dX1_howItGoes_43 : decode cX1_howItGoes 43 = .ok (.aload_n 0, 1) := by decide +kernel
theorem dX1_howItGoes_44 : decode cX1_howItGoes 44 = .ok (.getfield 88, 3) := by decide +kernel
theorem dX1_howItGoes_47 : decode cX1_howItGoes 47 = .ok (.if_icmp .le 7, 3) := by decide +kernel
theorem dX1_howItGoes_50 : decode cX1_howItGoes 50 = .ok (.iconst 1, 1) := by decide +kernel
theorem dX1_howItGoes_51 : decode cX1_howItGoes 51 = .ok (.goto 4, 3) := by decide +kernel
theorem dX1_howItGoes_54 : decode cX1_howItGoes 54 = .ok (.iconst 0, 1) := by decide +kernel
theorem dX1_howItGoes_55 : decode cX1_howItGoes 55 = .ok (.ireturn, 1) := by decide +kernel
theorem dX1_wayItGoes_0 : decode cX1_wayItGoes 0 = .ok (.aload_n 0, 1) := by decide +kernel
theorem dX1_wayItGoes_1 : decode cX1_wayItGoes 1 = .ok (.getfield 82, 3) := by decide +kernel
theorem dX1_wayItGoes_4 : decode cX1_wayItGoes 4 = .ok (.ifCond .le 7, 3) := by decide +kernel
theorem dX1_wayItGoes_7 : decode cX1_wayItGoes 7 = .ok (.iconst 1, 1) := by decide +kernel
theorem dX1_wayItGoes_8 : decode cX1_wayItGoes 8 = .ok (.goto 4, 3) := by decide +kernel
theorem dX1_wayItGoes_11 : decode cX1_wayItGoes 11 = .ok (.iconst (-1), 1) := by decide +kernel
theorem dX1_wayItGoes_12 : decode cX1_wayItGoes 12 = .ok (.istore_n 2, 1) := by decide +kernel
theorem dX1_wayItGoes_13 : decode cX1_wayItGoes 13 = .ok (.aload_n 0, 1) := by decide +kernel
theorem dX1_wayItGoes_14 : decode cX1_wayItGoes 14 = .ok (.getfield 107, 3) := by decide +kernel
theorem dX1_wayItGoes_17 : decode cX1_wayItGoes 17 = .ok (.tableswitch 46 1 3 #[30, 27, 37], 27) := by decide +kernel
theorem dX1_wayItGoes_44 : decode cX1_wayItGoes 44 = .ok (.bipush (-5), 2) := by decide +kernel
theorem dX1_wayItGoes_46 : decode cX1_wayItGoes 46 = .ok (.ireturn, 1) := by decide +kernel
theorem dX1_wayItGoes_47 : decode cX1_wayItGoes 47 = .ok (.iload_n 1, 1) := by decide +kernel
theorem dX1_wayItGoes_48 : decode cX1_wayItGoes 48 = .ok (.iload_n 2, 1) := by decide +kernel
theorem dX1_wayItGoes_49 : decode cX1_wayItGoes 49 = .ok (.iadd, 1) := by decide +kernel
theorem dX1_wayItGoes_50 : decode cX1_wayItGoes 50 = .ok (.bipush 7, 2) := by decide +kernel
theorem dX1_wayItGoes_52 : decode cX1_wayItGoes 52 = .ok (.iand, 1) := by decide +kernel
theorem dX1_wayItGoes_53 : decode cX1_wayItGoes 53 = .ok (.ireturn, 1) := by decide +kernel
theorem dX1_wayItGoes_54 : decode cX1_wayItGoes 54 = .ok (.iload_n 1, 1) := by decide +kernel
theorem dX1_wayItGoes_55 : decode cX1_wayItGoes 55 = .ok (.iconst 2, 1) := by decide +kernel
theorem dX1_wayItGoes_56 : decode cX1_wayItGoes 56 = .ok (.iload_n 2, 1) := by decide +kernel
theorem dX1_wayItGoes_57 : decode cX1_wayItGoes 57 = .ok (.imul, 1) := by decide +kernel
theorem dX1_wayItGoes_58 : decode cX1_wayItGoes 58 = .ok (.iadd, 1) := by decide +kernel
theorem dX1_wayItGoes_59 : decode cX1_wayItGoes 59 = .ok (.bipush 7, 2) := by decide +kernel
theorem dX1_wayItGoes_61 : decode cX1_wayItGoes 61 = .ok (.iand, 1) := by decide +kernel
theorem dX1_wayItGoes_62 : decode cX1_wayItGoes 62 = .ok (.ireturn, 1) := by decide +kernel
theorem dX1_wayItGoes_63 : decode cX1_wayItGoes 63 = .ok (.iload_n 1, 1) := by decide +kernel
theorem dX1_wayItGoes_64 : decode cX1_wayItGoes 64 = .ok (.ireturn, 1) := by decide +kernel
theorem dX1_lay_0 : decode cX1_lay 0 = .ok (.aload_n 0, 1) := by decide +kernel
theorem dX1_lay_1 : decode cX1_lay 1 = .ok (.lconst 0, 1) := by decide +kernel
theorem dX1_lay_2 : decode cX1_lay 2 = .ok (.putfield 120, 3) := by decide +kernel
theorem dX1_lay_5 : decode cX1_lay 5 = .ok (.aload_n 0, 1) := by decide +kernel
theorem dX1_lay_6 : decode cX1_lay 6 = .ok (.bipush (-5), 2) := by decide +kernel
theorem dX1_lay_8 : decode cX1_lay 8 = .ok (.putfield 124, 3) := by decide +kernel
theorem dX1_lay_11 : decode cX1_lay 11 = .ok (.aload_n 0, 1) := by decide +kernel
theorem dX1_lay_12 : decode cX1_lay 12 = .ok (.getfield 107, 3) := by decide +kernel
theorem dX1_lay_15 : decode cX1_lay 15 = .ok (.iconst 2, 1) := by decide +kernel
theorem dX1_lay_16 : decode cX1_lay 16 = .ok (.if_icmp .ne 7, 3) := by decide +kernel
theorem dX1_lay_19 : decode cX1_lay 19 = .ok (.iconst 0, 1) := by decide +kernel
theorem dX1_lay_20 : decode cX1_lay 20 = .ok (.goto 24, 3) := by decide +kernel
theorem dX1_lay_23 : decode cX1_lay 23 = .ok (.aload_n 0, 1) := by decide +kernel
theorem dX1_lay_24 : decode cX1_lay 24 = .ok (.getfield 107, 3) := by decide +kernel
theorem dX1_lay_27 : decode cX1_lay 27 = .ok (.iconst 4, 1) := by decide +kernel
theorem dX1_lay_28 : decode cX1_lay 28 = .ok (.if_icmp .ne 12, 3) := by decide +kernel
theorem dX1_lay_31 : decode cX1_lay 31 = .ok (.aload_n 2, 1) := by decide +kernel
theorem dX1_lay_32 : decode cX1_lay 32 = .ok (.getfield 127, 3) := by decide +kernel
theorem dX1_lay_35 : decode cX1_lay 35 = .ok (.iconst 1, 1) := by decide +kernel
theorem dX1_lay_36 : decode cX1_lay 36 = .ok (.isub, 1) := by decide +kernel
theorem dX1_lay_37 : decode cX1_lay 37 = .ok (.goto 7, 3) := by decide +kernel
theorem dX1_lay_40 : decode cX1_lay 40 = .ok (.aload_n 2, 1) := by decide +kernel
theorem dX1_lay_41 : decode cX1_lay 41 = .ok (.getfield 127, 3) := by decide +kernel
theorem dX1_lay_44 : decode cX1_lay 44 = .ok (.istore 4, 2) := by decide +kernel
theorem dX1_lay_46 : decode cX1_lay 46 = .ok (.aload_n 2, 1) := by decide +kernel
theorem dX1_lay_47 : decode cX1_lay 47 = .ok (.getfield 130, 3) := by decide +kernel
theorem dX1_lay_50 : decode cX1_lay 50 = .ok (.aload_n 0, 1) := by decide +kernel
theorem dX1_lay_51 : decode cX1_lay 51 = .ok (.getfield 114, 3) := by decide +kernel
theorem dX1_lay_54 : decode cX1_lay 54 = .ok (.invokestatic 133, 3) := by decide +kernel
theorem dX1_lay_57 : decode cX1_lay 57 = .ok (.istore 5, 2) := by decide +kernel
theorem dX1_lay_59 : decode cX1_lay 59 = .ok (.iconst 0, 1) := by decide +kernel
theorem dX1_lay_60 : decode cX1_lay 60 = .ok (.istore 6, 2) := by decide +kernel
theorem dX1_lay_62 : decode cX1_lay 62 = .ok (.iload 6, 2) := by decide +kernel
theorem dX1_lay_64 : decode cX1_lay 64 = .ok (.iload 4, 2) := by decide +kernel
theorem dX1_lay_66 : decode cX1_lay 66 = .ok (.if_icmp .ge 60, 3) := by decide +kernel
theorem dX1_lay_69 : decode cX1_lay 69 = .ok (.iload 5, 2) := by decide +kernel
theorem dX1_lay_71 : decode cX1_lay 71 = .ok (.iconst (-1), 1) := by decide +kernel
theorem dX1_lay_72 : decode cX1_lay 72 = .ok (.if_icmp .eq 54, 3) := by decide +kernel
theorem dX1_lay_75 : decode cX1_lay 75 = .ok (.aload_n 0, 1) := by decide +kernel
theorem dX1_lay_76 : decode cX1_lay 76 = .ok (.aload_n 1, 1) := by decide +kernel
theorem dX1_lay_77 : decode cX1_lay 77 = .ok (.iload 5, 2) := by decide +kernel
theorem dX1_lay_79 : decode cX1_lay 79 = .ok (.iload_n 3, 1) := by decide +kernel
theorem dX1_lay_80 : decode cX1_lay 80 = .ok (.invokevirtual 136, 3) := by decide +kernel
theorem dX1_lay_83 : decode cX1_lay 83 = .ok (.putfield 124, 3) := by decide +kernel
theorem dX1_lay_86 : decode cX1_lay 86 = .ok (.aload_n 0, 1) := by decide +kernel
theorem dX1_lay_87 : decode cX1_lay 87 = .ok (.getfield 124, 3) := by decide +kernel
theorem dX1_lay_90 : decode cX1_lay 90 = .ok (.bipush (-5), 2) := by decide +kernel
theorem dX1_lay_92 : decode cX1_lay 92 = .ok (.if_icmp .eq 4, 3) := by decide +kernel
theorem dX1_lay_95 : decode cX1_lay 95 = .ok (.return_, 1) := by decide +kernel
theorem dX1_lay_96 : decode cX1_lay 96 = .ok (.aload_n 0, 1) := by decide +kernel
theorem dX1_lay_97 : decode cX1_lay 97 = .ok (.dup, 1) := by decide +kernel
theorem dX1_lay_98 : decode cX1_lay 98 = .ok (.getfield 120, 3) := by decide +kernel
theorem dX1_lay_101 : decode cX1_lay 101 = .ok (.lconst 1, 1) := by decide +kernel
theorem dX1_lay_102 : decode cX1_lay 102 = .ok (.iload 5, 2) := by decide +kernel
theorem dX1_lay_104 : decode cX1_lay 104 = .ok (.lshl, 1) := by decide +kernel
theorem dX1_lay_105 : decode cX1_lay 105 = .ok (.lor, 1) := by decide +kernel
theorem dX1_lay_106 : decode cX1_lay 106 = .ok (.putfield 120, 3) := by decide +kernel
theorem dX1_lay_109 : decode cX1_lay 109 = .ok (.iload 5, 2) := by decide +kernel
theorem dX1_lay_111 : decode cX1_lay 111 = .ok (.aload_n 0, 1) := by decide +kernel
theorem dX1_lay_112 : decode cX1_lay 112 = .ok (.getfield 114, 3) := by decide +kernel
theorem dX1_lay_115 : decode cX1_lay 115 = .ok (.invokestatic 133, 3) := by decide +kernel
theorem dX1_lay_118 : decode cX1_lay 118 = .ok (.istore 5, 2) := by decide +kernel
theorem dX1_lay_120 : decode cX1_lay 120 = .ok (.iinc 6 1, 3) := by decide +kernel
theorem dX1_lay_123 : decode cX1_lay 123 = .ok (.goto (-61), 3) := by decide +kernel
theorem dX1_lay_126 : decode cX1_lay 126 = .ok (.return_, 1) := by decide +kernel
theorem dX2_init_0 : decode cX2_init 0 = .ok (.aload_n 0, 1) := by decide +kernel
theorem dX2_init_1 : decode cX2_init 1 = .ok (.invokespecial 3, 3) := by decide +kernel
theorem dX2_init_4 : decode cX2_init 4 = .ok (.aload_n 0, 1) := by decide +kernel
theorem dX2_init_5 : decode cX2_init 5 = .ok (.bipush 100, 2) := by decide +kernel
theorem dX2_init_7 : decode cX2_init 7 = .ok (.newarray .byte, 2) := by decide +kernel
theorem dX2_init_9 : decode cX2_init 9 = .ok (.putfield 9, 3) := by decide +kernel
theorem dX2_init_12 : decode cX2_init 12 = .ok (.aload_n 0, 1) := by decide +kernel
theorem dX2_init_13 : decode cX2_init 13 = .ok (.bipush 6, 2) := by decide +kernel
theorem dX2_init_15 : decode cX2_init 15 = .ok (.newarray .int, 2) := by decide +kernel
theorem dX2_init_17 : decode cX2_init 17 = .ok (.putfield 15, 3) := by decide +kernel
theorem dX2_init_20 : decode cX2_init 20 = .ok (.aload_n 0, 1) := by decide +kernel
theorem dX2_init_21 : decode cX2_init 21 = .ok (.new 19, 3) := by decide +kernel
theorem dX2_init_24 : decode cX2_init 24 = .ok (.dup, 1) := by decide +kernel
theorem dX2_init_25 : decode cX2_init 25 = .ok (.invokespecial 21, 3) := by decide +kernel
theorem dX2_init_28 : decode cX2_init 28 = .ok (.putfield 22, 3) := by decide +kernel
theorem dX2_init_31 : decode cX2_init 31 = .ok (.aload_n 0, 1) := by decide +kernel
theorem dX2_init_32 : decode cX2_init 32 = .ok (.bipush 6, 2) := by decide +kernel
theorem dX2_init_34 : decode cX2_init 34 = .ok (.anewarray 26, 3) := by decide +kernel
theorem dX2_init_37 : decode cX2_init 37 = .ok (.putfield 28, 3) := by decide +kernel
theorem dX2_init_40 : decode cX2_init 40 = .ok (.iconst 0, 1) := by decide +kernel
theorem dX2_init_41 : decode cX2_init 41 = .ok (.istore_n 1, 1) := by decide +kernel
theorem dX2_init_42 : decode cX2_init 42 = .ok (.iload_n 1, 1) := by decide +kernel
theorem dX2_init_43 : decode cX2_init 43 = .ok (.bipush 6, 2) := by decide +kernel
theorem dX2_init_45 : decode cX2_init 45 = .ok (.if_icmp .ge 22, 3) := by decide +kernel
theorem dX2_init_48 : decode cX2_init 48 = .ok (.aload_n 0, 1) := by decide +kernel
theorem dX2_init_49 : decode cX2_init 49 = .ok (.getfield 28, 3) := by decide +kernel
theorem dX2_init_52 : decode cX2_init 52 = .ok (.iload_n 1, 1) := by decide +kernel
theorem dX2_init_53 : decode cX2_init 53 = .ok (.new 26, 3) := by decide +kernel
theorem dX2_init_56 : decode cX2_init 56 = .ok (.dup, 1) := by decide +kernel
theorem dX2_init_57 : decode cX2_init 57 = .ok (.invokespecial 32, 3) := by decide +kernel
theorem dX2_init_60 : decode cX2_init 60 = .ok (.aastore, 1) := by decide +kernel
theorem dX2_init_61 : decode cX2_init 61 = .ok (.iinc 1 1, 3) := by decide +kernel
theorem dX2_init_64 : decode cX2_init 64 = .ok (.goto (-22), 3) := by decide +kernel
theorem dX2_init_67 : decode cX2_init 67 = .ok (.return_, 1) := by decide +kernel
theorem dX2_copyFrom_0 : decode cX2_copyFrom 0 = .ok (.aload_n 0, 1) := by decide +kernel
theorem dX2_copyFrom_1 : decode cX2_copyFrom 1 = .ok (.aload_n 1, 1) := by decide +kernel
theorem dX2_copyFrom_2 : decode cX2_copyFrom 2 = .ok (.getfield 33, 3) := by decide +kernel
theorem dX2_copyFrom_5 : decode cX2_copyFrom 5 = .ok (.putfield 33, 3) := by decide +kernel
theorem dX2_copyFrom_8 : decode cX2_copyFrom 8 = .ok (.aload_n 0, 1) := by decide +kernel
theorem dX2_copyFrom_9 : decode cX2_copyFrom 9 = .ok (.aload_n 1, 1) := by decide +kernel
theorem dX2_copyFrom_10 : decode cX2_copyFrom 10 = .ok (.getfield 37, 3) := by decide +kernel
theorem dX2_copyFrom_13 : decode cX2_copyFrom 13 = .ok (.putfield 37, 3) := by decide +kernel
theorem dX2_copyFrom_16 : decode cX2_copyFrom 16 = .ok (.aload_n 0, 1) := by decide +kernel
theorem dX2_copyFrom_17 : decode cX2_copyFrom 17 = .ok (.aload_n 1, 1) := by decide +kernel
theorem dX2_copyFrom_18 : decode cX2_copyFrom 18 = .ok (.getfield 41, 3) := by decide +kernel
theorem dX2_copyFrom_21 : decode cX2_copyFrom 21 = .ok (.putfield 41, 3) := by decide +kernel
theorem dX2_copyFrom_24 : decode cX2_copyFrom 24 = .ok (.aload_n 0, 1) := by decide +kernel
theorem dX2_copyFrom_25 : decode cX2_copyFrom 25 = .ok (.aload_n 1, 1) := by decide +kernel
theorem dX2_copyFrom_26 : decode cX2_copyFrom 26 = .ok (.getfield 44, 3) := by decide +kernel
theorem dX2_copyFrom_29 : decode cX2_copyFrom 29 = .ok (.putfield 44, 3) := by decide +kernel
theorem dX2_copyFrom_32 : decode cX2_copyFrom 32 = .ok (.aload_n 0, 1) := by decide +kernel
theorem dX2_copyFrom_33 : decode cX2_copyFrom 33 = .ok (.aload_n 1, 1) := by decide +kernel
theorem dX2_copyFrom_34 : decode cX2_copyFrom 34 = .ok (.getfield 47, 3) := by decide +kernel
theorem dX2_copyFrom_37 : decode cX2_copyFrom 37 = .ok (.putfield 47, 3) := by decide +kernel
theorem dX2_copyFrom_40 : decode cX2_copyFrom 40 = .ok (.aload_n 0, 1) := by decide +kernel
theorem dX2_copyFrom_41 : decode cX2_copyFrom 41 = .ok (.aload_n 1, 1) := by decide +kernel
theorem dX2_copyFrom_42 : decode cX2_copyFrom 42 = .ok (.getfield 50, 3) := by decide +kernel
theorem dX2_copyFrom_45 : decode cX2_copyFrom 45 = .ok (.putfield 50, 3) := by decide +kernel
theorem dX2_copyFrom_48 : decode cX2_copyFrom 48 = .ok (.aload_n 1, 1) := by decide +kernel
theorem dX2_copyFrom_49 : decode cX2_copyFrom 49 = .ok (.getfield 9, 3) := by decide +kernel
theorem dX2_copyFrom_52 : decode cX2_copyFrom 52 = .ok (.iconst 0, 1) := by decide +kernel
theorem dX2_copyFrom_53 : decode cX2_copyFrom 53 = .ok (.aload_n 0, 1) := by decide +kernel
theorem dX2_copyFrom_54 : decode cX2_copyFrom 54 = .ok (.getfield 9, 3) := by decide +kernel
theorem dX2_copyFrom_57 : decode cX2_copyFrom 57 = .ok (.iconst 0, 1) := by decide +kernel
theorem dX2_copyFrom_58 : decode cX2_copyFrom 58 = .ok (.bipush 100, 2) := by decide +kernel
theorem dX2_copyFrom_60 : decode cX2_copyFrom 60 = .ok (.invokestatic 53, 3) := by decide +kernel
theorem dX2_copyFrom_63 : decode cX2_copyFrom 63 = .ok (.aload_n 1, 1) := by decide +kernel
theorem dX2_copyFrom_64 : decode cX2_copyFrom 64 = .ok (.getfield 15, 3) := by decide +kernel
theorem dX2_copyFrom_67 : decode cX2_copyFrom 67 = .ok (.iconst 0, 1) := by decide +kernel
theorem dX2_copyFrom_68 : decode cX2_copyFrom 68 = .ok (.aload_n 0, 1) := by decide +kernel
theorem dX2_copyFrom_69 : decode cX2_copyFrom 69 = .ok (.getfield 15, 3) := by decide +kernel
theorem dX2_copyFrom_72 : decode cX2_copyFrom 72 = .ok (.iconst 0, 1) := by decide +kernel
theorem dX2_copyFrom_73 : decode cX2_copyFrom 73 = .ok (.bipush 6, 2) := by decide +kernel
theorem dX2_copyFrom_75 : decode cX2_copyFrom 75 = .ok (.invokestatic 53, 3) := by decide +kernel
theorem dX2_copyFrom_78 : decode cX2_copyFrom 78 = .ok (.aload_n 0, 1) := by decide +kernel
theorem dX2_copyFrom_79 : decode cX2_copyFrom 79 = .ok (.getfield 22, 3) := by decide +kernel
theorem dX2_copyFrom_82 : decode cX2_copyFrom 82 = .ok (.aload_n 1, 1) := by decide +kernel
theorem dX2_copyFrom_83 : decode cX2_copyFrom 83 = .ok (.getfield 22, 3) := by decide +kernel
theorem dX2_copyFrom_86 : decode cX2_copyFrom 86 = .ok (.invokevirtual 59, 3) := by decide +kernel
theorem dX2_copyFrom_89 : decode cX2_copyFrom 89 = .ok (.iconst 0, 1) := by decide +kernel
theorem dX2_copyFrom_90 : decode cX2_copyFrom 90 = .ok (.istore_n 2, 1) := by decide +kernel
theorem dX2_copyFrom_91 : decode cX2_copyFrom 91 = .ok (.iload_n 2, 1) := by decide +kernel
theorem dX2_copyFrom_92 : decode cX2_copyFrom 92 = .ok (.aload_n 0, 1) := by decide +kernel
theorem dX2_copyFrom_93 : decode cX2_copyFrom 93 = .ok (.getfield 47, 3) := by decide +kernel
theorem dX2_copyFrom_96 : decode cX2_copyFrom 96 = .ok (.if_icmp .ge 24, 3) := by decide +kernel
theorem dX2_copyFrom_99 : decode cX2_copyFrom 99 = .ok (.aload_n 0, 1) := by decide +kernel
theorem dX2_copyFrom_100 : decode cX2_copyFrom 100 = .ok (.getfield 28, 3) := by decide +kernel
theorem dX2_copyFrom_103 : decode cX2_copyFrom 103 = .ok (.iload_n 2, 1) := by decide +kernel
theorem dX2_copyFrom_104 : decode cX2_copyFrom 104 = .ok (.aaload, 1) := by decide +kernel
theorem dX2_copyFrom_105 : decode cX2_copyFrom 105 = .ok (.aload_n 1, 1) := by decide +kernel
theorem dX2_copyFrom_106 : decode cX2_copyFrom 106 = .ok (.getfield 28, 3) := by decide +kernel
theorem dX2_copyFrom_109 : decode cX2_copyFrom 109 = .ok (.iload_n 2, 1) := by decide +kernel
theorem dX2_copyFrom_110 : decode cX2_copyFrom 110 = .ok (.aaload, 1) := by decide +kernel
theorem dX2_copyFrom_111 : decode cX2_copyFrom 111 = .ok (.invokevirtual 63, 3) := by decide +kernel
theorem dX2_copyFrom_114 : decode cX2_copyFrom 114 = .ok (.iinc 2 1, 3) := by decide +kernel
theorem dX2_copyFrom_117 : decode cX2_copyFrom 117 = .ok (.goto (-26), 3) := by decide +kernel
theorem dX2_copyFrom_120 : decode cX2_copyFrom 120 = .ok (.return_, 1) := by decide +kernel
theorem dX2_find_0 : decode cX2_find 0 = .ok (.iload_n 1, 1) := by decide +kernel
theorem dX2_find_1 : decode cX2_find 1 = .ok (.aload_n 0, 1) := by decide +kernel
theorem dX2_find_2 : decode cX2_find 2 = .ok (.getfield 47, 3) := by decide +kernel
theorem dX2_find_5 : decode cX2_find 5 = .ok (.iconst 1, 1) := by decide +kernel
theorem dX2_find_6 : decode cX2_find 6 = .ok (.isub, 1) := by decide +kernel
theorem dX2_find_7 : decode cX2_find 7 = .ok (.invokestatic 66, 3) := by decide +kernel
theorem dX2_find_10 : decode cX2_find 10 = .ok (.ifCond .eq 7, 3) := by decide +kernel
theorem dX2_find_13 : decode cX2_find 13 = .ok (.aconst_null, 1) := by decide +kernel
theorem dX2_find_14 : decode cX2_find 14 = .ok (.goto 9, 3) := by decide +kernel
theorem dX2_find_17 : decode cX2_find 17 = .ok (.aload_n 0, 1) := by decide +kernel
theorem dX2_find_18 : decode cX2_find 18 = .ok (.getfield 28, 3) := by decide +kernel
theorem dX2_find_21 : decode cX2_find 21 = .ok (.iload_n 1, 1) := by decide +kernel
theorem dX2_find_22 : decode cX2_find 22 = .ok (.aaload, 1) := by decide +kernel
theorem dX2_find_23 : decode cX2_find 23 = .ok (.areturn, 1) := by decide +kernel
theorem dX2_isTaken_0 : decode cX2_isTaken 0 = .ok (.iconst 0, 1) := by decide +kernel
theorem dX2_isTaken_1 : decode cX2_isTaken 1 = .ok (.istore_n 2, 1) := by decide +kernel
theorem dX2_isTaken_2 : decode cX2_isTaken 2 = .ok (.iload_n 2, 1) := by decide +kernel
theorem dX2_isTaken_3 : decode cX2_isTaken 3 = .ok (.aload_n 0, 1) := by decide +kernel
theorem dX2_isTaken_4 : decode cX2_isTaken 4 = .ok (.getfield 47, 3) := by decide +kernel
theorem dX2_isTaken_7 : decode cX2_isTaken 7 = .ok (.if_icmp .ge 24, 3) := by decide +kernel
theorem dX2_isTaken_10 : decode cX2_isTaken 10 = .ok (.aload_n 0, 1) := by decide +kernel
theorem dX2_isTaken_11 : decode cX2_isTaken 11 = .ok (.getfield 28, 3) := by decide +kernel
theorem dX2_isTaken_14 : decode cX2_isTaken 14 = .ok (.iload_n 2, 1) := by decide +kernel
theorem dX2_isTaken_15 : decode cX2_isTaken 15 = .ok (.aaload, 1) := by decide +kernel
theorem dX2_isTaken_16 : decode cX2_isTaken 16 = .ok (.getfield 70, 3) := by decide +kernel
theorem dX2_isTaken_19 : decode cX2_isTaken 19 = .ok (.iload_n 1, 1) := by decide +kernel
theorem dX2_isTaken_20 : decode cX2_isTaken 20 = .ok (.if_icmp .ne 5, 3) := by decide +kernel
theorem dX2_isTaken_23 : decode cX2_isTaken 23 = .ok (.iconst 1, 1) := by decide +kernel
theorem dX2_isTaken_24 : decode cX2_isTaken 24 = .ok (.ireturn, 1) := by decide +kernel
theorem dX2_isTaken_25 : decode cX2_isTaken 25 = .ok (.iinc 2 1, 3) := by decide +kernel
theorem dX2_isTaken_28 : decode cX2_isTaken 28 = .ok (.goto (-26), 3) := by decide +kernel
theorem dX2_isTaken_31 : decode cX2_isTaken 31 = .ok (.iconst 0, 1) := by decide +kernel
theorem dX2_isTaken_32 : decode cX2_isTaken 32 = .ok (.ireturn, 1) := by decide +kernel
theorem dX2_standingTrees_0 : decode cX2_standingTrees 0 = .ok (.iconst 0, 1) := by decide +kernel
theorem dX2_standingTrees_1 : decode cX2_standingTrees 1 = .ok (.istore_n 1, 1) := by decide +kernel
theorem dX2_standingTrees_2 : decode cX2_standingTrees 2 = .ok (.iconst 0, 1) := by decide +kernel
theorem dX2_standingTrees_3 : decode cX2_standingTrees 3 = .ok (.istore_n 2, 1) := by decide +kernel
theorem dX2_standingTrees_4 : decode cX2_standingTrees 4 = .ok (.iload_n 2, 1) := by decide +kernel
theorem dX2_standingTrees_5 : decode cX2_standingTrees 5 = .ok (.aload_n 0, 1) := by decide +kernel
theorem dX2_standingTrees_6 : decode cX2_standingTrees 6 = .ok (.getfield 47, 3) := by decide +kernel
theorem dX2_standingTrees_9 : decode cX2_standingTrees 9 = .ok (.if_icmp .ge 32, 3) := by decide +kernel
theorem dX2_standingTrees_12 : decode cX2_standingTrees 12 = .ok (.iload_n 1, 1) := by decide +kernel
theorem dX2_standingTrees_13 : decode cX2_standingTrees 13 = .ok (.aload_n 0, 1) := by decide +kernel
theorem dX2_standingTrees_14 : decode cX2_standingTrees 14 = .ok (.getfield 28, 3) := by decide +kernel
theorem dX2_standingTrees_17 : decode cX2_standingTrees 17 = .ok (.iload_n 2, 1) := by decide +kernel
theorem dX2_standingTrees_18 : decode cX2_standingTrees 18 = .ok (.aaload, 1) := by decide +kernel
theorem dX2_standingTrees_19 : decode cX2_standingTrees 19 = .ok (.getfield 73, 3) := by decide +kernel
theorem dX2_standingTrees_22 : decode cX2_standingTrees 22 = .ok (.ifCond .eq 10, 3) := by decide +kernel
theorem dX2_standingTrees_25 : decode cX2_standingTrees 25 = .ok (.iload_n 2, 1) := by decide +kernel
theorem dX2_standingTrees_26 : decode cX2_standingTrees 26 = .ok (.invokestatic 77, 3) := by decide +kernel
theorem dX2_standingTrees_29 : decode cX2_standingTrees 29 = .ok (.goto 4, 3) := by decide +kernel
theorem dX2_standingTrees_32 : decode cX2_standingTrees 32 = .ok (.iconst 0, 1) := by decide +kernel
theorem dX2_standingTrees_33 : decode cX2_standingTrees 33 = .ok (.ior, 1) := by decide +kernel
theorem dX2_standingTrees_34 : decode cX2_standingTrees 34 = .ok (.istore_n 1, 1) := by decide +kernel
theorem dX2_standingTrees_35 : decode cX2_standingTrees 35 = .ok (.iinc 2 1, 3) := by decide +kernel
theorem dX2_standingTrees_38 : decode cX2_standingTrees 38 = .ok (.goto (-34), 3) := by decide +kernel
theorem dX2_standingTrees_41 : decode cX2_standingTrees 41 = .ok (.iload_n 1, 1) := by decide +kernel
theorem dX2_standingTrees_42 : decode cX2_standingTrees 42 = .ok (.ireturn, 1) := by decide +kernel
theorem dX2_standingPlaces_0 : decode cX2_standingPlaces 0 = .ok (.lconst 0, 1) := by decide +kernel
theorem dX2_standingPlaces_1 : decode cX2_standingPlaces 1 = .ok (.lstore_n 1, 1) := by decide +kernel
theorem dX2_standingPlaces_2 : decode cX2_standingPlaces 2 = .ok (.iconst 0, 1) := by decide +kernel
theorem dX2_standingPlaces_3 : decode cX2_standingPlaces 3 = .ok (.istore_n 3, 1) := by decide +kernel
theorem dX2_standingPlaces_4 : decode cX2_standingPlaces 4 = .ok (.iload_n 3, 1) := by decide +kernel
theorem dX2_standingPlaces_5 : decode cX2_standingPlaces 5 = .ok (.aload_n 0, 1) := by decide +kernel
theorem dX2_standingPlaces_6 : decode cX2_standingPlaces 6 = .ok (.getfield 47, 3) := by decide +kernel
theorem dX2_standingPlaces_9 : decode cX2_standingPlaces 9 = .ok (.if_icmp .ge 39, 3) := by decide +kernel
theorem dX2_standingPlaces_12 : decode cX2_standingPlaces 12 = .ok (.lload_n 1, 1) := by decide +kernel
theorem dX2_standingPlaces_13 : decode cX2_standingPlaces 13 = .ok (.aload_n 0, 1) := by decide +kernel
theorem dX2_standingPlaces_14 : decode cX2_standingPlaces 14 = .ok (.getfield 28, 3) := by decide +kernel
theorem dX2_standingPlaces_17 : decode cX2_standingPlaces 17 = .ok (.iload_n 3, 1) := by decide +kernel
theorem dX2_standingPlaces_18 : decode cX2_standingPlaces 18 = .ok (.aaload, 1) := by decide +kernel
theorem dX2_standingPlaces_19 : decode cX2_standingPlaces 19 = .ok (.getfield 73, 3) := by decide +kernel
theorem dX2_standingPlaces_22 : decode cX2_standingPlaces 22 = .ok (.ifCond .eq 17, 3) := by decide +kernel
theorem dX2_standingPlaces_25 : decode cX2_standingPlaces 25 = .ok (.lconst 1, 1) := by decide +kernel
theorem dX2_standingPlaces_26 : decode cX2_standingPlaces 26 = .ok (.aload_n 0, 1) := by decide +kernel
theorem dX2_standingPlaces_27 : decode cX2_standingPlaces 27 = .ok (.getfield 28, 3) := by decide +kernel
theorem dX2_standingPlaces_30 : decode cX2_standingPlaces 30 = .ok (.iload_n 3, 1) := by decide +kernel
theorem dX2_standingPlaces_31 : decode cX2_standingPlaces 31 = .ok (.aaload, 1) := by decide +kernel
theorem dX2_standingPlaces_32 : decode cX2_standingPlaces 32 = .ok (.getfield 70, 3) := by decide +kernel
theorem dX2_standingPlaces_35 : decode cX2_standingPlaces 35 = .ok (.lshl, 1) := by decide +kernel
theorem dX2_standingPlaces_36 : decode cX2_standingPlaces 36 = .ok (.goto 4, 3) := by decide +kernel
theorem dX2_standingPlaces_39 : decode cX2_standingPlaces 39 = .ok (.lconst 0, 1) := by decide +kernel
theorem dX2_standingPlaces_40 : decode cX2_standingPlaces 40 = .ok (.lor, 1) := by decide +kernel
theorem dX2_standingPlaces_41 : decode cX2_standingPlaces 41 = .ok (.lstore_n 1, 1) := by decide +kernel
theorem dX2_standingPlaces_42 : decode cX2_standingPlaces 42 = .ok (.iinc 3 1, 3) := by decide +kernel
theorem dX2_standingPlaces_45 : decode cX2_standingPlaces 45 = .ok (.goto (-41), 3) := by decide +kernel
theorem dX2_standingPlaces_48 : decode cX2_standingPlaces 48 = .ok (.lload_n 1, 1) := by decide +kernel
theorem dX2_standingPlaces_49 : decode cX2_standingPlaces 49 = .ok (.lreturn, 1) := by decide +kernel
theorem dX2_whichOn_0 : decode cX2_whichOn 0 = .ok (.iconst 0, 1) := by decide +kernel
theorem dX2_whichOn_1 : decode cX2_whichOn 1 = .ok (.istore_n 3, 1) := by decide +kernel
theorem dX2_whichOn_2 : decode cX2_whichOn 2 = .ok (.iload_n 3, 1) := by decide +kernel
theorem dX2_whichOn_3 : decode cX2_whichOn 3 = .ok (.aload_n 0, 1) := by decide +kernel
theorem dX2_whichOn_4 : decode cX2_whichOn 4 = .ok (.getfield 47, 3) := by decide +kernel
theorem dX2_whichOn_7 : decode cX2_whichOn 7 = .ok (.if_icmp .ge 33, 3) := by decide +kernel
theorem dX2_whichOn_10 : decode cX2_whichOn 10 = .ok (.iload_n 2, 1) := by decide +kernel
theorem dX2_whichOn_11 : decode cX2_whichOn 11 = .ok (.iload_n 3, 1) := by decide +kernel
theorem dX2_whichOn_12 : decode cX2_whichOn 12 = .ok (.invokestatic 77, 3) := by decide +kernel
theorem dX2_whichOn_15 : decode cX2_whichOn 15 = .ok (.iand, 1) := by decide +kernel
theorem dX2_whichOn_16 : decode cX2_whichOn 16 = .ok (.ifCond .eq 18, 3) := by decide +kernel
theorem dX2_whichOn_19 : decode cX2_whichOn 19 = .ok (.aload_n 0, 1) := by decide +kernel
theorem dX2_whichOn_20 : decode cX2_whichOn 20 = .ok (.getfield 28, 3) := by decide +kernel
theorem dX2_whichOn_23 : decode cX2_whichOn 23 = .ok (.iload_n 3, 1) := by decide +kernel
theorem dX2_whichOn_24 : decode cX2_whichOn 24 = .ok (.aaload, 1) := by decide +kernel
theorem dX2_whichOn_25 : decode cX2_whichOn 25 = .ok (.getfield 70, 3) := by decide +kernel
theorem dX2_whichOn_28 : decode cX2_whichOn 28 = .ok (.iload_n 1, 1) := by decide +kernel
theorem dX2_whichOn_29 : decode cX2_whichOn 29 = .ok (.if_icmp .ne 5, 3) := by decide +kernel
theorem dX2_whichOn_32 : decode cX2_whichOn 32 = .ok (.iload_n 3, 1) := by decide +kernel
theorem dX2_whichOn_33 : decode cX2_whichOn 33 = .ok (.ireturn, 1) := by decide +kernel
theorem dX2_whichOn_34 : decode cX2_whichOn 34 = .ok (.iinc 3 1, 3) := by decide +kernel
theorem dX2_whichOn_37 : decode cX2_whichOn 37 = .ok (.goto (-35), 3) := by decide +kernel
theorem dX2_whichOn_40 : decode cX2_whichOn 40 = .ok (.bipush (-5), 2) := by decide +kernel
theorem dX2_whichOn_42 : decode cX2_whichOn 42 = .ok (.ireturn, 1) := by decide +kernel
theorem dX2_weightOf_0 : decode cX2_weightOf 0 = .ok (.iload_n 1, 1) := by decide +kernel
theorem dX2_weightOf_1 : decode cX2_weightOf 1 = .ok (.iconst (-1), 1) := by decide +kernel
theorem dX2_weightOf_2 : decode cX2_weightOf 2 = .ok (.if_icmp .ne 16, 3) := by decide +kernel
theorem dX2_weightOf_5 : decode cX2_weightOf 5 = .ok (.bipush 8, 2) := by decide +kernel
theorem dX2_weightOf_7 : decode cX2_weightOf 7 = .ok (.bipush 10, 2) := by decide +kernel
theorem dX2_weightOf_9 : decode cX2_weightOf 9 = .ok (.aload_n 0, 1) := by decide +kernel
theorem dX2_weightOf_10 : decode cX2_weightOf 10 = .ok (.getfield 37, 3) := by decide +kernel
theorem dX2_weightOf_13 : decode cX2_weightOf 13 = .ok (.isub, 1) := by decide +kernel
theorem dX2_weightOf_14 : decode cX2_weightOf 14 = .ok (.imul, 1) := by decide +kernel
theorem dX2_weightOf_15 : decode cX2_weightOf 15 = .ok (.goto 7, 3) := by decide +kernel
theorem dX2_weightOf_18 : decode cX2_weightOf 18 = .ok (.aload_n 0, 1) := by decide +kernel
theorem dX2_weightOf_19 : decode cX2_weightOf 19 = .ok (.getfield 37, 3) := by decide +kernel
theorem dX2_weightOf_22 : decode cX2_weightOf 22 = .ok (.ireturn, 1) := by decide +kernel
theorem dX3_init_0 : decode cX3_init 0 = .ok (.aload_n 0, 1) := by decide +kernel
theorem dX3_init_1 : decode cX3_init 1 = .ok (.invokespecial 3, 3) := by decide +kernel
theorem dX3_init_4 : decode cX3_init 4 = .ok (.aload_n 0, 1) := by decide +kernel
theorem dX3_init_5 : decode cX3_init 5 = .ok (.new 9, 3) := by decide +kernel
theorem dX3_init_8 : decode cX3_init 8 = .ok (.dup, 1) := by decide +kernel
theorem dX3_init_9 : decode cX3_init 9 = .ok (.invokespecial 11, 3) := by decide +kernel
theorem dX3_init_12 : decode cX3_init 12 = .ok (.putfield 12, 3) := by decide +kernel
theorem dX3_init_15 : decode cX3_init 15 = .ok (.aload_n 0, 1) := by decide +kernel
theorem dX3_init_16 : decode cX3_init 16 = .ok (.bipush 100, 2) := by decide +kernel
theorem dX3_init_18 : decode cX3_init 18 = .ok (.newarray .byte, 2) := by decide +kernel
theorem dX3_init_20 : decode cX3_init 20 = .ok (.putfield 18, 3) := by decide +kernel
theorem dX3_init_23 : decode cX3_init 23 = .ok (.return_, 1) := by decide +kernel
theorem dX3_reads_0 : decode cX3_reads 0 = .ok (.aload_n 1, 1) := by decide +kernel
theorem dX3_reads_1 : decode cX3_reads 1 = .ok (.iconst 0, 1) := by decide +kernel
theorem dX3_reads_2 : decode cX3_reads 2 = .ok (.aload_n 0, 1) := by decide +kernel
theorem dX3_reads_3 : decode cX3_reads 3 = .ok (.getfield 18, 3) := by decide +kernel
theorem dX3_reads_6 : decode cX3_reads 6 = .ok (.iconst 0, 1) := by decide +kernel
theorem dX3_reads_7 : decode cX3_reads 7 = .ok (.bipush 100, 2) := by decide +kernel
theorem dX3_reads_9 : decode cX3_reads 9 = .ok (.invokestatic 22, 3) := by decide +kernel
theorem dX3_reads_12 : decode cX3_reads 12 = .ok (.aload_n 0, 1) := by decide +kernel
theorem dX3_reads_13 : decode cX3_reads 13 = .ok (.iload_n 2, 1) := by decide +kernel
theorem dX3_reads_14 : decode cX3_reads 14 = .ok (.putfield 28, 3) := by decide +kernel
theorem dX3_reads_17 : decode cX3_reads 17 = .ok (.aload_n 0, 1) := by decide +kernel
theorem dX3_reads_18 : decode cX3_reads 18 = .ok (.iconst 0, 1) := by decide +kernel
theorem dX3_reads_19 : decode cX3_reads 19 = .ok (.putfield 32, 3) := by decide +kernel
theorem dX3_reads_22 : decode cX3_reads 22 = .ok (.aload_n 0, 1) := by decide +kernel
theorem dX3_reads_23 : decode cX3_reads 23 = .ok (.getfield 12, 3) := by decide +kernel
theorem dX3_reads_26 : decode cX3_reads 26 = .ok (.invokevirtual 35, 3) := by decide +kernel
theorem dX3_reads_29 : decode cX3_reads 29 = .ok (.iconst 0, 1) := by decide +kernel
theorem dX3_reads_30 : decode cX3_reads 30 = .ok (.istore_n 3, 1) := by decide +kernel
theorem dX3_reads_31 : decode cX3_reads 31 = .ok (.iload_n 3, 1) := by decide +kernel
theorem dX3_reads_32 : decode cX3_reads 32 = .ok (.bipush 10, 2) := by decide +kernel
theorem dX3_reads_34 : decode cX3_reads 34 = .ok (.if_icmp .ge 46, 3) := by decide +kernel
theorem dX3_reads_37 : decode cX3_reads 37 = .ok (.iload_n 3, 1) := by decide +kernel
theorem dX3_reads_38 : decode cX3_reads 38 = .ok (.ifCond .le 14, 3) := by decide +kernel
theorem dX3_reads_41 : decode cX3_reads 41 = .ok (.aload_n 0, 1) := by decide +kernel
theorem dX3_reads_42 : decode cX3_reads 42 = .ok (.bipush 59, 2) := by decide +kernel
theorem dX3_reads_44 : decode cX3_reads 44 = .ok (.invokevirtual 38, 3) := by decide +kernel
theorem dX3_reads_47 : decode cX3_reads 47 = .ok (.ifCond .ne 5, 3) := by decide +kernel
theorem dX3_reads_50 : decode cX3_reads 50 = .ok (.iconst 0, 1) := by decide +kernel
theorem dX3_reads_51 : decode cX3_reads 51 = .ok (.ireturn, 1) := by decide +kernel
theorem dX3_reads_52 : decode cX3_reads 52 = .ok (.aload_n 0, 1) := by decide +kernel
theorem dX3_reads_53 : decode cX3_reads 53 = .ok (.invokevirtual 42, 3) := by decide +kernel
theorem dX3_reads_56 : decode cX3_reads 56 = .ok (.ifCond .ne 5, 3) := by decide +kernel
theorem dX3_reads_59 : decode cX3_reads 59 = .ok (.iconst 0, 1) := by decide +kernel
theorem dX3_reads_60 : decode cX3_reads 60 = .ok (.ireturn, 1) := by decide +kernel
theorem dX3_reads_61 : decode cX3_reads 61 = .ok (.aload_n 0, 1) := by decide +kernel
theorem dX3_reads_62 : decode cX3_reads 62 = .ok (.getfield 32, 3) := by decide +kernel
theorem dX3_reads_65 : decode cX3_reads 65 = .ok (.aload_n 0, 1) := by decide +kernel
theorem dX3_reads_66 : decode cX3_reads 66 = .ok (.getfield 28, 3) := by decide +kernel
theorem dX3_reads_69 : decode cX3_reads 69 = .ok (.if_icmp .ne 5, 3) := by decide +kernel
theorem dX3_reads_72 : decode cX3_reads 72 = .ok (.iconst 1, 1) := by decide +kernel
theorem dX3_reads_73 : decode cX3_reads 73 = .ok (.ireturn, 1) := by decide +kernel
theorem dX3_reads_74 : decode cX3_reads 74 = .ok (.iinc 3 1, 3) := by decide +kernel
theorem dX3_reads_77 : decode cX3_reads 77 = .ok (.goto (-46), 3) := by decide +kernel
theorem dX3_reads_80 : decode cX3_reads 80 = .ok (.iconst 0, 1) := by decide +kernel
theorem dX3_reads_81 : decode cX3_reads 81 = .ok (.ireturn, 1) := by decide +kernel
theorem dX3_next_0 : decode cX3_next 0 = .ok (.aload_n 0, 1) := by decide +kernel
theorem dX3_next_1 : decode cX3_next 1 = .ok (.getfield 32, 3) := by decide +kernel
theorem dX3_next_4 : decode cX3_next 4 = .ok (.aload_n 0, 1) := by decide +kernel
theorem dX3_next_5 : decode cX3_next 5 = .ok (.getfield 28, 3) := by decide +kernel
theorem dX3_next_8 : decode cX3_next 8 = .ok (.if_icmp .ge 24, 3) := by decide +kernel
theorem dX3_next_11 : decode cX3_next 11 = .ok (.aload_n 0, 1) := by decide +kernel
theorem dX3_next_12 : decode cX3_next 12 = .ok (.getfield 32, 3) := by decide +kernel
theorem dX3_next_15 : decode cX3_next 15 = .ok (.bipush 100, 2) := by decide +kernel
theorem dX3_next_17 : decode cX3_next 17 = .ok (.if_icmp .ge 15, 3) := by decide +kernel
theorem dX3_next_20 : decode cX3_next 20 = .ok (.aload_n 0, 1) := by decide +kernel
theorem dX3_next_21 : decode cX3_next 21 = .ok (.getfield 18, 3) := by decide +kernel
theorem dX3_next_24 : decode cX3_next 24 = .ok (.aload_n 0, 1) := by decide +kernel
theorem dX3_next_25 : decode cX3_next 25 = .ok (.getfield 32, 3) := by decide +kernel
theorem dX3_next_28 : decode cX3_next 28 = .ok (.baload, 1) := by decide +kernel
theorem dX3_next_29 : decode cX3_next 29 = .ok (.goto 4, 3) := by decide +kernel
theorem dX3_next_32 : decode cX3_next 32 = .ok (.iconst (-1), 1) := by decide +kernel
theorem dX3_next_33 : decode cX3_next 33 = .ok (.ireturn, 1) := by decide +kernel
theorem dX3_takes_0 : decode cX3_takes 0 = .ok (.aload_n 0, 1) := by decide +kernel
theorem dX3_takes_1 : decode cX3_takes 1 = .ok (.invokevirtual 46, 3) := by decide +kernel
theorem dX3_takes_4 : decode cX3_takes 4 = .ok (.iload_n 1, 1) := by decide +kernel
theorem dX3_takes_5 : decode cX3_takes 5 = .ok (.if_icmp .eq 5, 3) := by decide +kernel
theorem dX3_takes_8 : decode cX3_takes 8 = .ok (.iconst 0, 1) := by decide +kernel
theorem dX3_takes_9 : decode cX3_takes 9 = .ok (.ireturn, 1) := by decide +kernel
theorem dX3_takes_10 : decode cX3_takes 10 = .ok (.aload_n 0, 1) := by decide +kernel
theorem dX3_takes_11 : decode cX3_takes 11 = .ok (.dup, 1) := by decide +kernel
theorem dX3_takes_12 : decode cX3_takes 12 = .ok (.getfield 32, 3) := by decide +kernel
theorem dX3_takes_15 : decode cX3_takes 15 = .ok (.iconst 1, 1) := by decide +kernel
theorem dX3_takes_16 : decode cX3_takes 16 = .ok (.iadd, 1) := by decide +kernel
theorem dX3_takes_17 : decode cX3_takes 17 = .ok (.putfield 32, 3) := by decide +kernel
theorem dX3_takes_20 : decode cX3_takes 20 = .ok (.iconst 1, 1) := by decide +kernel
theorem dX3_takes_21 : decode cX3_takes 21 = .ok (.ireturn, 1) := by decide +kernel
theorem dX3_takesAll_0 : decode cX3_takesAll 0 = .ok (.iconst 0, 1) := by decide +kernel
theorem dX3_takesAll_1 : decode cX3_takesAll 1 = .ok (.istore_n 2, 1) := by decide +kernel
theorem dX3_takesAll_2 : decode cX3_takesAll 2 = .ok (.iload_n 2, 1) := by decide +kernel
theorem dX3_takesAll_3 : decode cX3_takesAll 3 = .ok (.aload_n 1, 1) := by decide +kernel
theorem dX3_takesAll_4 : decode cX3_takesAll 4 = .ok (.invokevirtual 50, 3) := by decide +kernel
theorem dX3_takesAll_7 : decode cX3_takesAll 7 = .ok (.if_icmp .ge 23, 3) := by decide +kernel
theorem dX3_takesAll_10 : decode cX3_takesAll 10 = .ok (.aload_n 0, 1) := by decide +kernel
theorem dX3_takesAll_11 : decode cX3_takesAll 11 = .ok (.aload_n 1, 1) := by decide +kernel
theorem dX3_takesAll_12 : decode cX3_takesAll 12 = .ok (.iload_n 2, 1) := by decide +kernel
theorem dX3_takesAll_13 : decode cX3_takesAll 13 = .ok (.invokevirtual 55, 3) := by decide +kernel
theorem dX3_takesAll_16 : decode cX3_takesAll 16 = .ok (.invokevirtual 38, 3) := by decide +kernel
theorem dX3_takesAll_19 : decode cX3_takesAll 19 = .ok (.ifCond .ne 5, 3) := by decide +kernel
theorem dX3_takesAll_22 : decode cX3_takesAll 22 = .ok (.iconst 0, 1) := by decide +kernel
theorem dX3_takesAll_23 : decode cX3_takesAll 23 = .ok (.ireturn, 1) := by decide +kernel
theorem dX3_takesAll_24 : decode cX3_takesAll 24 = .ok (.iinc 2 1, 3) := by decide +kernel
theorem dX3_takesAll_27 : decode cX3_takesAll 27 = .ok (.goto (-25), 3) := by decide +kernel
theorem dX3_takesAll_30 : decode cX3_takesAll 30 = .ok (.iconst 1, 1) := by decide +kernel
theorem dX3_takesAll_31 : decode cX3_takesAll 31 = .ok (.ireturn, 1) := by decide +kernel
theorem dX3_takesOne_0 : decode cX3_takesOne 0 = .ok (.aload_n 0, 1) := by decide +kernel
theorem dX3_takesOne_1 : decode cX3_takesOne 1 = .ok (.invokevirtual 46, 3) := by decide +kernel
theorem dX3_takesOne_4 : decode cX3_takesOne 4 = .ok (.istore_n 2, 1) := by decide +kernel
theorem dX3_takesOne_5 : decode cX3_takesOne 5 = .ok (.iload_n 2, 1) := by decide +kernel
theorem dX3_takesOne_6 : decode cX3_takesOne 6 = .ok (.iconst (-1), 1) := by decide +kernel
theorem dX3_takesOne_7 : decode cX3_takesOne 7 = .ok (.if_icmp .ne 7, 3) := by decide +kernel
theorem dX3_takesOne_10 : decode cX3_takesOne 10 = .ok (.iconst (-1), 1) := by decide +kernel
theorem dX3_takesOne_11 : decode cX3_takesOne 11 = .ok (.goto 9, 3) := by decide +kernel
theorem dX3_takesOne_14 : decode cX3_takesOne 14 = .ok (.aload_n 1, 1) := by decide +kernel
theorem dX3_takesOne_15 : decode cX3_takesOne 15 = .ok (.iload_n 2, 1) := by decide +kernel
theorem dX3_takesOne_16 : decode cX3_takesOne 16 = .ok (.i2c, 1) := by decide +kernel
theorem dX3_takesOne_17 : decode cX3_takesOne 17 = .ok (.invokevirtual 59, 3) := by decide +kernel
theorem dX3_takesOne_20 : decode cX3_takesOne 20 = .ok (.istore_n 3, 1) := by decide +kernel
theorem dX3_takesOne_21 : decode cX3_takesOne 21 = .ok (.aload_n 0, 1) := by decide +kernel
theorem dX3_takesOne_22 : decode cX3_takesOne 22 = .ok (.dup, 1) := by decide +kernel
theorem dX3_takesOne_23 : decode cX3_takesOne 23 = .ok (.getfield 32, 3) := by decide +kernel
theorem dX3_takesOne_26 : decode cX3_takesOne 26 = .ok (.iload_n 3, 1) := by decide +kernel
theorem dX3_takesOne_27 : decode cX3_takesOne 27 = .ok (.iconst (-1), 1) := by decide +kernel
theorem dX3_takesOne_28 : decode cX3_takesOne 28 = .ok (.if_icmp .ne 7, 3) := by decide +kernel
theorem dX3_takesOne_31 : decode cX3_takesOne 31 = .ok (.iconst 0, 1) := by decide +kernel
theorem dX3_takesOne_32 : decode cX3_takesOne 32 = .ok (.goto 4, 3) := by decide +kernel
theorem dX3_takesOne_35 : decode cX3_takesOne 35 = .ok (.iconst 1, 1) := by decide +kernel
theorem dX3_takesOne_36 : decode cX3_takesOne 36 = .ok (.iadd, 1) := by decide +kernel
theorem dX3_takesOne_37 : decode cX3_takesOne 37 = .ok (.putfield 32, 3) := by decide +kernel
theorem dX3_takesOne_40 : decode cX3_takesOne 40 = .ok (.iload_n 3, 1) := by decide +kernel
theorem dX3_takesOne_41 : decode cX3_takesOne 41 = .ok (.ireturn, 1) := by decide +kernel
theorem dX3_clause_0 : decode cX3_clause 0 = .ok (.aload_n 0, 1) := by decide +kernel
theorem dX3_clause_1 : decode cX3_clause 1 = .ok (.invokevirtual 63, 3) := by decide +kernel
theorem dX3_clause_4 : decode cX3_clause 4 = .ok (.istore_n 1, 1) := by decide +kernel
theorem dX3_clause_5 : decode cX3_clause 5 = .ok (.iload_n 1, 1) := by decide +kernel
theorem dX3_clause_6 : decode cX3_clause 6 = .ok (.iconst (-1), 1) := by decide +kernel
theorem dX3_clause_7 : decode cX3_clause 7 = .ok (.if_icmp .eq 12, 3) := by decide +kernel
theorem dX3_clause_10 : decode cX3_clause 10 = .ok (.aload_n 0, 1) := by decide +kernel
theorem dX3_clause_11 : decode cX3_clause 11 = .ok (.bipush 32, 2) := by decide +kernel
theorem dX3_clause_13 : decode cX3_clause 13 = .ok (.invokevirtual 38, 3) := by decide +kernel
theorem dX3_clause_16 : decode cX3_clause 16 = .ok (.ifCond .ne 5, 3) := by decide +kernel
theorem dX3_clause_19 : decode cX3_clause 19 = .ok (.iconst 0, 1) := by decide +kernel
theorem dX3_clause_20 : decode cX3_clause 20 = .ok (.ireturn, 1) := by decide +kernel
theorem dX3_clause_21 : decode cX3_clause 21 = .ok (.aload_n 0, 1) := by decide +kernel
theorem dX3_clause_22 : decode cX3_clause 22 = .ok (.invokevirtual 66, 3) := by decide +kernel
theorem dX3_clause_25 : decode cX3_clause 25 = .ok (.istore_n 2, 1) := by decide +kernel
theorem dX3_clause_26 : decode cX3_clause 26 = .ok (.iload_n 2, 1) := by decide +kernel
theorem dX3_clause_27 : decode cX3_clause 27 = .ok (.iconst (-1), 1) := by decide +kernel
theorem dX3_clause_28 : decode cX3_clause 28 = .ok (.if_icmp .ne 5, 3) := by decide +kernel
theorem dX3_clause_31 : decode cX3_clause 31 = .ok (.iconst 0, 1) := by decide +kernel
theorem dX3_clause_32 : decode cX3_clause 32 = .ok (.ireturn, 1) := by decide +kernel
theorem dX3_clause_33 : decode cX3_clause 33 = .ok (.iload_n 1, 1) := by decide +kernel
theorem dX3_clause_34 : decode cX3_clause 34 = .ok (.iconst 3, 1) := by decide +kernel
theorem dX3_clause_35 : decode cX3_clause 35 = .ok (.if_icmp .ne 13, 3) := by decide +kernel
theorem dX3_clause_38 : decode cX3_clause 38 = .ok (.aload_n 0, 1) := by decide +kernel
theorem dX3_clause_39 : decode cX3_clause 39 = .ok (.getfield 12, 3) := by decide +kernel
theorem dX3_clause_42 : decode cX3_clause 42 = .ok (.iload_n 2, 1) := by decide +kernel
theorem dX3_clause_43 : decode cX3_clause 43 = .ok (.putfield 69, 3) := by decide +kernel
theorem dX3_clause_46 : decode cX3_clause 46 = .ok (.iconst 1, 1) := by decide +kernel
theorem dX3_clause_47 : decode cX3_clause 47 = .ok (.ireturn, 1) := by decide +kernel
theorem dX3_clause_48 : decode cX3_clause 48 = .ok (.iload_n 1, 1) := by decide +kernel
theorem dX3_clause_49 : decode cX3_clause 49 = .ok (.iconst 4, 1) := by decide +kernel
theorem dX3_clause_50 : decode cX3_clause 50 = .ok (.if_icmp .ne 13, 3) := by decide +kernel
theorem dX3_clause_53 : decode cX3_clause 53 = .ok (.aload_n 0, 1) := by decide +kernel
theorem dX3_clause_54 : decode cX3_clause 54 = .ok (.getfield 12, 3) := by decide +kernel
theorem dX3_clause_57 : decode cX3_clause 57 = .ok (.iload_n 2, 1) := by decide +kernel
theorem dX3_clause_58 : decode cX3_clause 58 = .ok (.putfield 72, 3) := by decide +kernel
theorem dX3_clause_61 : decode cX3_clause 61 = .ok (.iconst 1, 1) := by decide +kernel
theorem dX3_clause_62 : decode cX3_clause 62 = .ok (.ireturn, 1) := by decide +kernel
theorem dX3_clause_63 : decode cX3_clause 63 = .ok (.aload_n 0, 1) := by decide +kernel
theorem dX3_clause_64 : decode cX3_clause 64 = .ok (.bipush 32, 2) := by decide +kernel
theorem dX3_clause_66 : decode cX3_clause 66 = .ok (.invokevirtual 38, 3) := by decide +kernel
theorem dX3_clause_69 : decode cX3_clause 69 = .ok (.ifCond .eq 11, 3) := by decide +kernel
theorem dX3_clause_72 : decode cX3_clause 72 = .ok (.aload_n 0, 1) := by decide +kernel
theorem dX3_clause_73 : decode cX3_clause 73 = .ok (.iconst 0, 1) := by decide +kernel
theorem dX3_clause_74 : decode cX3_clause 74 = .ok (.invokevirtual 75, 3) := by decide +kernel
theorem dX3_clause_77 : decode cX3_clause 77 = .ok (.ifCond .ne 5, 3) := by decide +kernel
theorem dX3_clause_80 : decode cX3_clause 80 = .ok (.iconst 0, 1) := by decide +kernel
theorem dX3_clause_81 : decode cX3_clause 81 = .ok (.ireturn, 1) := by decide +kernel
theorem dX3_clause_82 : decode cX3_clause 82 = .ok (.aload_n 0, 1) := by decide +kernel
theorem dX3_clause_83 : decode cX3_clause 83 = .ok (.getfield 12, 3) := by decide +kernel
theorem dX3_clause_86 : decode cX3_clause 86 = .ok (.iload_n 1, 1) := by decide +kernel
theorem dX3_clause_87 : decode cX3_clause 87 = .ok (.iload_n 2, 1) := by decide +kernel
theorem dX3_clause_88 : decode cX3_clause 88 = .ok (.invokevirtual 79, 3) := by decide +kernel
theorem dX3_clause_91 : decode cX3_clause 91 = .ok (.iconst 1, 1) := by decide +kernel
theorem dX3_clause_92 : decode cX3_clause 92 = .ok (.ireturn, 1) := by decide +kernel
theorem dX3_word_0 : decode cX3_word 0 = .ok (.aload_n 0, 1) := by decide +kernel
theorem dX3_word_1 : decode cX3_word 1 = .ok (.invokevirtual 46, 3) := by decide +kernel
theorem dX3_word_4 : decode cX3_word 4 = .ok (.lookupswitch 138 #[(104, 44), (114, 74), (115, 59), (119, 89)], 44) := by decide +kernel
theorem dX3_word_48 : decode cX3_word 48 = .ok (.aload_n 0, 1) := by decide +kernel
theorem dX3_word_49 : decode cX3_word 49 = .ok (.ldc 83, 2) := by decide +kernel
theorem dX3_word_51 : decode cX3_word 51 = .ok (.invokevirtual 85, 3) := by decide +kernel
theorem dX3_word_54 : decode cX3_word 54 = .ok (.ifCond .eq 7, 3) := by decide +kernel
theorem dX3_word_57 : decode cX3_word 57 = .ok (.iconst 0, 1) := by decide +kernel
theorem dX3_word_58 : decode cX3_word 58 = .ok (.goto 4, 3) := by decide +kernel
theorem dX3_word_61 : decode cX3_word 61 = .ok (.iconst (-1), 1) := by decide +kernel
theorem dX3_word_62 : decode cX3_word 62 = .ok (.ireturn, 1) := by decide +kernel
theorem dX3_word_63 : decode cX3_word 63 = .ok (.aload_n 0, 1) := by decide +kernel
theorem dX3_word_64 : decode cX3_word 64 = .ok (.ldc 89, 2) := by decide +kernel
theorem dX3_word_66 : decode cX3_word 66 = .ok (.invokevirtual 85, 3) := by decide +kernel
theorem dX3_word_69 : decode cX3_word 69 = .ok (.ifCond .eq 7, 3) := by decide +kernel
theorem dX3_word_72 : decode cX3_word 72 = .ok (.iconst 1, 1) := by decide +kernel
theorem dX3_word_73 : decode cX3_word 73 = .ok (.goto 4, 3) := by decide +kernel
theorem dX3_word_76 : decode cX3_word 76 = .ok (.iconst (-1), 1) := by decide +kernel
theorem dX3_word_77 : decode cX3_word 77 = .ok (.ireturn, 1) := by decide +kernel
theorem dX3_word_78 : decode cX3_word 78 = .ok (.aload_n 0, 1) := by decide +kernel
theorem dX3_word_79 : decode cX3_word 79 = .ok (.ldc 91, 2) := by decide +kernel
theorem dX3_word_81 : decode cX3_word 81 = .ok (.invokevirtual 85, 3) := by decide +kernel
theorem dX3_word_84 : decode cX3_word 84 = .ok (.ifCond .eq 7, 3) := by decide +kernel
theorem dX3_word_87 : decode cX3_word 87 = .ok (.iconst 4, 1) := by decide +kernel
theorem dX3_word_88 : decode cX3_word 88 = .ok (.goto 4, 3) := by decide +kernel
theorem dX3_word_91 : decode cX3_word 91 = .ok (.iconst (-1), 1) := by decide +kernel
theorem dX3_word_92 : decode cX3_word 92 = .ok (.ireturn, 1) := by decide +kernel
theorem dX3_word_93 : decode cX3_word 93 = .ok (.aload_n 0, 1) := by decide +kernel
theorem dX3_word_94 : decode cX3_word 94 = .ok (.dup, 1) := by decide +kernel
theorem dX3_word_95 : decode cX3_word 95 = .ok (.getfield 32, 3) := by decide +kernel
theorem dX3_word_98 : decode cX3_word 98 = .ok (.iconst 1, 1) := by decide +kernel
theorem dX3_word_99 : decode cX3_word 99 = .ok (.iadd, 1) := by decide +kernel
theorem dX3_word_100 : decode cX3_word 100 = .ok (.putfield 32, 3) := by decide +kernel
theorem dX3_word_103 : decode cX3_word 103 = .ok (.aload_n 0, 1) := by decide +kernel
theorem dX3_word_104 : decode cX3_word 104 = .ok (.invokevirtual 46, 3) := by decide +kernel
theorem dX3_word_107 : decode cX3_word 107 = .ok (.bipush 105, 2) := by decide +kernel
theorem dX3_word_109 : decode cX3_word 109 = .ok (.if_icmp .ne 18, 3) := by decide +kernel
theorem dX3_word_112 : decode cX3_word 112 = .ok (.aload_n 0, 1) := by decide +kernel
theorem dX3_word_113 : decode cX3_word 113 = .ok (.ldc 92, 2) := by decide +kernel
theorem dX3_word_115 : decode cX3_word 115 = .ok (.invokevirtual 85, 3) := by decide +kernel
theorem dX3_word_118 : decode cX3_word 118 = .ok (.ifCond .eq 7, 3) := by decide +kernel
theorem dX3_word_121 : decode cX3_word 121 = .ok (.iconst 2, 1) := by decide +kernel
theorem dX3_word_122 : decode cX3_word 122 = .ok (.goto 4, 3) := by decide +kernel
theorem dX3_word_125 : decode cX3_word 125 = .ok (.iconst (-1), 1) := by decide +kernel
theorem dX3_word_126 : decode cX3_word 126 = .ok (.ireturn, 1) := by decide +kernel
theorem dX3_word_127 : decode cX3_word 127 = .ok (.aload_n 0, 1) := by decide +kernel
theorem dX3_word_128 : decode cX3_word 128 = .ok (.ldc 94, 2) := by decide +kernel
theorem dX3_word_130 : decode cX3_word 130 = .ok (.invokevirtual 85, 3) := by decide +kernel
theorem dX3_word_133 : decode cX3_word 133 = .ok (.ifCond .eq 7, 3) := by decide +kernel
theorem dX3_word_136 : decode cX3_word 136 = .ok (.iconst 3, 1) := by decide +kernel
theorem dX3_word_137 : decode cX3_word 137 = .ok (.goto 4, 3) := by decide +kernel
theorem dX3_word_140 : decode cX3_word 140 = .ok (.iconst (-1), 1) := by decide +kernel
theorem dX3_word_141 : decode cX3_word 141 = .ok (.ireturn, 1) := by decide +kernel
theorem dX3_word_142 : decode cX3_word 142 = .ok (.iconst (-1), 1) := by decide +kernel
theorem dX3_word_143 : decode cX3_word 143 = .ok (.ireturn, 1) := by decide +kernel
theorem dX3_number_0 : decode cX3_number 0 = .ok (.aload_n 0, 1) := by decide +kernel
theorem dX3_number_1 : decode cX3_number 1 = .ok (.ldc 96, 2) := by decide +kernel
theorem dX3_number_3 : decode cX3_number 3 = .ok (.invokevirtual 98, 3) := by decide +kernel
theorem dX3_number_6 : decode cX3_number 6 = .ok (.istore_n 1, 1) := by decide +kernel
theorem dX3_number_7 : decode cX3_number 7 = .ok (.iload_n 1, 1) := by decide +kernel
theorem dX3_number_8 : decode cX3_number 8 = .ok (.iconst (-1), 1) := by decide +kernel
theorem dX3_number_9 : decode cX3_number 9 = .ok (.if_icmp .eq 7, 3) := by decide +kernel
theorem dX3_number_12 : decode cX3_number 12 = .ok (.iload_n 1, 1) := by decide +kernel
theorem dX3_number_13 : decode cX3_number 13 = .ok (.ifCond .ne 5, 3) := by decide +kernel
theorem dX3_number_16 : decode cX3_number 16 = .ok (.iload_n 1, 1) := by decide +kernel
theorem dX3_number_17 : decode cX3_number 17 = .ok (.ireturn, 1) := by decide +kernel
theorem dX3_number_18 : decode cX3_number 18 = .ok (.aload_n 0, 1) := by decide +kernel
theorem dX3_number_19 : decode cX3_number 19 = .ok (.ldc 96, 2) := by decide +kernel
theorem dX3_number_21 : decode cX3_number 21 = .ok (.invokevirtual 98, 3) := by decide +kernel
theorem dX3_number_24 : decode cX3_number 24 = .ok (.istore_n 2, 1) := by decide +kernel
theorem dX3_number_25 : decode cX3_number 25 = .ok (.iload_n 2, 1) := by decide +kernel
theorem dX3_number_26 : decode cX3_number 26 = .ok (.iconst (-1), 1) := by decide +kernel
theorem dX3_number_27 : decode cX3_number 27 = .ok (.if_icmp .ne 7, 3) := by decide +kernel
theorem dX3_number_30 : decode cX3_number 30 = .ok (.iload_n 1, 1) := by decide +kernel
theorem dX3_number_31 : decode cX3_number 31 = .ok (.goto 9, 3) := by decide +kernel
theorem dX3_number_34 : decode cX3_number 34 = .ok (.bipush 10, 2) := by decide +kernel
theorem dX3_number_36 : decode cX3_number 36 = .ok (.iload_n 1, 1) := by decide +kernel
theorem dX3_number_37 : decode cX3_number 37 = .ok (.imul, 1) := by decide +kernel
theorem dX3_number_38 : decode cX3_number 38 = .ok (.iload_n 2, 1) := by decide +kernel
theorem dX3_number_39 : decode cX3_number 39 = .ok (.iadd, 1) := by decide +kernel
theorem dX3_number_40 : decode cX3_number 40 = .ok (.ireturn, 1) := by decide +kernel
theorem dX3_either_0 : decode cX3_either 0 = .ok (.aload_n 0, 1) := by decide +kernel
theorem dX3_either_1 : decode cX3_either 1 = .ok (.iload_n 1, 1) := by decide +kernel
theorem dX3_either_2 : decode cX3_either 2 = .ok (.invokevirtual 102, 3) := by decide +kernel
theorem dX3_either_5 : decode cX3_either 5 = .ok (.ifCond .ne 5, 3) := by decide +kernel
theorem dX3_either_8 : decode cX3_either 8 = .ok (.iconst 0, 1) := by decide +kernel
theorem dX3_either_9 : decode cX3_either 9 = .ok (.ireturn, 1) := by decide +kernel
theorem dX3_either_10 : decode cX3_either 10 = .ok (.iconst 0, 1) := by decide +kernel
theorem dX3_either_11 : decode cX3_either 11 = .ok (.istore_n 2, 1) := by decide +kernel
theorem dX3_either_12 : decode cX3_either 12 = .ok (.iload_n 2, 1) := by decide +kernel
theorem dX3_either_13 : decode cX3_either 13 = .ok (.bipush 100, 2) := by decide +kernel
theorem dX3_either_15 : decode cX3_either 15 = .ok (.if_icmp .ge 37, 3) := by decide +kernel
theorem dX3_either_18 : decode cX3_either 18 = .ok (.aload_n 0, 1) := by decide +kernel
theorem dX3_either_19 : decode cX3_either 19 = .ok (.bipush 124, 2) := by decide +kernel
theorem dX3_either_21 : decode cX3_either 21 = .ok (.invokevirtual 38, 3) := by decide +kernel
theorem dX3_either_24 : decode cX3_either 24 = .ok (.ifCond .eq 28, 3) := by decide +kernel
theorem dX3_either_27 : decode cX3_either 27 = .ok (.aload_n 0, 1) := by decide +kernel
theorem dX3_either_28 : decode cX3_either 28 = .ok (.iload_n 1, 1) := by decide +kernel
theorem dX3_either_29 : decode cX3_either 29 = .ok (.invokevirtual 102, 3) := by decide +kernel
theorem dX3_either_32 : decode cX3_either 32 = .ok (.ifCond .ne 5, 3) := by decide +kernel
theorem dX3_either_35 : decode cX3_either 35 = .ok (.iconst 0, 1) := by decide +kernel
theorem dX3_either_36 : decode cX3_either 36 = .ok (.ireturn, 1) := by decide +kernel
theorem dX3_either_37 : decode cX3_either 37 = .ok (.aload_n 0, 1) := by decide +kernel
theorem dX3_either_38 : decode cX3_either 38 = .ok (.getfield 12, 3) := by decide +kernel
theorem dX3_either_41 : decode cX3_either 41 = .ok (.bipush (-3), 2) := by decide +kernel
theorem dX3_either_43 : decode cX3_either 43 = .ok (.invokevirtual 105, 3) := by decide +kernel
theorem dX3_either_46 : decode cX3_either 46 = .ok (.iinc 2 1, 3) := by decide +kernel
theorem dX3_either_49 : decode cX3_either 49 = .ok (.goto (-37), 3) := by decide +kernel
theorem dX3_either_52 : decode cX3_either 52 = .ok (.iconst 1, 1) := by decide +kernel
theorem dX3_either_53 : decode cX3_either 53 = .ok (.ireturn, 1) := by decide +kernel
theorem dX3_both_0 : decode cX3_both 0 = .ok (.aload_n 0, 1) := by decide +kernel
theorem dX3_both_1 : decode cX3_both 1 = .ok (.iload_n 1, 1) := by decide +kernel
theorem dX3_both_2 : decode cX3_both 2 = .ok (.invokevirtual 109, 3) := by decide +kernel
theorem dX3_both_5 : decode cX3_both 5 = .ok (.ifCond .ne 5, 3) := by decide +kernel
theorem dX3_both_8 : decode cX3_both 8 = .ok (.iconst 0, 1) := by decide +kernel
theorem dX3_both_9 : decode cX3_both 9 = .ok (.ireturn, 1) := by decide +kernel
theorem dX3_both_10 : decode cX3_both 10 = .ok (.iconst 0, 1) := by decide +kernel
theorem dX3_both_11 : decode cX3_both 11 = .ok (.istore_n 2, 1) := by decide +kernel
theorem dX3_both_12 : decode cX3_both 12 = .ok (.iload_n 2, 1) := by decide +kernel
theorem dX3_both_13 : decode cX3_both 13 = .ok (.bipush 100, 2) := by decide +kernel
theorem dX3_both_15 : decode cX3_both 15 = .ok (.if_icmp .ge 37, 3) := by decide +kernel
theorem dX3_both_18 : decode cX3_both 18 = .ok (.aload_n 0, 1) := by decide +kernel
theorem dX3_both_19 : decode cX3_both 19 = .ok (.bipush 38, 2) := by decide +kernel
theorem dX3_both_21 : decode cX3_both 21 = .ok (.invokevirtual 38, 3) := by decide +kernel
theorem dX3_both_24 : decode cX3_both 24 = .ok (.ifCond .eq 28, 3) := by decide +kernel
theorem dX3_both_27 : decode cX3_both 27 = .ok (.aload_n 0, 1) := by decide +kernel
theorem dX3_both_28 : decode cX3_both 28 = .ok (.iload_n 1, 1) := by decide +kernel
theorem dX3_both_29 : decode cX3_both 29 = .ok (.invokevirtual 109, 3) := by decide +kernel
theorem dX3_both_32 : decode cX3_both 32 = .ok (.ifCond .ne 5, 3) := by decide +kernel
theorem dX3_both_35 : decode cX3_both 35 = .ok (.iconst 0, 1) := by decide +kernel
theorem dX3_both_36 : decode cX3_both 36 = .ok (.ireturn, 1) := by decide +kernel
theorem dX3_both_37 : decode cX3_both 37 = .ok (.aload_n 0, 1) := by decide +kernel
theorem dX3_both_38 : decode cX3_both 38 = .ok (.getfield 12, 3) := by decide +kernel
theorem dX3_both_41 : decode cX3_both 41 = .ok (.bipush (-2), 2) := by decide +kernel
theorem dX3_both_43 : decode cX3_both 43 = .ok (.invokevirtual 105, 3) := by decide +kernel
theorem dX3_both_46 : decode cX3_both 46 = .ok (.iinc 2 1, 3) := by decide +kernel
theorem dX3_both_49 : decode cX3_both 49 = .ok (.goto (-37), 3) := by decide +kernel
theorem dX3_both_52 : decode cX3_both 52 = .ok (.iconst 1, 1) := by decide +kernel
theorem dX3_both_53 : decode cX3_both 53 = .ok (.ireturn, 1) := by decide +kernel
theorem dX3_single_0 : decode cX3_single 0 = .ok (.aload_n 0, 1) := by decide +kernel
theorem dX3_single_1 : decode cX3_single 1 = .ok (.invokevirtual 46, 3) := by decide +kernel
theorem dX3_single_4 : decode cX3_single 4 = .ok (.istore_n 2, 1) := by decide +kernel
theorem dX3_single_5 : decode cX3_single 5 = .ok (.iload_n 2, 1) := by decide +kernel
theorem dX3_single_6 : decode cX3_single 6 = .ok (.bipush 33, 2) := by decide +kernel
theorem dX3_single_8 : decode cX3_single 8 = .ok (.if_icmp .eq 14, 3) := by decide +kernel
theorem dX3_single_11 : decode cX3_single 11 = .ok (.iload_n 2, 1) := by decide +kernel
theorem dX3_single_12 : decode cX3_single 12 = .ok (.bipush 40, 2) := by decide +kernel
theorem dX3_single_14 : decode cX3_single 14 = .ok (.if_icmp .eq 8, 3) := by decide +kernel
theorem dX3_single_17 : decode cX3_single 17 = .ok (.aload_n 0, 1) := by decide +kernel
theorem dX3_single_18 : decode cX3_single 18 = .ok (.invokevirtual 112, 3) := by decide +kernel
theorem dX3_single_21 : decode cX3_single 21 = .ok (.ireturn, 1) := by decide +kernel
theorem dX3_single_22 : decode cX3_single 22 = .ok (.iload_n 1, 1) := by decide +kernel
theorem dX3_single_23 : decode cX3_single 23 = .ok (.iconst 5, 1) := by decide +kernel
theorem dX3_single_24 : decode cX3_single 24 = .ok (.if_icmp .lt 5, 3) := by decide +kernel
theorem dX3_single_27 : decode cX3_single 27 = .ok (.iconst 0, 1) := by decide +kernel
theorem dX3_single_28 : decode cX3_single 28 = .ok (.ireturn, 1) := by decide +kernel
theorem dX3_single_29 : decode cX3_single 29 = .ok (.aload_n 0, 1) := by decide +kernel
theorem dX3_single_30 : decode cX3_single 30 = .ok (.dup, 1) := by decide +kernel
theorem dX3_single_31 : decode cX3_single 31 = .ok (.getfield 32, 3) := by decide +kernel
theorem dX3_single_34 : decode cX3_single 34 = .ok (.iconst 1, 1) := by decide +kernel
theorem dX3_single_35 : decode cX3_single 35 = .ok (.iadd, 1) := by decide +kernel
theorem dX3_single_36 : decode cX3_single 36 = .ok (.putfield 32, 3) := by decide +kernel
theorem dX3_single_39 : decode cX3_single 39 = .ok (.iload_n 2, 1) := by decide +kernel
theorem dX3_single_40 : decode cX3_single 40 = .ok (.bipush 40, 2) := by decide +kernel
theorem dX3_single_42 : decode cX3_single 42 = .ok (.if_icmp .ne 28, 3) := by decide +kernel
theorem dX3_single_45 : decode cX3_single 45 = .ok (.aload_n 0, 1) := by decide +kernel
theorem dX3_single_46 : decode cX3_single 46 = .ok (.iload_n 1, 1) := by decide +kernel
theorem dX3_single_47 : decode cX3_single 47 = .ok (.iconst 1, 1) := by decide +kernel
theorem dX3_single_48 : decode cX3_single 48 = .ok (.iadd, 1) := by decide +kernel
theorem dX3_single_49 : decode cX3_single 49 = .ok (.invokevirtual 75, 3) := by decide +kernel
theorem dX3_single_52 : decode cX3_single 52 = .ok (.ifCond .eq 16, 3) := by decide +kernel
theorem dX3_single_55 : decode cX3_single 55 = .ok (.aload_n 0, 1) := by decide +kernel
theorem dX3_single_56 : decode cX3_single 56 = .ok (.bipush 41, 2) := by decide +kernel
theorem dX3_single_58 : decode cX3_single 58 = .ok (.invokevirtual 38, 3) := by decide +kernel
theorem dX3_single_61 : decode cX3_single 61 = .ok (.ifCond .eq 7, 3) := by decide +kernel
theorem dX3_single_64 : decode cX3_single 64 = .ok (.iconst 1, 1) := by decide +kernel
theorem dX3_single_65 : decode cX3_single 65 = .ok (.goto 4, 3) := by decide +kernel
theorem dX3_single_68 : decode cX3_single 68 = .ok (.iconst 0, 1) := by decide +kernel
theorem dX3_single_69 : decode cX3_single 69 = .ok (.ireturn, 1) := by decide +kernel
theorem dX3_single_70 : decode cX3_single 70 = .ok (.aload_n 0, 1) := by decide +kernel
theorem dX3_single_71 : decode cX3_single 71 = .ok (.iload_n 1, 1) := by decide +kernel
theorem dX3_single_72 : decode cX3_single 72 = .ok (.iconst 1, 1) := by decide +kernel
theorem dX3_single_73 : decode cX3_single 73 = .ok (.iadd, 1) := by decide +kernel
theorem dX3_single_74 : decode cX3_single 74 = .ok (.invokevirtual 109, 3) := by decide +kernel
theorem dX3_single_77 : decode cX3_single 77 = .ok (.ifCond .ne 5, 3) := by decide +kernel
theorem dX3_single_80 : decode cX3_single 80 = .ok (.iconst 0, 1) := by decide +kernel
theorem dX3_single_81 : decode cX3_single 81 = .ok (.ireturn, 1) := by decide +kernel
theorem dX3_single_82 : decode cX3_single 82 = .ok (.aload_n 0, 1) := by decide +kernel
theorem dX3_single_83 : decode cX3_single 83 = .ok (.getfield 12, 3) := by decide +kernel
theorem dX3_single_86 : decode cX3_single 86 = .ok (.iconst (-1), 1) := by decide +kernel
theorem dX3_single_87 : decode cX3_single 87 = .ok (.invokevirtual 105, 3) := by decide +kernel
theorem dX3_single_90 : decode cX3_single 90 = .ok (.iconst 1, 1) := by decide +kernel
theorem dX3_single_91 : decode cX3_single 91 = .ok (.ireturn, 1) := by decide +kernel
theorem dX3_test_0 : decode cX3_test 0 = .ok (.aload_n 0, 1) := by decide +kernel
theorem dX3_test_1 : decode cX3_test 1 = .ok (.ldc 115, 2) := by decide +kernel
theorem dX3_test_3 : decode cX3_test 3 = .ok (.invokevirtual 98, 3) := by decide +kernel
theorem dX3_test_6 : decode cX3_test 6 = .ok (.istore_n 1, 1) := by decide +kernel
theorem dX3_test_7 : decode cX3_test 7 = .ok (.iload_n 1, 1) := by decide +kernel
theorem dX3_test_8 : decode cX3_test 8 = .ok (.iconst (-1), 1) := by decide +kernel
theorem dX3_test_9 : decode cX3_test 9 = .ok (.if_icmp .ne 5, 3) := by decide +kernel
theorem dX3_test_12 : decode cX3_test 12 = .ok (.iconst 0, 1) := by decide +kernel
theorem dX3_test_13 : decode cX3_test 13 = .ok (.ireturn, 1) := by decide +kernel
theorem dX3_test_14 : decode cX3_test 14 = .ok (.aload_n 0, 1) := by decide +kernel
theorem dX3_test_15 : decode cX3_test 15 = .ok (.ldc 117, 2) := by decide +kernel
theorem dX3_test_17 : decode cX3_test 17 = .ok (.invokevirtual 98, 3) := by decide +kernel
theorem dX3_test_20 : decode cX3_test 20 = .ok (.istore_n 2, 1) := by decide +kernel
theorem dX3_test_21 : decode cX3_test 21 = .ok (.iload_n 2, 1) := by decide +kernel
theorem dX3_test_22 : decode cX3_test 22 = .ok (.iconst (-1), 1) := by decide +kernel
theorem dX3_test_23 : decode cX3_test 23 = .ok (.if_icmp .ne 5, 3) := by decide +kernel
theorem dX3_test_26 : decode cX3_test 26 = .ok (.iconst 0, 1) := by decide +kernel
theorem dX3_test_27 : decode cX3_test 27 = .ok (.ireturn, 1) := by decide +kernel
theorem dX3_test_28 : decode cX3_test 28 = .ok (.aload_n 0, 1) := by decide +kernel
theorem dX3_test_29 : decode cX3_test 29 = .ok (.invokevirtual 66, 3) := by decide +kernel
theorem dX3_test_32 : decode cX3_test 32 = .ok (.istore_n 3, 1) := by decide +kernel
theorem dX3_test_33 : decode cX3_test 33 = .ok (.iload_n 3, 1) := by decide +kernel
theorem dX3_test_34 : decode cX3_test 34 = .ok (.iconst (-1), 1) := by decide +kernel
theorem dX3_test_35 : decode cX3_test 35 = .ok (.if_icmp .ne 5, 3) := by decide +kernel
theorem dX3_test_38 : decode cX3_test 38 = .ok (.iconst 0, 1) := by decide +kernel
theorem dX3_test_39 : decode cX3_test 39 = .ok (.ireturn, 1) := by decide +kernel
theorem dX3_test_40 : decode cX3_test 40 = .ok (.aload_n 0, 1) := by decide +kernel
theorem dX3_test_41 : decode cX3_test 41 = .ok (.getfield 12, 3) := by decide +kernel
theorem dX3_test_44 : decode cX3_test 44 = .ok (.sipush 512, 3) := by decide +kernel
theorem dX3_test_47 : decode cX3_test 47 = .ok (.iload_n 1, 1) := by decide +kernel
theorem dX3_test_48 : decode cX3_test 48 = .ok (.imul, 1) := by decide +kernel
theorem dX3_test_49 : decode cX3_test 49 = .ok (.sipush 128, 3) := by decide +kernel
theorem dX3_test_52 : decode cX3_test 52 = .ok (.iload_n 2, 1) := by decide +kernel
theorem dX3_test_53 : decode cX3_test 53 = .ok (.imul, 1) := by decide +kernel
theorem dX3_test_54 : decode cX3_test 54 = .ok (.iadd, 1) := by decide +kernel
theorem dX3_test_55 : decode cX3_test 55 = .ok (.iload_n 3, 1) := by decide +kernel
theorem dX3_test_56 : decode cX3_test 56 = .ok (.iadd, 1) := by decide +kernel
theorem dX3_test_57 : decode cX3_test 57 = .ok (.invokevirtual 105, 3) := by decide +kernel
theorem dX3_test_60 : decode cX3_test 60 = .ok (.iconst 1, 1) := by decide +kernel
theorem dX3_test_61 : decode cX3_test 61 = .ok (.ireturn, 1) := by decide +kernel
theorem dX4_init_0 : decode cX4_init 0 = .ok (.aload_n 0, 1) := by decide +kernel
theorem dX4_init_1 : decode cX4_init 1 = .ok (.invokespecial 3, 3) := by decide +kernel
theorem dX4_init_4 : decode cX4_init 4 = .ok (.aload_n 0, 1) := by decide +kernel
theorem dX4_init_5 : decode cX4_init 5 = .ok (.bipush 6, 2) := by decide +kernel
theorem dX4_init_7 : decode cX4_init 7 = .ok (.newarray .int, 2) := by decide +kernel
theorem dX4_init_9 : decode cX4_init 9 = .ok (.putfield 9, 3) := by decide +kernel
theorem dX4_init_12 : decode cX4_init 12 = .ok (.return_, 1) := by decide +kernel
theorem dX4_begin_0 : decode cX4_begin 0 = .ok (.aload_n 0, 1) := by decide +kernel
theorem dX4_begin_1 : decode cX4_begin 1 = .ok (.iload_n 1, 1) := by decide +kernel
theorem dX4_begin_2 : decode cX4_begin 2 = .ok (.putfield 15, 3) := by decide +kernel
theorem dX4_begin_5 : decode cX4_begin 5 = .ok (.aload_n 0, 1) := by decide +kernel
theorem dX4_begin_6 : decode cX4_begin 6 = .ok (.iload_n 2, 1) := by decide +kernel
theorem dX4_begin_7 : decode cX4_begin 7 = .ok (.putfield 19, 3) := by decide +kernel
theorem dX4_begin_10 : decode cX4_begin 10 = .ok (.aload_n 0, 1) := by decide +kernel
theorem dX4_begin_11 : decode cX4_begin 11 = .ok (.iload_n 3, 1) := by decide +kernel
theorem dX4_begin_12 : decode cX4_begin 12 = .ok (.putfield 22, 3) := by decide +kernel
theorem dX4_begin_15 : decode cX4_begin 15 = .ok (.aload_n 0, 1) := by decide +kernel
theorem dX4_begin_16 : decode cX4_begin 16 = .ok (.iload 4, 2) := by decide +kernel
theorem dX4_begin_18 : decode cX4_begin 18 = .ok (.putfield 25, 3) := by decide +kernel
theorem dX4_begin_21 : decode cX4_begin 21 = .ok (.aload_n 0, 1) := by decide +kernel
theorem dX4_begin_22 : decode cX4_begin 22 = .ok (.iload 5, 2) := by decide +kernel
theorem dX4_begin_24 : decode cX4_begin 24 = .ok (.putfield 28, 3) := by decide +kernel
theorem dX4_begin_27 : decode cX4_begin 27 = .ok (.aload_n 0, 1) := by decide +kernel
theorem dX4_begin_28 : decode cX4_begin 28 = .ok (.iconst 0, 1) := by decide +kernel
theorem dX4_begin_29 : decode cX4_begin 29 = .ok (.putfield 31, 3) := by decide +kernel
theorem dX4_begin_32 : decode cX4_begin 32 = .ok (.aload_n 0, 1) := by decide +kernel
theorem dX4_begin_33 : decode cX4_begin 33 = .ok (.iconst 0, 1) := by decide +kernel
theorem dX4_begin_34 : decode cX4_begin 34 = .ok (.putfield 34, 3) := by decide +kernel
theorem dX4_begin_37 : decode cX4_begin 37 = .ok (.aload_n 0, 1) := by decide +kernel
theorem dX4_begin_38 : decode cX4_begin 38 = .ok (.iconst 0, 1) := by decide +kernel
theorem dX4_begin_39 : decode cX4_begin 39 = .ok (.putfield 37, 3) := by decide +kernel
theorem dX4_begin_42 : decode cX4_begin 42 = .ok (.aload_n 0, 1) := by decide +kernel
theorem dX4_begin_43 : decode cX4_begin 43 = .ok (.iconst 1, 1) := by decide +kernel
theorem dX4_begin_44 : decode cX4_begin 44 = .ok (.putfield 40, 3) := by decide +kernel
theorem dX4_begin_47 : decode cX4_begin 47 = .ok (.iconst 0, 1) := by decide +kernel
theorem dX4_begin_48 : decode cX4_begin 48 = .ok (.istore 6, 2) := by decide +kernel
theorem dX4_begin_50 : decode cX4_begin 50 = .ok (.iload 6, 2) := by decide +kernel
theorem dX4_begin_52 : decode cX4_begin 52 = .ok (.bipush 6, 2) := by decide +kernel
theorem dX4_begin_54 : decode cX4_begin 54 = .ok (.if_icmp .ge 17, 3) := by decide +kernel
theorem dX4_begin_57 : decode cX4_begin 57 = .ok (.aload_n 0, 1) := by decide +kernel
theorem dX4_begin_58 : decode cX4_begin 58 = .ok (.getfield 9, 3) := by decide +kernel
theorem dX4_begin_61 : decode cX4_begin 61 = .ok (.iload 6, 2) := by decide +kernel
theorem dX4_begin_63 : decode cX4_begin 63 = .ok (.iconst 0, 1) := by decide +kernel
theorem dX4_begin_64 : decode cX4_begin 64 = .ok (.iastore, 1) := by decide +kernel
theorem dX4_begin_65 : decode cX4_begin 65 = .ok (.iinc 6 1, 3) := by decide +kernel
theorem dX4_begin_68 : decode cX4_begin 68 = .ok (.goto (-18), 3) := by decide +kernel
theorem dX4_begin_71 : decode cX4_begin 71 = .ok (.return_, 1) := by decide +kernel
theorem dX4_copyFrom_0 : decode cX4_copyFrom 0 = .ok (.aload_n 0, 1) := by decide +kernel
theorem dX4_copyFrom_1 : decode cX4_copyFrom 1 = .ok (.aload_n 1, 1) := by decide +kernel
theorem dX4_copyFrom_2 : decode cX4_copyFrom 2 = .ok (.getfield 15, 3) := by decide +kernel
theorem dX4_copyFrom_5 : decode cX4_copyFrom 5 = .ok (.aload_n 1, 1) := by decide +kernel
theorem dX4_copyFrom_6 : decode cX4_copyFrom 6 = .ok (.getfield 19, 3) := by decide +kernel
theorem dX4_copyFrom_9 : decode cX4_copyFrom 9 = .ok (.aload_n 1, 1) := by decide +kernel
theorem dX4_copyFrom_10 : decode cX4_copyFrom 10 = .ok (.getfield 22, 3) := by decide +kernel
theorem dX4_copyFrom_13 : decode cX4_copyFrom 13 = .ok (.aload_n 1, 1) := by decide +kernel
theorem dX4_copyFrom_14 : decode cX4_copyFrom 14 = .ok (.getfield 25, 3) := by decide +kernel
theorem dX4_copyFrom_17 : decode cX4_copyFrom 17 = .ok (.aload_n 1, 1) := by decide +kernel
theorem dX4_copyFrom_18 : decode cX4_copyFrom 18 = .ok (.getfield 28, 3) := by decide +kernel
theorem dX4_copyFrom_21 : decode cX4_copyFrom 21 = .ok (.invokevirtual 44, 3) := by decide +kernel
theorem dX4_copyFrom_24 : decode cX4_copyFrom 24 = .ok (.aload_n 0, 1) := by decide +kernel
theorem dX4_copyFrom_25 : decode cX4_copyFrom 25 = .ok (.aload_n 1, 1) := by decide +kernel
theorem dX4_copyFrom_26 : decode cX4_copyFrom 26 = .ok (.getfield 31, 3) := by decide +kernel
theorem dX4_copyFrom_29 : decode cX4_copyFrom 29 = .ok (.putfield 31, 3) := by decide +kernel
theorem dX4_copyFrom_32 : decode cX4_copyFrom 32 = .ok (.aload_n 0, 1) := by decide +kernel
theorem dX4_copyFrom_33 : decode cX4_copyFrom 33 = .ok (.aload_n 1, 1) := by decide +kernel
theorem dX4_copyFrom_34 : decode cX4_copyFrom 34 = .ok (.getfield 34, 3) := by decide +kernel
theorem dX4_copyFrom_37 : decode cX4_copyFrom 37 = .ok (.putfield 34, 3) := by decide +kernel
theorem dX4_copyFrom_40 : decode cX4_copyFrom 40 = .ok (.aload_n 0, 1) := by decide +kernel
theorem dX4_copyFrom_41 : decode cX4_copyFrom 41 = .ok (.aload_n 1, 1) := by decide +kernel
theorem dX4_copyFrom_42 : decode cX4_copyFrom 42 = .ok (.getfield 37, 3) := by decide +kernel
theorem dX4_copyFrom_45 : decode cX4_copyFrom 45 = .ok (.putfield 37, 3) := by decide +kernel
theorem dX4_copyFrom_48 : decode cX4_copyFrom 48 = .ok (.aload_n 0, 1) := by decide +kernel
theorem dX4_copyFrom_49 : decode cX4_copyFrom 49 = .ok (.aload_n 1, 1) := by decide +kernel
theorem dX4_copyFrom_50 : decode cX4_copyFrom 50 = .ok (.getfield 40, 3) := by decide +kernel
theorem dX4_copyFrom_53 : decode cX4_copyFrom 53 = .ok (.putfield 40, 3) := by decide +kernel
theorem dX4_copyFrom_56 : decode cX4_copyFrom 56 = .ok (.aload_n 1, 1) := by decide +kernel
theorem dX4_copyFrom_57 : decode cX4_copyFrom 57 = .ok (.getfield 9, 3) := by decide +kernel
theorem dX4_copyFrom_60 : decode cX4_copyFrom 60 = .ok (.iconst 0, 1) := by decide +kernel
theorem dX4_copyFrom_61 : decode cX4_copyFrom 61 = .ok (.aload_n 0, 1) := by decide +kernel
theorem dX4_copyFrom_62 : decode cX4_copyFrom 62 = .ok (.getfield 9, 3) := by decide +kernel
theorem dX4_copyFrom_65 : decode cX4_copyFrom 65 = .ok (.iconst 0, 1) := by decide +kernel
theorem dX4_copyFrom_66 : decode cX4_copyFrom 66 = .ok (.bipush 6, 2) := by decide +kernel
theorem dX4_copyFrom_68 : decode cX4_copyFrom 68 = .ok (.invokestatic 48, 3) := by decide +kernel
theorem dX4_copyFrom_71 : decode cX4_copyFrom 71 = .ok (.return_, 1) := by decide +kernel
theorem dX5_init_0 : decode cX5_init 0 = .ok (.aload_n 0, 1) := by decide +kernel
theorem dX5_init_1 : decode cX5_init 1 = .ok (.invokespecial 3, 3) := by decide +kernel
theorem dX5_init_4 : decode cX5_init 4 = .ok (.aload_n 0, 1) := by decide +kernel
theorem dX5_init_5 : decode cX5_init 5 = .ok (.bipush 10, 2) := by decide +kernel
theorem dX5_init_7 : decode cX5_init 7 = .ok (.newarray .int, 2) := by decide +kernel
theorem dX5_init_9 : decode cX5_init 9 = .ok (.putfield 9, 3) := by decide +kernel
theorem dX5_init_12 : decode cX5_init 12 = .ok (.aload_n 0, 1) := by decide +kernel
theorem dX5_init_13 : decode cX5_init 13 = .ok (.bipush 10, 2) := by decide +kernel
theorem dX5_init_15 : decode cX5_init 15 = .ok (.newarray .int, 2) := by decide +kernel
theorem dX5_init_17 : decode cX5_init 17 = .ok (.putfield 15, 3) := by decide +kernel
theorem dX5_init_20 : decode cX5_init 20 = .ok (.aload_n 0, 1) := by decide +kernel
theorem dX5_init_21 : decode cX5_init 21 = .ok (.bipush 10, 2) := by decide +kernel
theorem dX5_init_23 : decode cX5_init 23 = .ok (.newarray .int, 2) := by decide +kernel
theorem dX5_init_25 : decode cX5_init 25 = .ok (.putfield 18, 3) := by decide +kernel
theorem dX5_init_28 : decode cX5_init 28 = .ok (.aload_n 0, 1) := by decide +kernel
theorem dX5_init_29 : decode cX5_init 29 = .ok (.bipush 100, 2) := by decide +kernel
theorem dX5_init_31 : decode cX5_init 31 = .ok (.newarray .int, 2) := by decide +kernel
theorem dX5_init_33 : decode cX5_init 33 = .ok (.putfield 21, 3) := by decide +kernel
theorem dX5_init_36 : decode cX5_init 36 = .ok (.aload_n 0, 1) := by decide +kernel
theorem dX5_init_37 : decode cX5_init 37 = .ok (.invokevirtual 24, 3) := by decide +kernel
theorem dX5_init_40 : decode cX5_init 40 = .ok (.return_, 1) := by decide +kernel
theorem dX5_clear_0 : decode cX5_clear 0 = .ok (.aload_n 0, 1) := by decide +kernel
theorem dX5_clear_1 : decode cX5_clear 1 = .ok (.iconst 0, 1) := by decide +kernel
theorem dX5_clear_2 : decode cX5_clear 2 = .ok (.putfield 27, 3) := by decide +kernel
theorem dX5_clear_5 : decode cX5_clear 5 = .ok (.aload_n 0, 1) := by decide +kernel
theorem dX5_clear_6 : decode cX5_clear 6 = .ok (.iconst 0, 1) := by decide +kernel
theorem dX5_clear_7 : decode cX5_clear 7 = .ok (.putfield 31, 3) := by decide +kernel
theorem dX5_clear_10 : decode cX5_clear 10 = .ok (.aload_n 0, 1) := by decide +kernel
theorem dX5_clear_11 : decode cX5_clear 11 = .ok (.iconst 3, 1) := by decide +kernel
theorem dX5_clear_12 : decode cX5_clear 12 = .ok (.putfield 34, 3) := by decide +kernel
theorem dX5_clear_15 : decode cX5_clear 15 = .ok (.aload_n 0, 1) := by decide +kernel
theorem dX5_clear_16 : decode cX5_clear 16 = .ok (.iconst 2, 1) := by decide +kernel
theorem dX5_clear_17 : decode cX5_clear 17 = .ok (.putfield 37, 3) := by decide +kernel
theorem dX5_clear_20 : decode cX5_clear 20 = .ok (.return_, 1) := by decide +kernel
theorem dX5_copyFrom_0 : decode cX5_copyFrom 0 = .ok (.aload_n 0, 1) := by decide +kernel
theorem dX5_copyFrom_1 : decode cX5_copyFrom 1 = .ok (.aload_n 1, 1) := by decide +kernel
theorem dX5_copyFrom_2 : decode cX5_copyFrom 2 = .ok (.getfield 27, 3) := by decide +kernel
theorem dX5_copyFrom_5 : decode cX5_copyFrom 5 = .ok (.putfield 27, 3) := by decide +kernel
theorem dX5_copyFrom_8 : decode cX5_copyFrom 8 = .ok (.aload_n 0, 1) := by decide +kernel
theorem dX5_copyFrom_9 : decode cX5_copyFrom 9 = .ok (.aload_n 1, 1) := by decide +kernel
theorem dX5_copyFrom_10 : decode cX5_copyFrom 10 = .ok (.getfield 31, 3) := by decide +kernel
theorem dX5_copyFrom_13 : decode cX5_copyFrom 13 = .ok (.putfield 31, 3) := by decide +kernel
theorem dX5_copyFrom_16 : decode cX5_copyFrom 16 = .ok (.aload_n 0, 1) := by decide +kernel
theorem dX5_copyFrom_17 : decode cX5_copyFrom 17 = .ok (.aload_n 1, 1) := by decide +kernel
theorem dX5_copyFrom_18 : decode cX5_copyFrom 18 = .ok (.getfield 34, 3) := by decide +kernel
theorem dX5_copyFrom_21 : decode cX5_copyFrom 21 = .ok (.putfield 34, 3) := by decide +kernel
theorem dX5_copyFrom_24 : decode cX5_copyFrom 24 = .ok (.aload_n 0, 1) := by decide +kernel
theorem dX5_copyFrom_25 : decode cX5_copyFrom 25 = .ok (.aload_n 1, 1) := by decide +kernel
theorem dX5_copyFrom_26 : decode cX5_copyFrom 26 = .ok (.getfield 37, 3) := by decide +kernel
theorem dX5_copyFrom_29 : decode cX5_copyFrom 29 = .ok (.putfield 37, 3) := by decide +kernel
theorem dX5_copyFrom_32 : decode cX5_copyFrom 32 = .ok (.aload_n 1, 1) := by decide +kernel
theorem dX5_copyFrom_33 : decode cX5_copyFrom 33 = .ok (.getfield 9, 3) := by decide +kernel
theorem dX5_copyFrom_36 : decode cX5_copyFrom 36 = .ok (.iconst 0, 1) := by decide +kernel
theorem dX5_copyFrom_37 : decode cX5_copyFrom 37 = .ok (.aload_n 0, 1) := by decide +kernel
theorem dX5_copyFrom_38 : decode cX5_copyFrom 38 = .ok (.getfield 9, 3) := by decide +kernel
theorem dX5_copyFrom_41 : decode cX5_copyFrom 41 = .ok (.iconst 0, 1) := by decide +kernel
theorem dX5_copyFrom_42 : decode cX5_copyFrom 42 = .ok (.bipush 10, 2) := by decide +kernel
theorem dX5_copyFrom_44 : decode cX5_copyFrom 44 = .ok (.invokestatic 40, 3) := by decide +kernel
theorem dX5_copyFrom_47 : decode cX5_copyFrom 47 = .ok (.aload_n 1, 1) := by decide +kernel
theorem dX5_copyFrom_48 : decode cX5_copyFrom 48 = .ok (.getfield 15, 3) := by decide +kernel
theorem dX5_copyFrom_51 : decode cX5_copyFrom 51 = .ok (.iconst 0, 1) := by decide +kernel
theorem dX5_copyFrom_52 : decode cX5_copyFrom 52 = .ok (.aload_n 0, 1) := by decide +kernel
theorem dX5_copyFrom_53 : decode cX5_copyFrom 53 = .ok (.getfield 15, 3) := by decide +kernel
theorem dX5_copyFrom_56 : decode cX5_copyFrom 56 = .ok (.iconst 0, 1) := by decide +kernel
theorem dX5_copyFrom_57 : decode cX5_copyFrom 57 = .ok (.bipush 10, 2) := by decide +kernel
theorem dX5_copyFrom_59 : decode cX5_copyFrom 59 = .ok (.invokestatic 40, 3) := by decide +kernel
theorem dX5_copyFrom_62 : decode cX5_copyFrom 62 = .ok (.aload_n 1, 1) := by decide +kernel
theorem dX5_copyFrom_63 : decode cX5_copyFrom 63 = .ok (.getfield 18, 3) := by decide +kernel
theorem dX5_copyFrom_66 : decode cX5_copyFrom 66 = .ok (.iconst 0, 1) := by decide +kernel
theorem dX5_copyFrom_67 : decode cX5_copyFrom 67 = .ok (.aload_n 0, 1) := by decide +kernel
theorem dX5_copyFrom_68 : decode cX5_copyFrom 68 = .ok (.getfield 18, 3) := by decide +kernel
theorem dX5_copyFrom_71 : decode cX5_copyFrom 71 = .ok (.iconst 0, 1) := by decide +kernel
theorem dX5_copyFrom_72 : decode cX5_copyFrom 72 = .ok (.bipush 10, 2) := by decide +kernel
theorem dX5_copyFrom_74 : decode cX5_copyFrom 74 = .ok (.invokestatic 40, 3) := by decide +kernel
theorem dX5_copyFrom_77 : decode cX5_copyFrom 77 = .ok (.aload_n 1, 1) := by decide +kernel
theorem dX5_copyFrom_78 : decode cX5_copyFrom 78 = .ok (.getfield 21, 3) := by decide +kernel
theorem dX5_copyFrom_81 : decode cX5_copyFrom 81 = .ok (.iconst 0, 1) := by decide +kernel
theorem dX5_copyFrom_82 : decode cX5_copyFrom 82 = .ok (.aload_n 0, 1) := by decide +kernel
theorem dX5_copyFrom_83 : decode cX5_copyFrom 83 = .ok (.getfield 21, 3) := by decide +kernel
theorem dX5_copyFrom_86 : decode cX5_copyFrom 86 = .ok (.iconst 0, 1) := by decide +kernel
theorem dX5_copyFrom_87 : decode cX5_copyFrom 87 = .ok (.bipush 100, 2) := by decide +kernel
theorem dX5_copyFrom_89 : decode cX5_copyFrom 89 = .ok (.invokestatic 40, 3) := by decide +kernel
theorem dX5_copyFrom_92 : decode cX5_copyFrom 92 = .ok (.return_, 1) := by decide +kernel
theorem dX5_put_0 : decode cX5_put 0 = .ok (.aload_n 0, 1) := by decide +kernel
theorem dX5_put_1 : decode cX5_put 1 = .ok (.getfield 31, 3) := by decide +kernel
theorem dX5_put_4 : decode cX5_put 4 = .ok (.bipush 100, 2) := by decide +kernel
theorem dX5_put_6 : decode cX5_put 6 = .ok (.if_icmp .ge 23, 3) := by decide +kernel
theorem dX5_put_9 : decode cX5_put 9 = .ok (.aload_n 0, 1) := by decide +kernel
theorem dX5_put_10 : decode cX5_put 10 = .ok (.getfield 21, 3) := by decide +kernel
theorem dX5_put_13 : decode cX5_put 13 = .ok (.aload_n 0, 1) := by decide +kernel
theorem dX5_put_14 : decode cX5_put 14 = .ok (.getfield 31, 3) := by decide +kernel
theorem dX5_put_17 : decode cX5_put 17 = .ok (.iload_n 1, 1) := by decide +kernel
theorem dX5_put_18 : decode cX5_put 18 = .ok (.iastore, 1) := by decide +kernel
theorem dX5_put_19 : decode cX5_put 19 = .ok (.aload_n 0, 1) := by decide +kernel
theorem dX5_put_20 : decode cX5_put 20 = .ok (.dup, 1) := by decide +kernel
theorem dX5_put_21 : decode cX5_put 21 = .ok (.getfield 31, 3) := by decide +kernel
theorem dX5_put_24 : decode cX5_put 24 = .ok (.iconst 1, 1) := by decide +kernel
theorem dX5_put_25 : decode cX5_put 25 = .ok (.iadd, 1) := by decide +kernel
theorem dX5_put_26 : decode cX5_put 26 = .ok (.putfield 31, 3) := by decide +kernel
theorem dX5_put_29 : decode cX5_put 29 = .ok (.return_, 1) := by decide +kernel
theorem dX5_close_0 : decode cX5_close 0 = .ok (.aload_n 0, 1) := by decide +kernel
theorem dX5_close_1 : decode cX5_close 1 = .ok (.getfield 27, 3) := by decide +kernel
theorem dX5_close_4 : decode cX5_close 4 = .ok (.bipush 10, 2) := by decide +kernel
theorem dX5_close_6 : decode cX5_close 6 = .ok (.if_icmp .ge 46, 3) := by decide +kernel
theorem dX5_close_9 : decode cX5_close 9 = .ok (.aload_n 0, 1) := by decide +kernel
theorem dX5_close_10 : decode cX5_close 10 = .ok (.getfield 9, 3) := by decide +kernel
theorem dX5_close_13 : decode cX5_close 13 = .ok (.aload_n 0, 1) := by decide +kernel
theorem dX5_close_14 : decode cX5_close 14 = .ok (.getfield 27, 3) := by decide +kernel
theorem dX5_close_17 : decode cX5_close 17 = .ok (.iload_n 1, 1) := by decide +kernel
theorem dX5_close_18 : decode cX5_close 18 = .ok (.iastore, 1) := by decide +kernel
theorem dX5_close_19 : decode cX5_close 19 = .ok (.aload_n 0, 1) := by decide +kernel
theorem dX5_close_20 : decode cX5_close 20 = .ok (.getfield 15, 3) := by decide +kernel
theorem dX5_close_23 : decode cX5_close 23 = .ok (.aload_n 0, 1) := by decide +kernel
theorem dX5_close_24 : decode cX5_close 24 = .ok (.getfield 27, 3) := by decide +kernel
theorem dX5_close_27 : decode cX5_close 27 = .ok (.iload_n 2, 1) := by decide +kernel
theorem dX5_close_28 : decode cX5_close 28 = .ok (.iastore, 1) := by decide +kernel
theorem dX5_close_29 : decode cX5_close 29 = .ok (.aload_n 0, 1) := by decide +kernel
theorem dX5_close_30 : decode cX5_close 30 = .ok (.getfield 18, 3) := by decide +kernel
theorem dX5_close_33 : decode cX5_close 33 = .ok (.aload_n 0, 1) := by decide +kernel
theorem dX5_close_34 : decode cX5_close 34 = .ok (.getfield 27, 3) := by decide +kernel
theorem dX5_close_37 : decode cX5_close 37 = .ok (.aload_n 0, 1) := by decide +kernel
theorem dX5_close_38 : decode cX5_close 38 = .ok (.getfield 31, 3) := by decide +kernel
theorem dX5_close_41 : decode cX5_close 41 = .ok (.iastore, 1) := by decide +kernel
theorem dX5_close_42 : decode cX5_close 42 = .ok (.aload_n 0, 1) := by decide +kernel
theorem dX5_close_43 : decode cX5_close 43 = .ok (.dup, 1) := by decide +kernel
theorem dX5_close_44 : decode cX5_close 44 = .ok (.getfield 27, 3) := by decide +kernel
theorem dX5_close_47 : decode cX5_close 47 = .ok (.iconst 1, 1) := by decide +kernel
theorem dX5_close_48 : decode cX5_close 48 = .ok (.iadd, 1) := by decide +kernel
theorem dX5_close_49 : decode cX5_close 49 = .ok (.putfield 27, 3) := by decide +kernel
theorem dX5_close_52 : decode cX5_close 52 = .ok (.return_, 1) := by decide +kernel
theorem dX5_total_0 : decode cX5_total 0 = .ok (.iconst 0, 1) := by decide +kernel
theorem dX5_total_1 : decode cX5_total 1 = .ok (.istore 4, 2) := by decide +kernel
theorem dX5_total_3 : decode cX5_total 3 = .ok (.iconst 0, 1) := by decide +kernel
theorem dX5_total_4 : decode cX5_total 4 = .ok (.istore 5, 2) := by decide +kernel
theorem dX5_total_6 : decode cX5_total 6 = .ok (.iconst 0, 1) := by decide +kernel
theorem dX5_total_7 : decode cX5_total 7 = .ok (.istore 6, 2) := by decide +kernel
theorem dX5_total_9 : decode cX5_total 9 = .ok (.iload 6, 2) := by decide +kernel
theorem dX5_total_11 : decode cX5_total 11 = .ok (.aload_n 0, 1) := by decide +kernel
theorem dX5_total_12 : decode cX5_total 12 = .ok (.getfield 27, 3) := by decide +kernel
theorem dX5_total_15 : decode cX5_total 15 = .ok (.if_icmp .ge 59, 3) := by decide +kernel
theorem dX5_total_18 : decode cX5_total 18 = .ok (.aload_n 0, 1) := by decide +kernel
theorem dX5_total_19 : decode cX5_total 19 = .ok (.getfield 9, 3) := by decide +kernel
theorem dX5_total_22 : decode cX5_total 22 = .ok (.iload 6, 2) := by decide +kernel
theorem dX5_total_24 : decode cX5_total 24 = .ok (.iaload, 1) := by decide +kernel
theorem dX5_total_25 : decode cX5_total 25 = .ok (.iload_n 1, 1) := by decide +kernel
theorem dX5_total_26 : decode cX5_total 26 = .ok (.if_icmp .ne 33, 3) := by decide +kernel
theorem dX5_total_29 : decode cX5_total 29 = .ok (.aload_n 0, 1) := by decide +kernel
theorem dX5_total_30 : decode cX5_total 30 = .ok (.iload 5, 2) := by decide +kernel
theorem dX5_total_32 : decode cX5_total 32 = .ok (.aload_n 0, 1) := by decide +kernel
theorem dX5_total_33 : decode cX5_total 33 = .ok (.getfield 18, 3) := by decide +kernel
theorem dX5_total_36 : decode cX5_total 36 = .ok (.iload 6, 2) := by decide +kernel
theorem dX5_total_38 : decode cX5_total 38 = .ok (.iaload, 1) := by decide +kernel
theorem dX5_total_39 : decode cX5_total 39 = .ok (.aload_n 2, 1) := by decide +kernel
theorem dX5_total_40 : decode cX5_total 40 = .ok (.iload_n 3, 1) := by decide +kernel
theorem dX5_total_41 : decode cX5_total 41 = .ok (.invokevirtual 46, 3) := by decide +kernel
theorem dX5_total_44 : decode cX5_total 44 = .ok (.ifCond .eq 15, 3) := by decide +kernel
theorem dX5_total_47 : decode cX5_total 47 = .ok (.iload 4, 2) := by decide +kernel
theorem dX5_total_49 : decode cX5_total 49 = .ok (.aload_n 0, 1) := by decide +kernel
theorem dX5_total_50 : decode cX5_total 50 = .ok (.getfield 15, 3) := by decide +kernel
theorem dX5_total_53 : decode cX5_total 53 = .ok (.iload 6, 2) := by decide +kernel
theorem dX5_total_55 : decode cX5_total 55 = .ok (.iaload, 1) := by decide +kernel
theorem dX5_total_56 : decode cX5_total 56 = .ok (.iadd, 1) := by decide +kernel
theorem dX5_total_57 : decode cX5_total 57 = .ok (.istore 4, 2) := by decide +kernel
theorem dX5_total_59 : decode cX5_total 59 = .ok (.aload_n 0, 1) := by decide +kernel
theorem dX5_total_60 : decode cX5_total 60 = .ok (.getfield 18, 3) := by decide +kernel
theorem dX5_total_63 : decode cX5_total 63 = .ok (.iload 6, 2) := by decide +kernel
theorem dX5_total_65 : decode cX5_total 65 = .ok (.iaload, 1) := by decide +kernel
theorem dX5_total_66 : decode cX5_total 66 = .ok (.istore 5, 2) := by decide +kernel
theorem dX5_total_68 : decode cX5_total 68 = .ok (.iinc 6 1, 3) := by decide +kernel
theorem dX5_total_71 : decode cX5_total 71 = .ok (.goto (-62), 3) := by decide +kernel
theorem dX5_total_74 : decode cX5_total 74 = .ok (.iload 4, 2) := by decide +kernel
theorem dX5_total_76 : decode cX5_total 76 = .ok (.ireturn, 1) := by decide +kernel
theorem dX5_isMet_0 : decode cX5_isMet 0 = .ok (.iconst 0, 1) := by decide +kernel
theorem dX5_isMet_1 : decode cX5_isMet 1 = .ok (.istore 5, 2) := by decide +kernel
theorem dX5_isMet_3 : decode cX5_isMet 3 = .ok (.iload_n 1, 1) := by decide +kernel
theorem dX5_isMet_4 : decode cX5_isMet 4 = .ok (.istore 6, 2) := by decide +kernel
theorem dX5_isMet_6 : decode cX5_isMet 6 = .ok (.iload 6, 2) := by decide +kernel
theorem dX5_isMet_8 : decode cX5_isMet 8 = .ok (.iload_n 2, 1) := by decide +kernel
theorem dX5_isMet_9 : decode cX5_isMet 9 = .ok (.if_icmp .ge 131, 3) := by decide +kernel
theorem dX5_isMet_12 : decode cX5_isMet 12 = .ok (.iload 6, 2) := by decide +kernel
theorem dX5_isMet_14 : decode cX5_isMet 14 = .ok (.bipush 100, 2) := by decide +kernel
theorem dX5_isMet_16 : decode cX5_isMet 16 = .ok (.if_icmp .ge 124, 3) := by decide +kernel
theorem dX5_isMet_19 : decode cX5_isMet 19 = .ok (.iload 5, 2) := by decide +kernel
theorem dX5_isMet_21 : decode cX5_isMet 21 = .ok (.iconst 1, 1) := by decide +kernel
theorem dX5_isMet_22 : decode cX5_isMet 22 = .ok (.iand, 1) := by decide +kernel
theorem dX5_isMet_23 : decode cX5_isMet 23 = .ok (.istore 7, 2) := by decide +kernel
theorem dX5_isMet_25 : decode cX5_isMet 25 = .ok (.iload 5, 2) := by decide +kernel
theorem dX5_isMet_27 : decode cX5_isMet 27 = .ok (.iconst 1, 1) := by decide +kernel
theorem dX5_isMet_28 : decode cX5_isMet 28 = .ok (.iushr, 1) := by decide +kernel
theorem dX5_isMet_29 : decode cX5_isMet 29 = .ok (.istore 8, 2) := by decide +kernel
theorem dX5_isMet_31 : decode cX5_isMet 31 = .ok (.aload_n 0, 1) := by decide +kernel
theorem dX5_isMet_32 : decode cX5_isMet 32 = .ok (.getfield 21, 3) := by decide +kernel
theorem dX5_isMet_35 : decode cX5_isMet 35 = .ok (.iload 6, 2) := by decide +kernel
theorem dX5_isMet_37 : decode cX5_isMet 37 = .ok (.iaload, 1) := by decide +kernel
theorem dX5_isMet_38 : decode cX5_isMet 38 = .ok (.tableswitch 66 (-3) (-1) #[56, 35, 26], 26) := by decide +kernel
theorem dX5_isMet_64 : decode cX5_isMet 64 = .ok (.iload 5, 2) := by decide +kernel
theorem dX5_isMet_66 : decode cX5_isMet 66 = .ok (.iconst 1, 1) := by decide +kernel
theorem dX5_isMet_67 : decode cX5_isMet 67 = .ok (.ixor, 1) := by decide +kernel
theorem dX5_isMet_68 : decode cX5_isMet 68 = .ok (.istore 5, 2) := by decide +kernel
theorem dX5_isMet_70 : decode cX5_isMet 70 = .ok (.goto 64, 3) := by decide +kernel
theorem dX5_isMet_73 : decode cX5_isMet 73 = .ok (.iload 7, 2) := by decide +kernel
theorem dX5_isMet_75 : decode cX5_isMet 75 = .ok (.iconst 1, 1) := by decide +kernel
theorem dX5_isMet_76 : decode cX5_isMet 76 = .ok (.if_icmp .ne 8, 3) := by decide +kernel
theorem dX5_isMet_79 : decode cX5_isMet 79 = .ok (.iload 8, 2) := by decide +kernel
theorem dX5_isMet_81 : decode cX5_isMet 81 = .ok (.goto 8, 3) := by decide +kernel
theorem dX5_isMet_84 : decode cX5_isMet 84 = .ok (.iload 8, 2) := by decide +kernel
theorem dX5_isMet_86 : decode cX5_isMet 86 = .ok (.bipush (-2), 2) := by decide +kernel
theorem dX5_isMet_88 : decode cX5_isMet 88 = .ok (.iand, 1) := by decide +kernel
theorem dX5_isMet_89 : decode cX5_isMet 89 = .ok (.istore 5, 2) := by decide +kernel
theorem dX5_isMet_91 : decode cX5_isMet 91 = .ok (.goto 43, 3) := by decide +kernel
theorem dX5_isMet_94 : decode cX5_isMet 94 = .ok (.iload 8, 2) := by decide +kernel
theorem dX5_isMet_96 : decode cX5_isMet 96 = .ok (.iload 7, 2) := by decide +kernel
theorem dX5_isMet_98 : decode cX5_isMet 98 = .ok (.ior, 1) := by decide +kernel
theorem dX5_isMet_99 : decode cX5_isMet 99 = .ok (.istore 5, 2) := by decide +kernel
theorem dX5_isMet_101 : decode cX5_isMet 101 = .ok (.goto 33, 3) := by decide +kernel
theorem dX5_isMet_104 : decode cX5_isMet 104 = .ok (.iload 5, 2) := by decide +kernel
theorem dX5_isMet_106 : decode cX5_isMet 106 = .ok (.iconst 1, 1) := by decide +kernel
theorem dX5_isMet_107 : decode cX5_isMet 107 = .ok (.ishl, 1) := by decide +kernel
theorem dX5_isMet_108 : decode cX5_isMet 108 = .ok (.aload_n 0, 1) := by decide +kernel
theorem dX5_isMet_109 : decode cX5_isMet 109 = .ok (.getfield 21, 3) := by decide +kernel
theorem dX5_isMet_112 : decode cX5_isMet 112 = .ok (.iload 6, 2) := by decide +kernel
theorem dX5_isMet_114 : decode cX5_isMet 114 = .ok (.iaload, 1) := by decide +kernel
theorem dX5_isMet_115 : decode cX5_isMet 115 = .ok (.aload_n 0, 1) := by decide +kernel
theorem dX5_isMet_116 : decode cX5_isMet 116 = .ok (.getfield 21, 3) := by decide +kernel
theorem dX5_isMet_119 : decode cX5_isMet 119 = .ok (.iload 6, 2) := by decide +kernel
theorem dX5_isMet_121 : decode cX5_isMet 121 = .ok (.iaload, 1) := by decide +kernel
theorem dX5_isMet_122 : decode cX5_isMet 122 = .ok (.aload_n 3, 1) := by decide +kernel
theorem dX5_isMet_123 : decode cX5_isMet 123 = .ok (.iload 4, 2) := by decide +kernel
theorem dX5_isMet_125 : decode cX5_isMet 125 = .ok (.invokestatic 50, 3) := by decide +kernel
theorem dX5_isMet_128 : decode cX5_isMet 128 = .ok (.invokestatic 54, 3) := by decide +kernel
theorem dX5_isMet_131 : decode cX5_isMet 131 = .ok (.ior, 1) := by decide +kernel
theorem dX5_isMet_132 : decode cX5_isMet 132 = .ok (.istore 5, 2) := by decide +kernel
theorem dX5_isMet_134 : decode cX5_isMet 134 = .ok (.iinc 6 1, 3) := by decide +kernel
theorem dX5_isMet_137 : decode cX5_isMet 137 = .ok (.goto (-131), 3) := by decide +kernel
theorem dX5_isMet_140 : decode cX5_isMet 140 = .ok (.iload 5, 2) := by decide +kernel
theorem dX5_isMet_142 : decode cX5_isMet 142 = .ok (.iconst 1, 1) := by decide +kernel
theorem dX5_isMet_143 : decode cX5_isMet 143 = .ok (.iand, 1) := by decide +kernel
theorem dX5_isMet_144 : decode cX5_isMet 144 = .ok (.iconst 1, 1) := by decide +kernel
theorem dX5_isMet_145 : decode cX5_isMet 145 = .ok (.if_icmp .ne 7, 3) := by decide +kernel
theorem dX5_isMet_148 : decode cX5_isMet 148 = .ok (.iconst 1, 1) := by decide +kernel
theorem dX5_isMet_149 : decode cX5_isMet 149 = .ok (.goto 4, 3) := by decide +kernel
theorem dX5_isMet_152 : decode cX5_isMet 152 = .ok (.iconst 0, 1) := by decide +kernel
theorem dX5_isMet_153 : decode cX5_isMet 153 = .ok (.ireturn, 1) := by decide +kernel
theorem dX5_result_0 : decode cX5_result 0 = .ok (.iload_n 0, 1) := by decide +kernel
theorem dX5_result_1 : decode cX5_result 1 = .ok (.sipush 128, 3) := by decide +kernel
theorem dX5_result_4 : decode cX5_result 4 = .ok (.irem, 1) := by decide +kernel
theorem dX5_result_5 : decode cX5_result 5 = .ok (.istore_n 2, 1) := by decide +kernel
theorem dX5_result_6 : decode cX5_result 6 = .ok (.iload_n 0, 1) := by decide +kernel
theorem dX5_result_7 : decode cX5_result 7 = .ok (.sipush 512, 3) := by decide +kernel
theorem dX5_result_10 : decode cX5_result 10 = .ok (.irem, 1) := by decide +kernel
theorem dX5_result_11 : decode cX5_result 11 = .ok (.sipush 128, 3) := by decide +kernel
theorem dX5_result_14 : decode cX5_result 14 = .ok (.idiv, 1) := by decide +kernel
theorem dX5_result_15 : decode cX5_result 15 = .ok (.lookupswitch 53 #[(0, 25), (1, 39)], 25) := by decide +kernel
theorem dX5_result_40 : decode cX5_result 40 = .ok (.iload_n 1, 1) := by decide +kernel
theorem dX5_result_41 : decode cX5_result 41 = .ok (.iload_n 2, 1) := by decide +kernel
theorem dX5_result_42 : decode cX5_result 42 = .ok (.if_icmp .ge 7, 3) := by decide +kernel
theorem dX5_result_45 : decode cX5_result 45 = .ok (.iconst 1, 1) := by decide +kernel
theorem dX5_result_46 : decode cX5_result 46 = .ok (.goto 4, 3) := by decide +kernel
theorem dX5_result_49 : decode cX5_result 49 = .ok (.iconst 0, 1) := by decide +kernel
theorem dX5_result_50 : decode cX5_result 50 = .ok (.istore_n 3, 1) := by decide +kernel
theorem dX5_result_51 : decode cX5_result 51 = .ok (.goto 28, 3) := by decide +kernel
theorem dX5_result_54 : decode cX5_result 54 = .ok (.iload_n 1, 1) := by decide +kernel
theorem dX5_result_55 : decode cX5_result 55 = .ok (.iload_n 2, 1) := by decide +kernel
theorem dX5_result_56 : decode cX5_result 56 = .ok (.if_icmp .ne 7, 3) := by decide +kernel
theorem dX5_result_59 : decode cX5_result 59 = .ok (.iconst 1, 1) := by decide +kernel
theorem dX5_result_60 : decode cX5_result 60 = .ok (.goto 4, 3) := by decide +kernel
theorem dX5_result_63 : decode cX5_result 63 = .ok (.iconst 0, 1) := by decide +kernel
theorem dX5_result_64 : decode cX5_result 64 = .ok (.istore_n 3, 1) := by decide +kernel
theorem dX5_result_65 : decode cX5_result 65 = .ok (.goto 14, 3) := by decide +kernel
theorem dX5_result_68 : decode cX5_result 68 = .ok (.iload_n 1, 1) := by decide +kernel
theorem dX5_result_69 : decode cX5_result 69 = .ok (.iload_n 2, 1) := by decide +kernel
theorem dX5_result_70 : decode cX5_result 70 = .ok (.if_icmp .le 7, 3) := by decide +kernel
theorem dX5_result_73 : decode cX5_result 73 = .ok (.iconst 1, 1) := by decide +kernel
theorem dX5_result_74 : decode cX5_result 74 = .ok (.goto 4, 3) := by decide +kernel
theorem dX5_result_77 : decode cX5_result 77 = .ok (.iconst 0, 1) := by decide +kernel
theorem dX5_result_78 : decode cX5_result 78 = .ok (.istore_n 3, 1) := by decide +kernel
theorem dX5_result_79 : decode cX5_result 79 = .ok (.iload_n 3, 1) := by decide +kernel
theorem dX5_result_80 : decode cX5_result 80 = .ok (.ifCond .eq 7, 3) := by decide +kernel
theorem dX5_result_83 : decode cX5_result 83 = .ok (.iconst 1, 1) := by decide +kernel
theorem dX5_result_84 : decode cX5_result 84 = .ok (.goto 4, 3) := by decide +kernel
theorem dX5_result_87 : decode cX5_result 87 = .ok (.iconst 0, 1) := by decide +kernel
theorem dX5_result_88 : decode cX5_result 88 = .ok (.ireturn, 1) := by decide +kernel
theorem dX5_valueOf_0 : decode cX5_valueOf 0 = .ok (.iload_n 0, 1) := by decide +kernel
theorem dX5_valueOf_1 : decode cX5_valueOf 1 = .ok (.sipush 512, 3) := by decide +kernel
theorem dX5_valueOf_4 : decode cX5_valueOf 4 = .ok (.idiv, 1) := by decide +kernel
theorem dX5_valueOf_5 : decode cX5_valueOf 5 = .ok (.tableswitch 60 0 4 #[35, 40, 45, 50, 55], 35) := by decide +kernel
theorem dX5_valueOf_40 : decode cX5_valueOf 40 = .ok (.aload_n 1, 1) := by decide +kernel
theorem dX5_valueOf_41 : decode cX5_valueOf 41 = .ok (.getfield 58, 3) := by decide +kernel
theorem dX5_valueOf_44 : decode cX5_valueOf 44 = .ok (.ireturn, 1) := by decide +kernel
theorem dX5_valueOf_45 : decode cX5_valueOf 45 = .ok (.aload_n 1, 1) := by decide +kernel
theorem dX5_valueOf_46 : decode cX5_valueOf 46 = .ok (.getfield 63, 3) := by decide +kernel
theorem dX5_valueOf_49 : decode cX5_valueOf 49 = .ok (.ireturn, 1) := by decide +kernel
theorem dX5_valueOf_50 : decode cX5_valueOf 50 = .ok (.aload_n 1, 1) := by decide +kernel
theorem dX5_valueOf_51 : decode cX5_valueOf 51 = .ok (.getfield 66, 3) := by decide +kernel
theorem dX5_valueOf_54 : decode cX5_valueOf 54 = .ok (.ireturn, 1) := by decide +kernel
theorem dX5_valueOf_55 : decode cX5_valueOf 55 = .ok (.aload_n 1, 1) := by decide +kernel
theorem dX5_valueOf_56 : decode cX5_valueOf 56 = .ok (.getfield 69, 3) := by decide +kernel
theorem dX5_valueOf_59 : decode cX5_valueOf 59 = .ok (.ireturn, 1) := by decide +kernel
theorem dX5_valueOf_60 : decode cX5_valueOf 60 = .ok (.aload_n 1, 1) := by decide +kernel
theorem dX5_valueOf_61 : decode cX5_valueOf 61 = .ok (.getfield 72, 3) := by decide +kernel
theorem dX5_valueOf_64 : decode cX5_valueOf 64 = .ok (.ireturn, 1) := by decide +kernel
theorem dX5_valueOf_65 : decode cX5_valueOf 65 = .ok (.iload_n 2, 1) := by decide +kernel
theorem dX5_valueOf_66 : decode cX5_valueOf 66 = .ok (.ireturn, 1) := by decide +kernel
theorem dJ6_bitCount_0f7a4_0 : decode cJ6_bitCount_0f7a4 0 = .ok (.iload_n 0, 1) := by decide +kernel
theorem dJ6_bitCount_0f7a4_1 : decode cJ6_bitCount_0f7a4 1 = .ok (.iload_n 0, 1) := by decide +kernel
theorem dJ6_bitCount_0f7a4_2 : decode cJ6_bitCount_0f7a4 2 = .ok (.iconst 1, 1) := by decide +kernel
theorem dJ6_bitCount_0f7a4_3 : decode cJ6_bitCount_0f7a4 3 = .ok (.iushr, 1) := by decide +kernel
theorem dJ6_bitCount_0f7a4_4 : decode cJ6_bitCount_0f7a4 4 = .ok (.ldc_w 265, 3) := by decide +kernel
theorem dJ6_bitCount_0f7a4_7 : decode cJ6_bitCount_0f7a4 7 = .ok (.iand, 1) := by decide +kernel
theorem dJ6_bitCount_0f7a4_8 : decode cJ6_bitCount_0f7a4 8 = .ok (.isub, 1) := by decide +kernel
theorem dJ6_bitCount_0f7a4_9 : decode cJ6_bitCount_0f7a4 9 = .ok (.istore_n 0, 1) := by decide +kernel
theorem dJ6_bitCount_0f7a4_10 : decode cJ6_bitCount_0f7a4 10 = .ok (.iload_n 0, 1) := by decide +kernel
theorem dJ6_bitCount_0f7a4_11 : decode cJ6_bitCount_0f7a4 11 = .ok (.ldc_w 266, 3) := by decide +kernel
theorem dJ6_bitCount_0f7a4_14 : decode cJ6_bitCount_0f7a4 14 = .ok (.iand, 1) := by decide +kernel
theorem dJ6_bitCount_0f7a4_15 : decode cJ6_bitCount_0f7a4 15 = .ok (.iload_n 0, 1) := by decide +kernel
theorem dJ6_bitCount_0f7a4_16 : decode cJ6_bitCount_0f7a4 16 = .ok (.iconst 2, 1) := by decide +kernel
theorem dJ6_bitCount_0f7a4_17 : decode cJ6_bitCount_0f7a4 17 = .ok (.iushr, 1) := by decide +kernel
theorem dJ6_bitCount_0f7a4_18 : decode cJ6_bitCount_0f7a4 18 = .ok (.ldc_w 266, 3) := by decide +kernel
theorem dJ6_bitCount_0f7a4_21 : decode cJ6_bitCount_0f7a4 21 = .ok (.iand, 1) := by decide +kernel
theorem dJ6_bitCount_0f7a4_22 : decode cJ6_bitCount_0f7a4 22 = .ok (.iadd, 1) := by decide +kernel
theorem dJ6_bitCount_0f7a4_23 : decode cJ6_bitCount_0f7a4 23 = .ok (.istore_n 0, 1) := by decide +kernel
theorem dJ6_bitCount_0f7a4_24 : decode cJ6_bitCount_0f7a4 24 = .ok (.iload_n 0, 1) := by decide +kernel
theorem dJ6_bitCount_0f7a4_25 : decode cJ6_bitCount_0f7a4 25 = .ok (.iload_n 0, 1) := by decide +kernel
theorem dJ6_bitCount_0f7a4_26 : decode cJ6_bitCount_0f7a4 26 = .ok (.iconst 4, 1) := by decide +kernel
theorem dJ6_bitCount_0f7a4_27 : decode cJ6_bitCount_0f7a4 27 = .ok (.iushr, 1) := by decide +kernel
theorem dJ6_bitCount_0f7a4_28 : decode cJ6_bitCount_0f7a4 28 = .ok (.iadd, 1) := by decide +kernel
theorem dJ6_bitCount_0f7a4_29 : decode cJ6_bitCount_0f7a4 29 = .ok (.ldc_w 267, 3) := by decide +kernel
theorem dJ6_bitCount_0f7a4_32 : decode cJ6_bitCount_0f7a4 32 = .ok (.iand, 1) := by decide +kernel
theorem dJ6_bitCount_0f7a4_33 : decode cJ6_bitCount_0f7a4 33 = .ok (.istore_n 0, 1) := by decide +kernel
theorem dJ6_bitCount_0f7a4_34 : decode cJ6_bitCount_0f7a4 34 = .ok (.iload_n 0, 1) := by decide +kernel
theorem dJ6_bitCount_0f7a4_35 : decode cJ6_bitCount_0f7a4 35 = .ok (.iload_n 0, 1) := by decide +kernel
theorem dJ6_bitCount_0f7a4_36 : decode cJ6_bitCount_0f7a4 36 = .ok (.bipush 8, 2) := by decide +kernel
theorem dJ6_bitCount_0f7a4_38 : decode cJ6_bitCount_0f7a4 38 = .ok (.iushr, 1) := by decide +kernel
theorem dJ6_bitCount_0f7a4_39 : decode cJ6_bitCount_0f7a4 39 = .ok (.iadd, 1) := by decide +kernel
theorem dJ6_bitCount_0f7a4_40 : decode cJ6_bitCount_0f7a4 40 = .ok (.istore_n 0, 1) := by decide +kernel
theorem dJ6_bitCount_0f7a4_41 : decode cJ6_bitCount_0f7a4 41 = .ok (.iload_n 0, 1) := by decide +kernel
theorem dJ6_bitCount_0f7a4_42 : decode cJ6_bitCount_0f7a4 42 = .ok (.iload_n 0, 1) := by decide +kernel
theorem dJ6_bitCount_0f7a4_43 : decode cJ6_bitCount_0f7a4 43 = .ok (.bipush 16, 2) := by decide +kernel
theorem dJ6_bitCount_0f7a4_45 : decode cJ6_bitCount_0f7a4 45 = .ok (.iushr, 1) := by decide +kernel
theorem dJ6_bitCount_0f7a4_46 : decode cJ6_bitCount_0f7a4 46 = .ok (.iadd, 1) := by decide +kernel
theorem dJ6_bitCount_0f7a4_47 : decode cJ6_bitCount_0f7a4 47 = .ok (.istore_n 0, 1) := by decide +kernel
theorem dJ6_bitCount_0f7a4_48 : decode cJ6_bitCount_0f7a4 48 = .ok (.iload_n 0, 1) := by decide +kernel
theorem dJ6_bitCount_0f7a4_49 : decode cJ6_bitCount_0f7a4 49 = .ok (.bipush 63, 2) := by decide +kernel
theorem dJ6_bitCount_0f7a4_51 : decode cJ6_bitCount_0f7a4 51 = .ok (.iand, 1) := by decide +kernel
theorem dJ6_bitCount_0f7a4_52 : decode cJ6_bitCount_0f7a4 52 = .ok (.ireturn, 1) := by decide +kernel
theorem dJ13_bitCount_95d88_0 : decode cJ13_bitCount_95d88 0 = .ok (.lload_n 0, 1) := by decide +kernel
theorem dJ13_bitCount_95d88_1 : decode cJ13_bitCount_95d88 1 = .ok (.lload_n 0, 1) := by decide +kernel
theorem dJ13_bitCount_95d88_2 : decode cJ13_bitCount_95d88 2 = .ok (.iconst 1, 1) := by decide +kernel
theorem dJ13_bitCount_95d88_3 : decode cJ13_bitCount_95d88 3 = .ok (.lushr, 1) := by decide +kernel
theorem dJ13_bitCount_95d88_4 : decode cJ13_bitCount_95d88 4 = .ok (.ldc2_w 314, 3) := by decide +kernel
theorem dJ13_bitCount_95d88_7 : decode cJ13_bitCount_95d88 7 = .ok (.land, 1) := by decide +kernel
theorem dJ13_bitCount_95d88_8 : decode cJ13_bitCount_95d88 8 = .ok (.lsub, 1) := by decide +kernel
theorem dJ13_bitCount_95d88_9 : decode cJ13_bitCount_95d88 9 = .ok (.lstore_n 0, 1) := by decide +kernel
theorem dJ13_bitCount_95d88_10 : decode cJ13_bitCount_95d88 10 = .ok (.lload_n 0, 1) := by decide +kernel
theorem dJ13_bitCount_95d88_11 : decode cJ13_bitCount_95d88 11 = .ok (.ldc2_w 316, 3) := by decide +kernel
theorem dJ13_bitCount_95d88_14 : decode cJ13_bitCount_95d88 14 = .ok (.land, 1) := by decide +kernel
theorem dJ13_bitCount_95d88_15 : decode cJ13_bitCount_95d88 15 = .ok (.lload_n 0, 1) := by decide +kernel
theorem dJ13_bitCount_95d88_16 : decode cJ13_bitCount_95d88 16 = .ok (.iconst 2, 1) := by decide +kernel
theorem dJ13_bitCount_95d88_17 : decode cJ13_bitCount_95d88 17 = .ok (.lushr, 1) := by decide +kernel
theorem dJ13_bitCount_95d88_18 : decode cJ13_bitCount_95d88 18 = .ok (.ldc2_w 316, 3) := by decide +kernel
theorem dJ13_bitCount_95d88_21 : decode cJ13_bitCount_95d88 21 = .ok (.land, 1) := by decide +kernel
theorem dJ13_bitCount_95d88_22 : decode cJ13_bitCount_95d88 22 = .ok (.ladd, 1) := by decide +kernel
theorem dJ13_bitCount_95d88_23 : decode cJ13_bitCount_95d88 23 = .ok (.lstore_n 0, 1) := by decide +kernel
theorem dJ13_bitCount_95d88_24 : decode cJ13_bitCount_95d88 24 = .ok (.lload_n 0, 1) := by decide +kernel
theorem dJ13_bitCount_95d88_25 : decode cJ13_bitCount_95d88 25 = .ok (.lload_n 0, 1) := by decide +kernel
theorem dJ13_bitCount_95d88_26 : decode cJ13_bitCount_95d88 26 = .ok (.iconst 4, 1) := by decide +kernel
theorem dJ13_bitCount_95d88_27 : decode cJ13_bitCount_95d88 27 = .ok (.lushr, 1) := by decide +kernel
theorem dJ13_bitCount_95d88_28 : decode cJ13_bitCount_95d88 28 = .ok (.ladd, 1) := by decide +kernel
theorem dJ13_bitCount_95d88_29 : decode cJ13_bitCount_95d88 29 = .ok (.ldc2_w 318, 3) := by decide +kernel
theorem dJ13_bitCount_95d88_32 : decode cJ13_bitCount_95d88 32 = .ok (.land, 1) := by decide +kernel
theorem dJ13_bitCount_95d88_33 : decode cJ13_bitCount_95d88 33 = .ok (.lstore_n 0, 1) := by decide +kernel
theorem dJ13_bitCount_95d88_34 : decode cJ13_bitCount_95d88 34 = .ok (.lload_n 0, 1) := by decide +kernel
theorem dJ13_bitCount_95d88_35 : decode cJ13_bitCount_95d88 35 = .ok (.lload_n 0, 1) := by decide +kernel
theorem dJ13_bitCount_95d88_36 : decode cJ13_bitCount_95d88 36 = .ok (.bipush 8, 2) := by decide +kernel
theorem dJ13_bitCount_95d88_38 : decode cJ13_bitCount_95d88 38 = .ok (.lushr, 1) := by decide +kernel
theorem dJ13_bitCount_95d88_39 : decode cJ13_bitCount_95d88 39 = .ok (.ladd, 1) := by decide +kernel
theorem dJ13_bitCount_95d88_40 : decode cJ13_bitCount_95d88 40 = .ok (.lstore_n 0, 1) := by decide +kernel
theorem dJ13_bitCount_95d88_41 : decode cJ13_bitCount_95d88 41 = .ok (.lload_n 0, 1) := by decide +kernel
theorem dJ13_bitCount_95d88_42 : decode cJ13_bitCount_95d88 42 = .ok (.lload_n 0, 1) := by decide +kernel
theorem dJ13_bitCount_95d88_43 : decode cJ13_bitCount_95d88 43 = .ok (.bipush 16, 2) := by decide +kernel
theorem dJ13_bitCount_95d88_45 : decode cJ13_bitCount_95d88 45 = .ok (.lushr, 1) := by decide +kernel
theorem dJ13_bitCount_95d88_46 : decode cJ13_bitCount_95d88 46 = .ok (.ladd, 1) := by decide +kernel
theorem dJ13_bitCount_95d88_47 : decode cJ13_bitCount_95d88 47 = .ok (.lstore_n 0, 1) := by decide +kernel
theorem dJ13_bitCount_95d88_48 : decode cJ13_bitCount_95d88 48 = .ok (.lload_n 0, 1) := by decide +kernel
theorem dJ13_bitCount_95d88_49 : decode cJ13_bitCount_95d88 49 = .ok (.lload_n 0, 1) := by decide +kernel
theorem dJ13_bitCount_95d88_50 : decode cJ13_bitCount_95d88 50 = .ok (.bipush 32, 2) := by decide +kernel
theorem dJ13_bitCount_95d88_52 : decode cJ13_bitCount_95d88 52 = .ok (.lushr, 1) := by decide +kernel
theorem dJ13_bitCount_95d88_53 : decode cJ13_bitCount_95d88 53 = .ok (.ladd, 1) := by decide +kernel
theorem dJ13_bitCount_95d88_54 : decode cJ13_bitCount_95d88 54 = .ok (.lstore_n 0, 1) := by decide +kernel
theorem dJ13_bitCount_95d88_55 : decode cJ13_bitCount_95d88 55 = .ok (.lload_n 0, 1) := by decide +kernel
theorem dJ13_bitCount_95d88_56 : decode cJ13_bitCount_95d88 56 = .ok (.l2i, 1) := by decide +kernel
theorem dJ13_bitCount_95d88_57 : decode cJ13_bitCount_95d88 57 = .ok (.bipush 127, 2) := by decide +kernel
theorem dJ13_bitCount_95d88_59 : decode cJ13_bitCount_95d88 59 = .ok (.iand, 1) := by decide +kernel
theorem dJ13_bitCount_95d88_60 : decode cJ13_bitCount_95d88 60 = .ok (.ireturn, 1) := by decide +kernel
theorem dJ0_length_8abf5_0 : decode cJ0_length_8abf5 0 = .ok (.aload_n 0, 1) := by decide +kernel
theorem dJ0_length_8abf5_1 : decode cJ0_length_8abf5 1 = .ok (.getfield 9, 3) := by decide +kernel
theorem dJ0_length_8abf5_4 : decode cJ0_length_8abf5 4 = .ok (.arraylength, 1) := by decide +kernel
theorem dJ0_length_8abf5_5 : decode cJ0_length_8abf5 5 = .ok (.aload_n 0, 1) := by decide +kernel
theorem dJ0_length_8abf5_6 : decode cJ0_length_8abf5 6 = .ok (.invokevirtual 335, 3) := by decide +kernel
theorem dJ0_length_8abf5_9 : decode cJ0_length_8abf5 9 = .ok (.ishr, 1) := by decide +kernel
theorem dJ0_length_8abf5_10 : decode cJ0_length_8abf5 10 = .ok (.ireturn, 1) := by decide +kernel
theorem dJ0_charAt_5068e_0 : decode cJ0_charAt_5068e 0 = .ok (.aload_n 0, 1) := by decide +kernel
theorem dJ0_charAt_5068e_1 : decode cJ0_charAt_5068e 1 = .ok (.invokevirtual 492, 3) := by decide +kernel
theorem dJ0_charAt_5068e_4 : decode cJ0_charAt_5068e 4 = .ok (.ifCond .eq 12, 3) := by decide +kernel
theorem dJ0_charAt_5068e_7 : decode cJ0_charAt_5068e 7 = .ok (.aload_n 0, 1) := by decide +kernel
theorem dJ0_charAt_5068e_8 : decode cJ0_charAt_5068e 8 = .ok (.getfield 9, 3) := by decide +kernel
theorem dJ0_charAt_5068e_11 : decode cJ0_charAt_5068e 11 = .ok (.iload_n 1, 1) := by decide +kernel
theorem dJ0_charAt_5068e_12 : decode cJ0_charAt_5068e 12 = .ok (.invokestatic 495, 3) := by decide +kernel
theorem dJ0_charAt_5068e_15 : decode cJ0_charAt_5068e 15 = .ok (.ireturn, 1) := by decide +kernel
theorem dJ0_charAt_5068e_16 : decode cJ0_charAt_5068e 16 = .ok (.aload_n 0, 1) := by decide +kernel
theorem dJ0_charAt_5068e_17 : decode cJ0_charAt_5068e 17 = .ok (.getfield 9, 3) := by decide +kernel
theorem dJ0_charAt_5068e_20 : decode cJ0_charAt_5068e 20 = .ok (.iload_n 1, 1) := by decide +kernel
theorem dJ0_charAt_5068e_21 : decode cJ0_charAt_5068e 21 = .ok (.invokestatic 498, 3) := by decide +kernel
theorem dJ0_charAt_5068e_24 : decode cJ0_charAt_5068e 24 = .ok (.ireturn, 1) := by decide +kernel
theorem dJ0_indexOf_0f7a4_0 : decode cJ0_indexOf_0f7a4 0 = .ok (.aload_n 0, 1) := by decide +kernel
theorem dJ0_indexOf_0f7a4_1 : decode cJ0_indexOf_0f7a4 1 = .ok (.iload_n 1, 1) := by decide +kernel
theorem dJ0_indexOf_0f7a4_2 : decode cJ0_indexOf_0f7a4 2 = .ok (.iconst 0, 1) := by decide +kernel
theorem dJ0_indexOf_0f7a4_3 : decode cJ0_indexOf_0f7a4 3 = .ok (.invokevirtual 633, 3) := by decide +kernel
theorem dJ0_indexOf_0f7a4_6 : decode cJ0_indexOf_0f7a4 6 = .ok (.ireturn, 1) := by decide +kernel
theorem dJ0_indexOf_7cf53_0 : decode cJ0_indexOf_7cf53 0 = .ok (.aload_n 0, 1) := by decide +kernel
theorem dJ0_indexOf_7cf53_1 : decode cJ0_indexOf_7cf53 1 = .ok (.invokevirtual 492, 3) := by decide +kernel
theorem dJ0_indexOf_7cf53_4 : decode cJ0_indexOf_7cf53 4 = .ok (.ifCond .eq 19, 3) := by decide +kernel
theorem dJ0_indexOf_7cf53_7 : decode cJ0_indexOf_7cf53 7 = .ok (.aload_n 0, 1) := by decide +kernel
theorem dJ0_indexOf_7cf53_8 : decode cJ0_indexOf_7cf53 8 = .ok (.getfield 9, 3) := by decide +kernel
theorem dJ0_indexOf_7cf53_11 : decode cJ0_indexOf_7cf53 11 = .ok (.iload_n 1, 1) := by decide +kernel
theorem dJ0_indexOf_7cf53_12 : decode cJ0_indexOf_7cf53 12 = .ok (.iload_n 2, 1) := by decide +kernel
theorem dJ0_indexOf_7cf53_13 : decode cJ0_indexOf_7cf53 13 = .ok (.aload_n 0, 1) := by decide +kernel
theorem dJ0_indexOf_7cf53_14 : decode cJ0_indexOf_7cf53 14 = .ok (.invokevirtual 505, 3) := by decide +kernel
theorem dJ0_indexOf_7cf53_17 : decode cJ0_indexOf_7cf53 17 = .ok (.invokestatic 637, 3) := by decide +kernel
theorem dJ0_indexOf_7cf53_20 : decode cJ0_indexOf_7cf53 20 = .ok (.goto 16, 3) := by decide +kernel
theorem dJ0_indexOf_7cf53_23 : decode cJ0_indexOf_7cf53 23 = .ok (.aload_n 0, 1) := by decide +kernel
theorem dJ0_indexOf_7cf53_24 : decode cJ0_indexOf_7cf53 24 = .ok (.getfield 9, 3) := by decide +kernel
theorem dJ0_indexOf_7cf53_27 : decode cJ0_indexOf_7cf53 27 = .ok (.iload_n 1, 1) := by decide +kernel
theorem dJ0_indexOf_7cf53_28 : decode cJ0_indexOf_7cf53 28 = .ok (.iload_n 2, 1) := by decide +kernel
theorem dJ0_indexOf_7cf53_29 : decode cJ0_indexOf_7cf53 29 = .ok (.aload_n 0, 1) := by decide +kernel
theorem dJ0_indexOf_7cf53_30 : decode cJ0_indexOf_7cf53 30 = .ok (.invokevirtual 505, 3) := by decide +kernel
theorem dJ0_indexOf_7cf53_33 : decode cJ0_indexOf_7cf53 33 = .ok (.invokestatic 640, 3) := by decide +kernel
theorem dJ0_indexOf_7cf53_36 : decode cJ0_indexOf_7cf53 36 = .ok (.ireturn, 1) := by decide +kernel
theorem dJ0_coder_7d493_0 : decode cJ0_coder_7d493 0 = .ok (.getstatic 38, 3) := by decide +kernel
theorem dJ0_coder_7d493_3 : decode cJ0_coder_7d493 3 = .ok (.ifCond .eq 10, 3) := by decide +kernel
theorem dJ0_coder_7d493_6 : decode cJ0_coder_7d493 6 = .ok (.aload_n 0, 1) := by decide +kernel
theorem dJ0_coder_7d493_7 : decode cJ0_coder_7d493 7 = .ok (.getfield 15, 3) := by decide +kernel
theorem dJ0_coder_7d493_10 : decode cJ0_coder_7d493 10 = .ok (.goto 4, 3) := by decide +kernel
theorem dJ0_coder_7d493_13 : decode cJ0_coder_7d493 13 = .ok (.iconst 1, 1) := by decide +kernel
theorem dJ0_coder_7d493_14 : decode cJ0_coder_7d493 14 = .ok (.ireturn, 1) := by decide +kernel
theorem dJ0_isLatin1_aae02_0 : decode cJ0_isLatin1_aae02 0 = .ok (.getstatic 38, 3) := by decide +kernel
theorem dJ0_isLatin1_aae02_3 : decode cJ0_isLatin1_aae02 3 = .ok (.ifCond .eq 14, 3) := by decide +kernel
theorem dJ0_isLatin1_aae02_6 : decode cJ0_isLatin1_aae02 6 = .ok (.aload_n 0, 1) := by decide +kernel
theorem dJ0_isLatin1_aae02_7 : decode cJ0_isLatin1_aae02 7 = .ok (.getfield 15, 3) := by decide +kernel
theorem dJ0_isLatin1_aae02_10 : decode cJ0_isLatin1_aae02 10 = .ok (.ifCond .ne 7, 3) := by decide +kernel
theorem dJ0_isLatin1_aae02_13 : decode cJ0_isLatin1_aae02 13 = .ok (.iconst 1, 1) := by decide +kernel
theorem dJ0_isLatin1_aae02_14 : decode cJ0_isLatin1_aae02 14 = .ok (.goto 4, 3) := by decide +kernel
theorem dJ0_isLatin1_aae02_17 : decode cJ0_isLatin1_aae02 17 = .ok (.iconst 0, 1) := by decide +kernel
theorem dJ0_isLatin1_aae02_18 : decode cJ0_isLatin1_aae02 18 = .ok (.ireturn, 1) := by decide +kernel
theorem dJ0_checkIndex_df160_0 : decode cJ0_checkIndex_df160 0 = .ok (.iload_n 0, 1) := by decide +kernel
theorem dJ0_checkIndex_df160_1 : decode cJ0_checkIndex_df160 1 = .ok (.iload_n 1, 1) := by decide +kernel
theorem dJ0_checkIndex_df160_2 : decode cJ0_checkIndex_df160 2 = .ok (.getstatic 1053, 3) := by decide +kernel
theorem dJ0_checkIndex_df160_5 : decode cJ0_checkIndex_df160 5 = .ok (.invokestatic 1059, 3) := by decide +kernel
theorem dJ0_checkIndex_df160_8 : decode cJ0_checkIndex_df160 8 = .ok (.pop, 1) := by decide +kernel
theorem dJ0_checkIndex_df160_9 : decode cJ0_checkIndex_df160 9 = .ok (.return_, 1) := by decide +kernel
theorem dJ0_checkBoundsBeginEnd_23922_0 : decode cJ0_checkBoundsBeginEnd_23922 0 = .ok (.iload_n 0, 1) := by decide +kernel
theorem dJ0_checkBoundsBeginEnd_23922_1 : decode cJ0_checkBoundsBeginEnd_23922 1 = .ok (.iload_n 1, 1) := by decide +kernel
theorem dJ0_checkBoundsBeginEnd_23922_2 : decode cJ0_checkBoundsBeginEnd_23922 2 = .ok (.iload_n 2, 1) := by decide +kernel
theorem dJ0_checkBoundsBeginEnd_23922_3 : decode cJ0_checkBoundsBeginEnd_23922 3 = .ok (.getstatic 1053, 3) := by decide +kernel
theorem dJ0_checkBoundsBeginEnd_23922_6 : decode cJ0_checkBoundsBeginEnd_23922 6 = .ok (.invokestatic 1062, 3) := by decide +kernel
theorem dJ0_checkBoundsBeginEnd_23922_9 : decode cJ0_checkBoundsBeginEnd_23922 9 = .ok (.pop, 1) := by decide +kernel
theorem dJ0_checkBoundsBeginEnd_23922_10 : decode cJ0_checkBoundsBeginEnd_23922 10 = .ok (.return_, 1) := by decide +kernel
theorem dJ1_charAt_3b067_0 : decode cJ1_charAt_3b067 0 = .ok (.iload_n 1, 1) := by decide +kernel
theorem dJ1_charAt_3b067_1 : decode cJ1_charAt_3b067 1 = .ok (.aload_n 0, 1) := by decide +kernel
theorem dJ1_charAt_3b067_2 : decode cJ1_charAt_3b067 2 = .ok (.arraylength, 1) := by decide +kernel
theorem dJ1_charAt_3b067_3 : decode cJ1_charAt_3b067 3 = .ok (.invokestatic 9, 3) := by decide +kernel
theorem dJ1_charAt_3b067_6 : decode cJ1_charAt_3b067 6 = .ok (.aload_n 0, 1) := by decide +kernel
theorem dJ1_charAt_3b067_7 : decode cJ1_charAt_3b067 7 = .ok (.iload_n 1, 1) := by decide +kernel
theorem dJ1_charAt_3b067_8 : decode cJ1_charAt_3b067 8 = .ok (.baload, 1) := by decide +kernel
theorem dJ1_charAt_3b067_9 : decode cJ1_charAt_3b067 9 = .ok (.sipush 255, 3) := by decide +kernel
theorem dJ1_charAt_3b067_12 : decode cJ1_charAt_3b067 12 = .ok (.iand, 1) := by decide +kernel
theorem dJ1_charAt_3b067_13 : decode cJ1_charAt_3b067 13 = .ok (.i2c, 1) := by decide +kernel
theorem dJ1_charAt_3b067_14 : decode cJ1_charAt_3b067 14 = .ok (.ireturn, 1) := by decide +kernel
theorem dJ1_canEncode_9a6ad_0 : decode cJ1_canEncode_9a6ad 0 = .ok (.iload_n 0, 1) := by decide +kernel
theorem dJ1_canEncode_9a6ad_1 : decode cJ1_canEncode_9a6ad 1 = .ok (.ifCond .lt 14, 3) := by decide +kernel
theorem dJ1_canEncode_9a6ad_4 : decode cJ1_canEncode_9a6ad 4 = .ok (.iload_n 0, 1) := by decide +kernel
theorem dJ1_canEncode_9a6ad_5 : decode cJ1_canEncode_9a6ad 5 = .ok (.sipush 255, 3) := by decide +kernel
theorem dJ1_canEncode_9a6ad_8 : decode cJ1_canEncode_9a6ad 8 = .ok (.if_icmp .gt 7, 3) := by decide +kernel
theorem dJ1_canEncode_9a6ad_11 : decode cJ1_canEncode_9a6ad 11 = .ok (.iconst 1, 1) := by decide +kernel
theorem dJ1_canEncode_9a6ad_12 : decode cJ1_canEncode_9a6ad 12 = .ok (.goto 4, 3) := by decide +kernel
theorem dJ1_canEncode_9a6ad_15 : decode cJ1_canEncode_9a6ad 15 = .ok (.iconst 0, 1) := by decide +kernel
theorem dJ1_canEncode_9a6ad_16 : decode cJ1_canEncode_9a6ad 16 = .ok (.ireturn, 1) := by decide +kernel
theorem dJ1_indexOf_4cfef_0 : decode cJ1_indexOf_4cfef 0 = .ok (.iload_n 1, 1) := by decide +kernel
theorem dJ1_indexOf_4cfef_1 : decode cJ1_indexOf_4cfef 1 = .ok (.invokestatic 88, 3) := by decide +kernel
theorem dJ1_indexOf_4cfef_4 : decode cJ1_indexOf_4cfef 4 = .ok (.ifCond .ne 5, 3) := by decide +kernel
theorem dJ1_indexOf_4cfef_7 : decode cJ1_indexOf_4cfef 7 = .ok (.iconst (-1), 1) := by decide +kernel
theorem dJ1_indexOf_4cfef_8 : decode cJ1_indexOf_4cfef 8 = .ok (.ireturn, 1) := by decide +kernel
theorem dJ1_indexOf_4cfef_9 : decode cJ1_indexOf_4cfef 9 = .ok (.iload_n 2, 1) := by decide +kernel
theorem dJ1_indexOf_4cfef_10 : decode cJ1_indexOf_4cfef 10 = .ok (.iconst 0, 1) := by decide +kernel
theorem dJ1_indexOf_4cfef_11 : decode cJ1_indexOf_4cfef 11 = .ok (.invokestatic 92, 3) := by decide +kernel
theorem dJ1_indexOf_4cfef_14 : decode cJ1_indexOf_4cfef 14 = .ok (.istore_n 2, 1) := by decide +kernel
theorem dJ1_indexOf_4cfef_15 : decode cJ1_indexOf_4cfef 15 = .ok (.iload_n 3, 1) := by decide +kernel
theorem dJ1_indexOf_4cfef_16 : decode cJ1_indexOf_4cfef 16 = .ok (.aload_n 0, 1) := by decide +kernel
theorem dJ1_indexOf_4cfef_17 : decode cJ1_indexOf_4cfef 17 = .ok (.arraylength, 1) := by decide +kernel
theorem dJ1_indexOf_4cfef_18 : decode cJ1_indexOf_4cfef 18 = .ok (.invokestatic 38, 3) := by decide +kernel
theorem dJ1_indexOf_4cfef_21 : decode cJ1_indexOf_4cfef 21 = .ok (.istore_n 3, 1) := by decide +kernel
theorem dJ1_indexOf_4cfef_22 : decode cJ1_indexOf_4cfef 22 = .ok (.iload_n 2, 1) := by decide +kernel
theorem dJ1_indexOf_4cfef_23 : decode cJ1_indexOf_4cfef 23 = .ok (.iload_n 3, 1) := by decide +kernel
theorem dJ1_indexOf_4cfef_24 : decode cJ1_indexOf_4cfef 24 = .ok (.if_icmp .lt 5, 3) := by decide +kernel
theorem dJ1_indexOf_4cfef_27 : decode cJ1_indexOf_4cfef 27 = .ok (.iconst (-1), 1) := by decide +kernel
theorem dJ1_indexOf_4cfef_28 : decode cJ1_indexOf_4cfef 28 = .ok (.ireturn, 1) := by decide +kernel
theorem dJ1_indexOf_4cfef_29 : decode cJ1_indexOf_4cfef 29 = .ok (.aload_n 0, 1) := by decide +kernel
theorem dJ1_indexOf_4cfef_30 : decode cJ1_indexOf_4cfef 30 = .ok (.iload_n 1, 1) := by decide +kernel
theorem dJ1_indexOf_4cfef_31 : decode cJ1_indexOf_4cfef 31 = .ok (.iload_n 2, 1) := by decide +kernel
theorem dJ1_indexOf_4cfef_32 : decode cJ1_indexOf_4cfef 32 = .ok (.iload_n 3, 1) := by decide +kernel
theorem dJ1_indexOf_4cfef_33 : decode cJ1_indexOf_4cfef 33 = .ok (.invokestatic 95, 3) := by decide +kernel
theorem dJ1_indexOf_4cfef_36 : decode cJ1_indexOf_4cfef 36 = .ok (.ireturn, 1) := by decide +kernel
theorem dJ1_indexOfChar_4cfef_0 : decode cJ1_indexOfChar_4cfef 0 = .ok (.iload_n 1, 1) := by decide +kernel
theorem dJ1_indexOfChar_4cfef_1 : decode cJ1_indexOfChar_4cfef 1 = .ok (.i2b, 1) := by decide +kernel
theorem dJ1_indexOfChar_4cfef_2 : decode cJ1_indexOfChar_4cfef 2 = .ok (.istore 4, 2) := by decide +kernel
theorem dJ1_indexOfChar_4cfef_4 : decode cJ1_indexOfChar_4cfef 4 = .ok (.iload_n 2, 1) := by decide +kernel
theorem dJ1_indexOfChar_4cfef_5 : decode cJ1_indexOfChar_4cfef 5 = .ok (.istore 5, 2) := by decide +kernel
theorem dJ1_indexOfChar_4cfef_7 : decode cJ1_indexOfChar_4cfef 7 = .ok (.iload 5, 2) := by decide +kernel
theorem dJ1_indexOfChar_4cfef_9 : decode cJ1_indexOfChar_4cfef 9 = .ok (.iload_n 3, 1) := by decide +kernel
theorem dJ1_indexOfChar_4cfef_10 : decode cJ1_indexOfChar_4cfef 10 = .ok (.if_icmp .ge 21, 3) := by decide +kernel
theorem dJ1_indexOfChar_4cfef_13 : decode cJ1_indexOfChar_4cfef 13 = .ok (.aload_n 0, 1) := by decide +kernel
theorem dJ1_indexOfChar_4cfef_14 : decode cJ1_indexOfChar_4cfef 14 = .ok (.iload 5, 2) := by decide +kernel
theorem dJ1_indexOfChar_4cfef_16 : decode cJ1_indexOfChar_4cfef 16 = .ok (.baload, 1) := by decide +kernel
theorem dJ1_indexOfChar_4cfef_17 : decode cJ1_indexOfChar_4cfef 17 = .ok (.iload 4, 2) := by decide +kernel
theorem dJ1_indexOfChar_4cfef_19 : decode cJ1_indexOfChar_4cfef 19 = .ok (.if_icmp .ne 6, 3) := by decide +kernel
theorem dJ1_indexOfChar_4cfef_22 : decode cJ1_indexOfChar_4cfef 22 = .ok (.iload 5, 2) := by decide +kernel
theorem dJ1_indexOfChar_4cfef_24 : decode cJ1_indexOfChar_4cfef 24 = .ok (.ireturn, 1) := by decide +kernel
theorem dJ1_indexOfChar_4cfef_25 : decode cJ1_indexOfChar_4cfef 25 = .ok (.iinc 5 1, 3) := by decide +kernel
theorem dJ1_indexOfChar_4cfef_28 : decode cJ1_indexOfChar_4cfef 28 = .ok (.goto (-21), 3) := by decide +kernel
theorem dJ1_indexOfChar_4cfef_31 : decode cJ1_indexOfChar_4cfef 31 = .ok (.iconst (-1), 1) := by decide +kernel
theorem dJ1_indexOfChar_4cfef_32 : decode cJ1_indexOfChar_4cfef 32 = .ok (.ireturn, 1) := by decide +kernel
theorem dJ3_checkIndex_8e157_0 : decode cJ3_checkIndex_8e157 0 = .ok (.iload_n 0, 1) := by decide +kernel
theorem dJ3_checkIndex_8e157_1 : decode cJ3_checkIndex_8e157 1 = .ok (.ifCond .lt 8, 3) := by decide +kernel
theorem dJ3_checkIndex_8e157_4 : decode cJ3_checkIndex_8e157 4 = .ok (.iload_n 0, 1) := by decide +kernel
theorem dJ3_checkIndex_8e157_5 : decode cJ3_checkIndex_8e157 5 = .ok (.iload_n 1, 1) := by decide +kernel
theorem dJ3_checkIndex_8e157_6 : decode cJ3_checkIndex_8e157 6 = .ok (.if_icmp .lt 10, 3) := by decide +kernel
theorem dJ3_checkIndex_8e157_9 : decode cJ3_checkIndex_8e157 9 = .ok (.aload_n 2, 1) := by decide +kernel
theorem dJ3_checkIndex_8e157_10 : decode cJ3_checkIndex_8e157 10 = .ok (.iload_n 0, 1) := by decide +kernel
theorem dJ3_checkIndex_8e157_11 : decode cJ3_checkIndex_8e157 11 = .ok (.iload_n 1, 1) := by decide +kernel
theorem dJ3_checkIndex_8e157_12 : decode cJ3_checkIndex_8e157 12 = .ok (.invokestatic 95, 3) := by decide +kernel
theorem dJ3_checkIndex_8e157_15 : decode cJ3_checkIndex_8e157 15 = .ok (.athrow, 1) := by decide +kernel
theorem dJ3_checkIndex_8e157_16 : decode cJ3_checkIndex_8e157 16 = .ok (.iload_n 0, 1) := by decide +kernel
theorem dJ3_checkIndex_8e157_17 : decode cJ3_checkIndex_8e157 17 = .ok (.ireturn, 1) := by decide +kernel
theorem dJ3_checkFromToIndex_8c36e_0 : decode cJ3_checkFromToIndex_8c36e 0 = .ok (.iload_n 0, 1) := by decide +kernel
theorem dJ3_checkFromToIndex_8c36e_1 : decode cJ3_checkFromToIndex_8c36e 1 = .ok (.ifCond .lt 13, 3) := by decide +kernel
theorem dJ3_checkFromToIndex_8c36e_4 : decode cJ3_checkFromToIndex_8c36e 4 = .ok (.iload_n 0, 1) := by decide +kernel
theorem dJ3_checkFromToIndex_8c36e_5 : decode cJ3_checkFromToIndex_8c36e 5 = .ok (.iload_n 1, 1) := by decide +kernel
theorem dJ3_checkFromToIndex_8c36e_6 : decode cJ3_checkFromToIndex_8c36e 6 = .ok (.if_icmp .gt 8, 3) := by decide +kernel
theorem dJ3_checkFromToIndex_8c36e_9 : decode cJ3_checkFromToIndex_8c36e 9 = .ok (.iload_n 1, 1) := by decide +kernel
theorem dJ3_checkFromToIndex_8c36e_10 : decode cJ3_checkFromToIndex_8c36e 10 = .ok (.iload_n 2, 1) := by decide +kernel
theorem dJ3_checkFromToIndex_8c36e_11 : decode cJ3_checkFromToIndex_8c36e 11 = .ok (.if_icmp .le 11, 3) := by decide +kernel
theorem dJ3_checkFromToIndex_8c36e_14 : decode cJ3_checkFromToIndex_8c36e 14 = .ok (.aload_n 3, 1) := by decide +kernel
theorem dJ3_checkFromToIndex_8c36e_15 : decode cJ3_checkFromToIndex_8c36e 15 = .ok (.iload_n 0, 1) := by decide +kernel
theorem dJ3_checkFromToIndex_8c36e_16 : decode cJ3_checkFromToIndex_8c36e 16 = .ok (.iload_n 1, 1) := by decide +kernel
theorem dJ3_checkFromToIndex_8c36e_17 : decode cJ3_checkFromToIndex_8c36e 17 = .ok (.iload_n 2, 1) := by decide +kernel
theorem dJ3_checkFromToIndex_8c36e_18 : decode cJ3_checkFromToIndex_8c36e 18 = .ok (.invokestatic 99, 3) := by decide +kernel
theorem dJ3_checkFromToIndex_8c36e_21 : decode cJ3_checkFromToIndex_8c36e 21 = .ok (.athrow, 1) := by decide +kernel
theorem dJ3_checkFromToIndex_8c36e_22 : decode cJ3_checkFromToIndex_8c36e 22 = .ok (.iload_n 0, 1) := by decide +kernel
theorem dJ3_checkFromToIndex_8c36e_23 : decode cJ3_checkFromToIndex_8c36e 23 = .ok (.ireturn, 1) := by decide +kernel
