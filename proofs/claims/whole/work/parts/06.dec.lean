theorem dX7_init_0 : decode cX7_init 0 = .ok (.aload_n 0, 1) := by decide +kernel
theorem dX7_init_1 : decode cX7_init 1 = .ok (.invokespecial 3, 3) := by decide +kernel
theorem dX7_init_4 : decode cX7_init 4 = .ok (.aload_n 0, 1) := by decide +kernel
theorem dX7_init_5 : decode cX7_init 5 = .ok (.sipush 979, 3) := by decide +kernel
theorem dX7_init_8 : decode cX7_init 8 = .ok (.newarray .int, 2) := by decide +kernel
theorem dX7_init_10 : decode cX7_init 10 = .ok (.putfield 9, 3) := by decide +kernel
theorem dX7_init_13 : decode cX7_init 13 = .ok (.aload_n 0, 1) := by decide +kernel
theorem dX7_init_14 : decode cX7_init 14 = .ok (.sipush 979, 3) := by decide +kernel
theorem dX7_init_17 : decode cX7_init 17 = .ok (.newarray .int, 2) := by decide +kernel
theorem dX7_init_19 : decode cX7_init 19 = .ok (.putfield 15, 3) := by decide +kernel
theorem dX7_init_22 : decode cX7_init 22 = .ok (.aload_n 0, 1) := by decide +kernel
theorem dX7_init_23 : decode cX7_init 23 = .ok (.bipush 6, 2) := by decide +kernel
theorem dX7_init_25 : decode cX7_init 25 = .ok (.newarray .int, 2) := by decide +kernel
theorem dX7_init_27 : decode cX7_init 27 = .ok (.putfield 18, 3) := by decide +kernel
theorem dX7_init_30 : decode cX7_init 30 = .ok (.aload_n 0, 1) := by decide +kernel
theorem dX7_init_31 : decode cX7_init 31 = .ok (.bipush 64, 2) := by decide +kernel
theorem dX7_init_33 : decode cX7_init 33 = .ok (.newarray .boolean, 2) := by decide +kernel
theorem dX7_init_35 : decode cX7_init 35 = .ok (.putfield 21, 3) := by decide +kernel
theorem dX7_init_38 : decode cX7_init 38 = .ok (.aload_n 0, 1) := by decide +kernel
theorem dX7_init_39 : decode cX7_init 39 = .ok (.bipush 36, 2) := by decide +kernel
theorem dX7_init_41 : decode cX7_init 41 = .ok (.newarray .int, 2) := by decide +kernel
theorem dX7_init_43 : decode cX7_init 43 = .ok (.putfield 25, 3) := by decide +kernel
theorem dX7_init_46 : decode cX7_init 46 = .ok (.aload_n 0, 1) := by decide +kernel
theorem dX7_init_47 : decode cX7_init 47 = .ok (.bipush 6, 2) := by decide +kernel
theorem dX7_init_49 : decode cX7_init 49 = .ok (.newarray .int, 2) := by decide +kernel
theorem dX7_init_51 : decode cX7_init 51 = .ok (.putfield 28, 3) := by decide +kernel
theorem dX7_init_54 : decode cX7_init 54 = .ok (.aload_n 0, 1) := by decide +kernel
theorem dX7_init_55 : decode cX7_init 55 = .ok (.bipush 6, 2) := by decide +kernel
theorem dX7_init_57 : decode cX7_init 57 = .ok (.newarray .int, 2) := by decide +kernel
theorem dX7_init_59 : decode cX7_init 59 = .ok (.putfield 31, 3) := by decide +kernel
theorem dX7_init_62 : decode cX7_init 62 = .ok (.aload_n 0, 1) := by decide +kernel
theorem dX7_init_63 : decode cX7_init 63 = .ok (.bipush 20, 2) := by decide +kernel
theorem dX7_init_65 : decode cX7_init 65 = .ok (.newarray .int, 2) := by decide +kernel
theorem dX7_init_67 : decode cX7_init 67 = .ok (.putfield 34, 3) := by decide +kernel
theorem dX7_init_70 : decode cX7_init 70 = .ok (.aload_n 0, 1) := by decide +kernel
theorem dX7_init_71 : decode cX7_init 71 = .ok (.getfield 9, 3) := by decide +kernel
theorem dX7_init_74 : decode cX7_init 74 = .ok (.iconst 4, 1) := by decide +kernel
theorem dX7_init_75 : decode cX7_init 75 = .ok (.iconst (-1), 1) := by decide +kernel
theorem dX7_init_76 : decode cX7_init 76 = .ok (.iastore, 1) := by decide +kernel
theorem dX7_init_77 : decode cX7_init 77 = .ok (.return_, 1) := by decide +kernel
theorem dX7_in_0 : decode cX7_in 0 = .ok (.iload_n 0, 1) := by decide +kernel
theorem dX7_in_1 : decode cX7_in 1 = .ok (.iload_n 1, 1) := by decide +kernel
theorem dX7_in_2 : decode cX7_in 2 = .ok (.if_icmp .lt 12, 3) := by decide +kernel
theorem dX7_in_5 : decode cX7_in 5 = .ok (.iload_n 0, 1) := by decide +kernel
theorem dX7_in_6 : decode cX7_in 6 = .ok (.iload_n 2, 1) := by decide +kernel
theorem dX7_in_7 : decode cX7_in 7 = .ok (.if_icmp .gt 7, 3) := by decide +kernel
theorem dX7_in_10 : decode cX7_in 10 = .ok (.iconst 1, 1) := by decide +kernel
theorem dX7_in_11 : decode cX7_in 11 = .ok (.goto 4, 3) := by decide +kernel
theorem dX7_in_14 : decode cX7_in 14 = .ok (.iconst 0, 1) := by decide +kernel
theorem dX7_in_15 : decode cX7_in 15 = .ok (.ireturn, 1) := by decide +kernel
theorem dX7_size_0 : decode cX7_size 0 = .ok (.iload_n 0, 1) := by decide +kernel
theorem dX7_size_1 : decode cX7_size 1 = .ok (.ifCond .ge 8, 3) := by decide +kernel
theorem dX7_size_4 : decode cX7_size 4 = .ok (.iload_n 0, 1) := by decide +kernel
theorem dX7_size_5 : decode cX7_size 5 = .ok (.ineg, 1) := by decide +kernel
theorem dX7_size_6 : decode cX7_size 6 = .ok (.goto 4, 3) := by decide +kernel
theorem dX7_size_9 : decode cX7_size 9 = .ok (.iload_n 0, 1) := by decide +kernel
theorem dX7_size_10 : decode cX7_size 10 = .ok (.ireturn, 1) := by decide +kernel
theorem dX7_isTree_0 : decode cX7_isTree 0 = .ok (.iload_n 1, 1) := by decide +kernel
theorem dX7_isTree_1 : decode cX7_isTree 1 = .ok (.iconst 0, 1) := by decide +kernel
theorem dX7_isTree_2 : decode cX7_isTree 2 = .ok (.aload_n 0, 1) := by decide +kernel
theorem dX7_isTree_3 : decode cX7_isTree 3 = .ok (.getfield 9, 3) := by decide +kernel
theorem dX7_isTree_6 : decode cX7_isTree 6 = .ok (.iconst 0, 1) := by decide +kernel
theorem dX7_isTree_7 : decode cX7_isTree 7 = .ok (.iaload, 1) := by decide +kernel
theorem dX7_isTree_8 : decode cX7_isTree 8 = .ok (.iconst 1, 1) := by decide +kernel
theorem dX7_isTree_9 : decode cX7_isTree 9 = .ok (.isub, 1) := by decide +kernel
theorem dX7_isTree_10 : decode cX7_isTree 10 = .ok (.invokestatic 41, 3) := by decide +kernel
theorem dX7_isTree_13 : decode cX7_isTree 13 = .ok (.ireturn, 1) := by decide +kernel
theorem dX7_isStanding_0 : decode cX7_isStanding 0 = .ok (.aload_n 0, 1) := by decide +kernel
theorem dX7_isStanding_1 : decode cX7_isStanding 1 = .ok (.getfield 9, 3) := by decide +kernel
theorem dX7_isStanding_4 : decode cX7_isStanding 4 = .ok (.sipush 152, 3) := by decide +kernel
theorem dX7_isStanding_7 : decode cX7_isStanding 7 = .ok (.iload_n 1, 1) := by decide +kernel
theorem dX7_isStanding_8 : decode cX7_isStanding 8 = .ok (.iadd, 1) := by decide +kernel
theorem dX7_isStanding_9 : decode cX7_isStanding 9 = .ok (.iaload, 1) := by decide +kernel
theorem dX7_isStanding_10 : decode cX7_isStanding 10 = .ok (.iconst 1, 1) := by decide +kernel
theorem dX7_isStanding_11 : decode cX7_isStanding 11 = .ok (.if_icmp .ne 7, 3) := by decide +kernel
theorem dX7_isStanding_14 : decode cX7_isStanding 14 = .ok (.iconst 1, 1) := by decide +kernel
theorem dX7_isStanding_15 : decode cX7_isStanding 15 = .ok (.goto 4, 3) := by decide +kernel
theorem dX7_isStanding_18 : decode cX7_isStanding 18 = .ok (.iconst 0, 1) := by decide +kernel
theorem dX7_isStanding_19 : decode cX7_isStanding 19 = .ok (.ireturn, 1) := by decide +kernel
theorem dX7_isWay_0 : decode cX7_isWay 0 = .ok (.iload_n 0, 1) := by decide +kernel
theorem dX7_isWay_1 : decode cX7_isWay 1 = .ok (.iconst 0, 1) := by decide +kernel
theorem dX7_isWay_2 : decode cX7_isWay 2 = .ok (.bipush 7, 2) := by decide +kernel
theorem dX7_isWay_4 : decode cX7_isWay 4 = .ok (.invokestatic 41, 3) := by decide +kernel
theorem dX7_isWay_7 : decode cX7_isWay 7 = .ok (.ireturn, 1) := by decide +kernel
theorem dX7_things_0 : decode cX7_things 0 = .ok (.iconst 0, 1) := by decide +kernel
theorem dX7_things_1 : decode cX7_things 1 = .ok (.istore_n 3, 1) := by decide +kernel
theorem dX7_things_2 : decode cX7_things 2 = .ok (.iconst 0, 1) := by decide +kernel
theorem dX7_things_3 : decode cX7_things 3 = .ok (.istore 4, 2) := by decide +kernel
theorem dX7_things_5 : decode cX7_things 5 = .ok (.iload 4, 2) := by decide +kernel
theorem dX7_things_7 : decode cX7_things 7 = .ok (.bipush 64, 2) := by decide +kernel
theorem dX7_things_9 : decode cX7_things 9 = .ok (.if_icmp .ge 41, 3) := by decide +kernel
theorem dX7_things_12 : decode cX7_things 12 = .ok (.iload_n 3, 1) := by decide +kernel
theorem dX7_things_13 : decode cX7_things 13 = .ok (.aload_n 0, 1) := by decide +kernel
theorem dX7_things_14 : decode cX7_things 14 = .ok (.getfield 9, 3) := by decide +kernel
theorem dX7_things_17 : decode cX7_things 17 = .ok (.sipush 210, 3) := by decide +kernel
theorem dX7_things_20 : decode cX7_things 20 = .ok (.iload 4, 2) := by decide +kernel
theorem dX7_things_22 : decode cX7_things 22 = .ok (.iadd, 1) := by decide +kernel
theorem dX7_things_23 : decode cX7_things 23 = .ok (.iaload, 1) := by decide +kernel
theorem dX7_things_24 : decode cX7_things 24 = .ok (.iadd, 1) := by decide +kernel
theorem dX7_things_25 : decode cX7_things 25 = .ok (.istore_n 3, 1) := by decide +kernel
theorem dX7_things_26 : decode cX7_things 26 = .ok (.aload_n 0, 1) := by decide +kernel
theorem dX7_things_27 : decode cX7_things 27 = .ok (.getfield 9, 3) := by decide +kernel
theorem dX7_things_30 : decode cX7_things 30 = .ok (.sipush 210, 3) := by decide +kernel
theorem dX7_things_33 : decode cX7_things 33 = .ok (.iload 4, 2) := by decide +kernel
theorem dX7_things_35 : decode cX7_things 35 = .ok (.iadd, 1) := by decide +kernel
theorem dX7_things_36 : decode cX7_things 36 = .ok (.lload_n 1, 1) := by decide +kernel
theorem dX7_things_37 : decode cX7_things 37 = .ok (.iload 4, 2) := by decide +kernel
theorem dX7_things_39 : decode cX7_things 39 = .ok (.lshr, 1) := by decide +kernel
theorem dX7_things_40 : decode cX7_things 40 = .ok (.lconst 1, 1) := by decide +kernel
theorem dX7_things_41 : decode cX7_things 41 = .ok (.land, 1) := by decide +kernel
theorem dX7_things_42 : decode cX7_things 42 = .ok (.l2i, 1) := by decide +kernel
theorem dX7_things_43 : decode cX7_things 43 = .ok (.iastore, 1) := by decide +kernel
theorem dX7_things_44 : decode cX7_things 44 = .ok (.iinc 4 1, 3) := by decide +kernel
theorem dX7_things_47 : decode cX7_things 47 = .ok (.goto (-42), 3) := by decide +kernel
theorem dX7_things_50 : decode cX7_things 50 = .ok (.iload_n 3, 1) := by decide +kernel
theorem dX7_things_51 : decode cX7_things 51 = .ok (.ireturn, 1) := by decide +kernel
theorem dX7_feed_0 : decode cX7_feed 0 = .ok (.iload_n 1, 1) := by decide +kernel
theorem dX7_feed_1 : decode cX7_feed 1 = .ok (.iconst 0, 1) := by decide +kernel
theorem dX7_feed_2 : decode cX7_feed 2 = .ok (.bipush 127, 2) := by decide +kernel
theorem dX7_feed_4 : decode cX7_feed 4 = .ok (.invokestatic 41, 3) := by decide +kernel
theorem dX7_feed_7 : decode cX7_feed 7 = .ok (.ifCond .ne 6, 3) := by decide +kernel
theorem dX7_feed_10 : decode cX7_feed 10 = .ok (.bipush (-2), 2) := by decide +kernel
theorem dX7_feed_12 : decode cX7_feed 12 = .ok (.ireturn, 1) := by decide +kernel
theorem dX7_feed_13 : decode cX7_feed 13 = .ok (.aload_n 0, 1) := by decide +kernel
theorem dX7_feed_14 : decode cX7_feed 14 = .ok (.getfield 9, 3) := by decide +kernel
theorem dX7_feed_17 : decode cX7_feed 17 = .ok (.iconst 3, 1) := by decide +kernel
theorem dX7_feed_18 : decode cX7_feed 18 = .ok (.iaload, 1) := by decide +kernel
theorem dX7_feed_19 : decode cX7_feed 19 = .ok (.bipush 100, 2) := by decide +kernel
theorem dX7_feed_21 : decode cX7_feed 21 = .ok (.if_icmp .ne 6, 3) := by decide +kernel
theorem dX7_feed_24 : decode cX7_feed 24 = .ok (.bipush (-4), 2) := by decide +kernel
theorem dX7_feed_26 : decode cX7_feed 26 = .ok (.ireturn, 1) := by decide +kernel
theorem dX7_feed_27 : decode cX7_feed 27 = .ok (.aload_n 0, 1) := by decide +kernel
theorem dX7_feed_28 : decode cX7_feed 28 = .ok (.getfield 9, 3) := by decide +kernel
theorem dX7_feed_31 : decode cX7_feed 31 = .ok (.bipush 10, 2) := by decide +kernel
theorem dX7_feed_33 : decode cX7_feed 33 = .ok (.aload_n 0, 1) := by decide +kernel
theorem dX7_feed_34 : decode cX7_feed 34 = .ok (.getfield 9, 3) := by decide +kernel
theorem dX7_feed_37 : decode cX7_feed 37 = .ok (.iconst 3, 1) := by decide +kernel
theorem dX7_feed_38 : decode cX7_feed 38 = .ok (.iaload, 1) := by decide +kernel
theorem dX7_feed_39 : decode cX7_feed 39 = .ok (.iadd, 1) := by decide +kernel
theorem dX7_feed_40 : decode cX7_feed 40 = .ok (.iload_n 1, 1) := by decide +kernel
theorem dX7_feed_41 : decode cX7_feed 41 = .ok (.iastore, 1) := by decide +kernel
theorem dX7_feed_42 : decode cX7_feed 42 = .ok (.aload_n 0, 1) := by decide +kernel
theorem dX7_feed_43 : decode cX7_feed 43 = .ok (.getfield 9, 3) := by decide +kernel
theorem dX7_feed_46 : decode cX7_feed 46 = .ok (.iconst 3, 1) := by decide +kernel
theorem dX7_feed_47 : decode cX7_feed 47 = .ok (.dup2, 1) := by decide +kernel
theorem dX7_feed_48 : decode cX7_feed 48 = .ok (.iaload, 1) := by decide +kernel
theorem dX7_feed_49 : decode cX7_feed 49 = .ok (.iconst 1, 1) := by decide +kernel
theorem dX7_feed_50 : decode cX7_feed 50 = .ok (.iadd, 1) := by decide +kernel
theorem dX7_feed_51 : decode cX7_feed 51 = .ok (.iastore, 1) := by decide +kernel
theorem dX7_feed_52 : decode cX7_feed 52 = .ok (.aload_n 0, 1) := by decide +kernel
theorem dX7_feed_53 : decode cX7_feed 53 = .ok (.getfield 9, 3) := by decide +kernel
theorem dX7_feed_56 : decode cX7_feed 56 = .ok (.iconst 3, 1) := by decide +kernel
theorem dX7_feed_57 : decode cX7_feed 57 = .ok (.iaload, 1) := by decide +kernel
theorem dX7_feed_58 : decode cX7_feed 58 = .ok (.ireturn, 1) := by decide +kernel
theorem dX7_here_0 : decode cX7_here 0 = .ok (.aload_n 0, 1) := by decide +kernel
theorem dX7_here_1 : decode cX7_here 1 = .ok (.getfield 45, 3) := by decide +kernel
theorem dX7_here_4 : decode cX7_here 4 = .ok (.aload_n 0, 1) := by decide +kernel
theorem dX7_here_5 : decode cX7_here 5 = .ok (.getfield 48, 3) := by decide +kernel
theorem dX7_here_8 : decode cX7_here 8 = .ok (.if_icmp .ge 18, 3) := by decide +kernel
theorem dX7_here_11 : decode cX7_here 11 = .ok (.aload_n 0, 1) := by decide +kernel
theorem dX7_here_12 : decode cX7_here 12 = .ok (.getfield 9, 3) := by decide +kernel
theorem dX7_here_15 : decode cX7_here 15 = .ok (.bipush 10, 2) := by decide +kernel
theorem dX7_here_17 : decode cX7_here 17 = .ok (.aload_n 0, 1) := by decide +kernel
theorem dX7_here_18 : decode cX7_here 18 = .ok (.getfield 45, 3) := by decide +kernel
theorem dX7_here_21 : decode cX7_here 21 = .ok (.iadd, 1) := by decide +kernel
theorem dX7_here_22 : decode cX7_here 22 = .ok (.iaload, 1) := by decide +kernel
theorem dX7_here_23 : decode cX7_here 23 = .ok (.goto 4, 3) := by decide +kernel
theorem dX7_here_26 : decode cX7_here 26 = .ok (.iconst (-1), 1) := by decide +kernel
theorem dX7_here_27 : decode cX7_here 27 = .ok (.ireturn, 1) := by decide +kernel
theorem dX7_must_0 : decode cX7_must 0 = .ok (.aload_n 0, 1) := by decide +kernel
theorem dX7_must_1 : decode cX7_must 1 = .ok (.aload_n 0, 1) := by decide +kernel
theorem dX7_must_2 : decode cX7_must 2 = .ok (.getfield 51, 3) := by decide +kernel
theorem dX7_must_5 : decode cX7_must 5 = .ok (.ifCond .ne 11, 3) := by decide +kernel
theorem dX7_must_8 : decode cX7_must 8 = .ok (.aload_n 0, 1) := by decide +kernel
theorem dX7_must_9 : decode cX7_must 9 = .ok (.invokevirtual 55, 3) := by decide +kernel
theorem dX7_must_12 : decode cX7_must 12 = .ok (.iload_n 1, 1) := by decide +kernel
theorem dX7_must_13 : decode cX7_must 13 = .ok (.if_icmp .eq 7, 3) := by decide +kernel
theorem dX7_must_16 : decode cX7_must 16 = .ok (.iconst 1, 1) := by decide +kernel
theorem dX7_must_17 : decode cX7_must 17 = .ok (.goto 4, 3) := by decide +kernel
theorem dX7_must_20 : decode cX7_must 20 = .ok (.iconst 0, 1) := by decide +kernel
theorem dX7_must_21 : decode cX7_must 21 = .ok (.putfield 51, 3) := by decide +kernel
theorem dX7_must_24 : decode cX7_must 24 = .ok (.aload_n 0, 1) := by decide +kernel
theorem dX7_must_25 : decode cX7_must 25 = .ok (.dup, 1) := by decide +kernel
theorem dX7_must_26 : decode cX7_must 26 = .ok (.getfield 45, 3) := by decide +kernel
theorem dX7_must_29 : decode cX7_must 29 = .ok (.aload_n 0, 1) := by decide +kernel
theorem dX7_must_30 : decode cX7_must 30 = .ok (.getfield 51, 3) := by decide +kernel
theorem dX7_must_33 : decode cX7_must 33 = .ok (.ifCond .eq 7, 3) := by decide +kernel
theorem dX7_must_36 : decode cX7_must 36 = .ok (.iconst 0, 1) := by decide +kernel
theorem dX7_must_37 : decode cX7_must 37 = .ok (.goto 4, 3) := by decide +kernel
theorem dX7_must_40 : decode cX7_must 40 = .ok (.iconst 1, 1) := by decide +kernel
theorem dX7_must_41 : decode cX7_must 41 = .ok (.iadd, 1) := by decide +kernel
theorem dX7_must_42 : decode cX7_must 42 = .ok (.putfield 45, 3) := by decide +kernel
theorem dX7_must_45 : decode cX7_must 45 = .ok (.return_, 1) := by decide +kernel
theorem dX7_spells_0 : decode cX7_spells 0 = .ok (.iconst 0, 1) := by decide +kernel
theorem dX7_spells_1 : decode cX7_spells 1 = .ok (.istore_n 2, 1) := by decide +kernel
theorem dX7_spells_2 : decode cX7_spells 2 = .ok (.iload_n 2, 1) := by decide +kernel
theorem dX7_spells_3 : decode cX7_spells 3 = .ok (.aload_n 1, 1) := by decide +kernel
theorem dX7_spells_4 : decode cX7_spells 4 = .ok (.invokevirtual 59, 3) := by decide +kernel
theorem dX7_spells_7 : decode cX7_spells 7 = .ok (.if_icmp .ge 18, 3) := by decide +kernel
theorem dX7_spells_10 : decode cX7_spells 10 = .ok (.aload_n 0, 1) := by decide +kernel
theorem dX7_spells_11 : decode cX7_spells 11 = .ok (.aload_n 1, 1) := by decide +kernel
theorem dX7_spells_12 : decode cX7_spells 12 = .ok (.iload_n 2, 1) := by decide +kernel
theorem dX7_spells_13 : decode cX7_spells 13 = .ok (.invokevirtual 64, 3) := by decide +kernel
theorem dX7_spells_16 : decode cX7_spells 16 = .ok (.invokevirtual 68, 3) := by decide +kernel
theorem dX7_spells_19 : decode cX7_spells 19 = .ok (.iinc 2 1, 3) := by decide +kernel
theorem dX7_spells_22 : decode cX7_spells 22 = .ok (.goto (-20), 3) := by decide +kernel
theorem dX7_spells_25 : decode cX7_spells 25 = .ok (.return_, 1) := by decide +kernel
theorem dX7_figures_0 : decode cX7_figures 0 = .ok (.aload_n 0, 1) := by decide +kernel
theorem dX7_figures_1 : decode cX7_figures 1 = .ok (.aload_n 0, 1) := by decide +kernel
theorem dX7_figures_2 : decode cX7_figures 2 = .ok (.getfield 51, 3) := by decide +kernel
theorem dX7_figures_5 : decode cX7_figures 5 = .ok (.ifCond .ne 17, 3) := by decide +kernel
theorem dX7_figures_8 : decode cX7_figures 8 = .ok (.aload_n 0, 1) := by decide +kernel
theorem dX7_figures_9 : decode cX7_figures 9 = .ok (.invokevirtual 55, 3) := by decide +kernel
theorem dX7_figures_12 : decode cX7_figures 12 = .ok (.bipush 48, 2) := by decide +kernel
theorem dX7_figures_14 : decode cX7_figures 14 = .ok (.bipush 57, 2) := by decide +kernel
theorem dX7_figures_16 : decode cX7_figures 16 = .ok (.invokestatic 41, 3) := by decide +kernel
theorem dX7_figures_19 : decode cX7_figures 19 = .ok (.ifCond .ne 7, 3) := by decide +kernel
theorem dX7_figures_22 : decode cX7_figures 22 = .ok (.iconst 1, 1) := by decide +kernel
theorem dX7_figures_23 : decode cX7_figures 23 = .ok (.goto 4, 3) := by decide +kernel
theorem dX7_figures_26 : decode cX7_figures 26 = .ok (.iconst 0, 1) := by decide +kernel
theorem dX7_figures_27 : decode cX7_figures 27 = .ok (.putfield 51, 3) := by decide +kernel
theorem dX7_figures_30 : decode cX7_figures 30 = .ok (.iconst 0, 1) := by decide +kernel
theorem dX7_figures_31 : decode cX7_figures 31 = .ok (.istore_n 1, 1) := by decide +kernel
theorem dX7_figures_32 : decode cX7_figures 32 = .ok (.iconst 0, 1) := by decide +kernel
theorem dX7_figures_33 : decode cX7_figures 33 = .ok (.istore_n 2, 1) := by decide +kernel
theorem dX7_figures_34 : decode cX7_figures 34 = .ok (.iload_n 2, 1) := by decide +kernel
theorem dX7_figures_35 : decode cX7_figures 35 = .ok (.iconst 2, 1) := by decide +kernel
theorem dX7_figures_36 : decode cX7_figures 36 = .ok (.if_icmp .ge 61, 3) := by decide +kernel
theorem dX7_figures_39 : decode cX7_figures 39 = .ok (.aload_n 0, 1) := by decide +kernel
theorem dX7_figures_40 : decode cX7_figures 40 = .ok (.getfield 51, 3) := by decide +kernel
theorem dX7_figures_43 : decode cX7_figures 43 = .ok (.ifCond .ne 54, 3) := by decide +kernel
theorem dX7_figures_46 : decode cX7_figures 46 = .ok (.aload_n 0, 1) := by decide +kernel
theorem dX7_figures_47 : decode cX7_figures 47 = .ok (.invokevirtual 55, 3) := by decide +kernel
theorem dX7_figures_50 : decode cX7_figures 50 = .ok (.bipush 48, 2) := by decide +kernel
theorem dX7_figures_52 : decode cX7_figures 52 = .ok (.bipush 57, 2) := by decide +kernel
theorem dX7_figures_54 : decode cX7_figures 54 = .ok (.invokestatic 41, 3) := by decide +kernel
theorem dX7_figures_57 : decode cX7_figures 57 = .ok (.ifCond .eq 40, 3) := by decide +kernel
theorem dX7_figures_60 : decode cX7_figures 60 = .ok (.iload_n 2, 1) := by decide +kernel
theorem dX7_figures_61 : decode cX7_figures 61 = .ok (.ifCond .eq 7, 3) := by decide +kernel
theorem dX7_figures_64 : decode cX7_figures 64 = .ok (.iload_n 1, 1) := by decide +kernel
theorem dX7_figures_65 : decode cX7_figures 65 = .ok (.ifCond .le 32, 3) := by decide +kernel
theorem dX7_figures_68 : decode cX7_figures 68 = .ok (.bipush 10, 2) := by decide +kernel
theorem dX7_figures_70 : decode cX7_figures 70 = .ok (.iload_n 1, 1) := by decide +kernel
theorem dX7_figures_71 : decode cX7_figures 71 = .ok (.imul, 1) := by decide +kernel
theorem dX7_figures_72 : decode cX7_figures 72 = .ok (.aload_n 0, 1) := by decide +kernel
theorem dX7_figures_73 : decode cX7_figures 73 = .ok (.invokevirtual 55, 3) := by decide +kernel
theorem dX7_figures_76 : decode cX7_figures 76 = .ok (.iadd, 1) := by decide +kernel
theorem dX7_figures_77 : decode cX7_figures 77 = .ok (.bipush 48, 2) := by decide +kernel
theorem dX7_figures_79 : decode cX7_figures 79 = .ok (.isub, 1) := by decide +kernel
theorem dX7_figures_80 : decode cX7_figures 80 = .ok (.istore_n 1, 1) := by decide +kernel
theorem dX7_figures_81 : decode cX7_figures 81 = .ok (.aload_n 0, 1) := by decide +kernel
theorem dX7_figures_82 : decode cX7_figures 82 = .ok (.dup, 1) := by decide +kernel
theorem dX7_figures_83 : decode cX7_figures 83 = .ok (.getfield 45, 3) := by decide +kernel
theorem dX7_figures_86 : decode cX7_figures 86 = .ok (.iconst 1, 1) := by decide +kernel
theorem dX7_figures_87 : decode cX7_figures 87 = .ok (.iadd, 1) := by decide +kernel
theorem dX7_figures_88 : decode cX7_figures 88 = .ok (.putfield 45, 3) := by decide +kernel
theorem dX7_figures_91 : decode cX7_figures 91 = .ok (.iinc 2 1, 3) := by decide +kernel
theorem dX7_figures_94 : decode cX7_figures 94 = .ok (.goto (-60), 3) := by decide +kernel
theorem dX7_figures_97 : decode cX7_figures 97 = .ok (.iload_n 1, 1) := by decide +kernel
theorem dX7_figures_98 : decode cX7_figures 98 = .ok (.ireturn, 1) := by decide +kernel
theorem dX7_among_0 : decode cX7_among 0 = .ok (.iconst 0, 1) := by decide +kernel
theorem dX7_among_1 : decode cX7_among 1 = .ok (.istore_n 2, 1) := by decide +kernel
theorem dX7_among_2 : decode cX7_among 2 = .ok (.iload_n 2, 1) := by decide +kernel
theorem dX7_among_3 : decode cX7_among 3 = .ok (.aload_n 1, 1) := by decide +kernel
theorem dX7_among_4 : decode cX7_among 4 = .ok (.invokevirtual 59, 3) := by decide +kernel
theorem dX7_among_7 : decode cX7_among 7 = .ok (.if_icmp .ge 33, 3) := by decide +kernel
theorem dX7_among_10 : decode cX7_among 10 = .ok (.aload_n 0, 1) := by decide +kernel
theorem dX7_among_11 : decode cX7_among 11 = .ok (.invokevirtual 55, 3) := by decide +kernel
theorem dX7_among_14 : decode cX7_among 14 = .ok (.aload_n 1, 1) := by decide +kernel
theorem dX7_among_15 : decode cX7_among 15 = .ok (.iload_n 2, 1) := by decide +kernel
theorem dX7_among_16 : decode cX7_among 16 = .ok (.invokevirtual 64, 3) := by decide +kernel
theorem dX7_among_19 : decode cX7_among 19 = .ok (.if_icmp .ne 15, 3) := by decide +kernel
theorem dX7_among_22 : decode cX7_among 22 = .ok (.aload_n 0, 1) := by decide +kernel
theorem dX7_among_23 : decode cX7_among 23 = .ok (.dup, 1) := by decide +kernel
theorem dX7_among_24 : decode cX7_among 24 = .ok (.getfield 45, 3) := by decide +kernel
theorem dX7_among_27 : decode cX7_among 27 = .ok (.iconst 1, 1) := by decide +kernel
theorem dX7_among_28 : decode cX7_among 28 = .ok (.iadd, 1) := by decide +kernel
theorem dX7_among_29 : decode cX7_among 29 = .ok (.putfield 45, 3) := by decide +kernel
theorem dX7_among_32 : decode cX7_among 32 = .ok (.iload_n 2, 1) := by decide +kernel
theorem dX7_among_33 : decode cX7_among 33 = .ok (.ireturn, 1) := by decide +kernel
theorem dX7_among_34 : decode cX7_among 34 = .ok (.iinc 2 1, 3) := by decide +kernel
theorem dX7_among_37 : decode cX7_among 37 = .ok (.goto (-35), 3) := by decide +kernel
theorem dX7_among_40 : decode cX7_among 40 = .ok (.iconst (-1), 1) := by decide +kernel
theorem dX7_among_41 : decode cX7_among 41 = .ok (.ireturn, 1) := by decide +kernel
theorem dX7_emits_0 : decode cX7_emits 0 = .ok (.aload_n 0, 1) := by decide +kernel
theorem dX7_emits_1 : decode cX7_emits 1 = .ok (.getfield 51, 3) := by decide +kernel
theorem dX7_emits_4 : decode cX7_emits 4 = .ok (.ifCond .ne 52, 3) := by decide +kernel
theorem dX7_emits_7 : decode cX7_emits 7 = .ok (.aload_n 0, 1) := by decide +kernel
theorem dX7_emits_8 : decode cX7_emits 8 = .ok (.getfield 9, 3) := by decide +kernel
theorem dX7_emits_11 : decode cX7_emits 11 = .ok (.sipush 279, 3) := by decide +kernel
theorem dX7_emits_14 : decode cX7_emits 14 = .ok (.sipush 140, 3) := by decide +kernel
theorem dX7_emits_17 : decode cX7_emits 17 = .ok (.aload_n 0, 1) := by decide +kernel
theorem dX7_emits_18 : decode cX7_emits 18 = .ok (.getfield 72, 3) := by decide +kernel
theorem dX7_emits_21 : decode cX7_emits 21 = .ok (.imul, 1) := by decide +kernel
theorem dX7_emits_22 : decode cX7_emits 22 = .ok (.iadd, 1) := by decide +kernel
theorem dX7_emits_23 : decode cX7_emits 23 = .ok (.aload_n 0, 1) := by decide +kernel
theorem dX7_emits_24 : decode cX7_emits 24 = .ok (.getfield 9, 3) := by decide +kernel
theorem dX7_emits_27 : decode cX7_emits 27 = .ok (.sipush 274, 3) := by decide +kernel
theorem dX7_emits_30 : decode cX7_emits 30 = .ok (.aload_n 0, 1) := by decide +kernel
theorem dX7_emits_31 : decode cX7_emits 31 = .ok (.getfield 72, 3) := by decide +kernel
theorem dX7_emits_34 : decode cX7_emits 34 = .ok (.iadd, 1) := by decide +kernel
theorem dX7_emits_35 : decode cX7_emits 35 = .ok (.iaload, 1) := by decide +kernel
theorem dX7_emits_36 : decode cX7_emits 36 = .ok (.iadd, 1) := by decide +kernel
theorem dX7_emits_37 : decode cX7_emits 37 = .ok (.iload_n 1, 1) := by decide +kernel
theorem dX7_emits_38 : decode cX7_emits 38 = .ok (.iastore, 1) := by decide +kernel
theorem dX7_emits_39 : decode cX7_emits 39 = .ok (.aload_n 0, 1) := by decide +kernel
theorem dX7_emits_40 : decode cX7_emits 40 = .ok (.getfield 9, 3) := by decide +kernel
theorem dX7_emits_43 : decode cX7_emits 43 = .ok (.sipush 274, 3) := by decide +kernel
theorem dX7_emits_46 : decode cX7_emits 46 = .ok (.aload_n 0, 1) := by decide +kernel
theorem dX7_emits_47 : decode cX7_emits 47 = .ok (.getfield 72, 3) := by decide +kernel
theorem dX7_emits_50 : decode cX7_emits 50 = .ok (.iadd, 1) := by decide +kernel
theorem dX7_emits_51 : decode cX7_emits 51 = .ok (.dup2, 1) := by decide +kernel
theorem dX7_emits_52 : decode cX7_emits 52 = .ok (.iaload, 1) := by decide +kernel
theorem dX7_emits_53 : decode cX7_emits 53 = .ok (.iconst 1, 1) := by decide +kernel
theorem dX7_emits_54 : decode cX7_emits 54 = .ok (.iadd, 1) := by decide +kernel
theorem dX7_emits_55 : decode cX7_emits 55 = .ok (.iastore, 1) := by decide +kernel
theorem dX7_emits_56 : decode cX7_emits 56 = .ok (.return_, 1) := by decide +kernel
theorem dX7_factor_0 : decode cX7_factor 0 = .ok (.aload_n 0, 1) := by decide +kernel
theorem dX7_factor_1 : decode cX7_factor 1 = .ok (.getfield 51, 3) := by decide +kernel
theorem dX7_factor_4 : decode cX7_factor 4 = .ok (.ifCond .eq 4, 3) := by decide +kernel
theorem dX7_factor_7 : decode cX7_factor 7 = .ok (.return_, 1) := by decide +kernel
theorem dX7_factor_8 : decode cX7_factor 8 = .ok (.aload_n 0, 1) := by decide +kernel
theorem dX7_factor_9 : decode cX7_factor 9 = .ok (.invokevirtual 55, 3) := by decide +kernel
theorem dX7_factor_12 : decode cX7_factor 12 = .ok (.istore_n 1, 1) := by decide +kernel
theorem dX7_factor_13 : decode cX7_factor 13 = .ok (.iload_n 1, 1) := by decide +kernel
theorem dX7_factor_14 : decode cX7_factor 14 = .ok (.bipush 33, 2) := by decide +kernel
theorem dX7_factor_16 : decode cX7_factor 16 = .ok (.if_icmp .eq 9, 3) := by decide +kernel
theorem dX7_factor_19 : decode cX7_factor 19 = .ok (.iload_n 1, 1) := by decide +kernel
theorem dX7_factor_20 : decode cX7_factor 20 = .ok (.bipush 40, 2) := by decide +kernel
theorem dX7_factor_22 : decode cX7_factor 22 = .ok (.if_icmp .ne 90, 3) := by decide +kernel
theorem dX7_factor_25 : decode cX7_factor 25 = .ok (.aload_n 0, 1) := by decide +kernel
theorem dX7_factor_26 : decode cX7_factor 26 = .ok (.aload_n 0, 1) := by decide +kernel
theorem dX7_factor_27 : decode cX7_factor 27 = .ok (.getfield 75, 3) := by decide +kernel
theorem dX7_factor_30 : decode cX7_factor 30 = .ok (.iconst 5, 1) := by decide +kernel
theorem dX7_factor_31 : decode cX7_factor 31 = .ok (.if_icmp .ne 7, 3) := by decide +kernel
theorem dX7_factor_34 : decode cX7_factor 34 = .ok (.iconst 1, 1) := by decide +kernel
theorem dX7_factor_35 : decode cX7_factor 35 = .ok (.goto 4, 3) := by decide +kernel
theorem dX7_factor_38 : decode cX7_factor 38 = .ok (.iconst 0, 1) := by decide +kernel
theorem dX7_factor_39 : decode cX7_factor 39 = .ok (.putfield 51, 3) := by decide +kernel
theorem dX7_factor_42 : decode cX7_factor 42 = .ok (.aload_n 0, 1) := by decide +kernel
theorem dX7_factor_43 : decode cX7_factor 43 = .ok (.dup, 1) := by decide +kernel
theorem dX7_factor_44 : decode cX7_factor 44 = .ok (.getfield 75, 3) := by decide +kernel
theorem dX7_factor_47 : decode cX7_factor 47 = .ok (.iconst 1, 1) := by decide +kernel
theorem dX7_factor_48 : decode cX7_factor 48 = .ok (.iadd, 1) := by decide +kernel
theorem dX7_factor_49 : decode cX7_factor 49 = .ok (.putfield 75, 3) := by decide +kernel
theorem dX7_factor_52 : decode cX7_factor 52 = .ok (.aload_n 0, 1) := by decide +kernel
theorem dX7_factor_53 : decode cX7_factor 53 = .ok (.dup, 1) := by decide +kernel
theorem dX7_factor_54 : decode cX7_factor 54 = .ok (.getfield 45, 3) := by decide +kernel
theorem dX7_factor_57 : decode cX7_factor 57 = .ok (.aload_n 0, 1) := by decide +kernel
theorem dX7_factor_58 : decode cX7_factor 58 = .ok (.getfield 51, 3) := by decide +kernel
theorem dX7_factor_61 : decode cX7_factor 61 = .ok (.ifCond .eq 7, 3) := by decide +kernel
theorem dX7_factor_64 : decode cX7_factor 64 = .ok (.iconst 0, 1) := by decide +kernel
theorem dX7_factor_65 : decode cX7_factor 65 = .ok (.goto 4, 3) := by decide +kernel
theorem dX7_factor_68 : decode cX7_factor 68 = .ok (.iconst 1, 1) := by decide +kernel
theorem dX7_factor_69 : decode cX7_factor 69 = .ok (.iadd, 1) := by decide +kernel
theorem dX7_factor_70 : decode cX7_factor 70 = .ok (.putfield 45, 3) := by decide +kernel
theorem dX7_factor_73 : decode cX7_factor 73 = .ok (.iload_n 1, 1) := by decide +kernel
theorem dX7_factor_74 : decode cX7_factor 74 = .ok (.bipush 33, 2) := by decide +kernel
theorem dX7_factor_76 : decode cX7_factor 76 = .ok (.if_icmp .ne 15, 3) := by decide +kernel
theorem dX7_factor_79 : decode cX7_factor 79 = .ok (.aload_n 0, 1) := by decide +kernel
theorem dX7_factor_80 : decode cX7_factor 80 = .ok (.invokevirtual 78, 3) := by decide +kernel
theorem dX7_factor_83 : decode cX7_factor 83 = .ok (.aload_n 0, 1) := by decide +kernel
theorem dX7_factor_84 : decode cX7_factor 84 = .ok (.iconst (-1), 1) := by decide +kernel
theorem dX7_factor_85 : decode cX7_factor 85 = .ok (.invokevirtual 81, 3) := by decide +kernel
theorem dX7_factor_88 : decode cX7_factor 88 = .ok (.goto 13, 3) := by decide +kernel
theorem dX7_factor_91 : decode cX7_factor 91 = .ok (.aload_n 0, 1) := by decide +kernel
theorem dX7_factor_92 : decode cX7_factor 92 = .ok (.invokevirtual 84, 3) := by decide +kernel
theorem dX7_factor_95 : decode cX7_factor 95 = .ok (.aload_n 0, 1) := by decide +kernel
theorem dX7_factor_96 : decode cX7_factor 96 = .ok (.bipush 41, 2) := by decide +kernel
theorem dX7_factor_98 : decode cX7_factor 98 = .ok (.invokevirtual 68, 3) := by decide +kernel
theorem dX7_factor_101 : decode cX7_factor 101 = .ok (.aload_n 0, 1) := by decide +kernel
theorem dX7_factor_102 : decode cX7_factor 102 = .ok (.dup, 1) := by decide +kernel
theorem dX7_factor_103 : decode cX7_factor 103 = .ok (.getfield 75, 3) := by decide +kernel
theorem dX7_factor_106 : decode cX7_factor 106 = .ok (.iconst 1, 1) := by decide +kernel
theorem dX7_factor_107 : decode cX7_factor 107 = .ok (.isub, 1) := by decide +kernel
theorem dX7_factor_108 : decode cX7_factor 108 = .ok (.putfield 75, 3) := by decide +kernel
theorem dX7_factor_111 : decode cX7_factor 111 = .ok (.return_, 1) := by decide +kernel
theorem dX7_factor_112 : decode cX7_factor 112 = .ok (.aload_n 0, 1) := by decide +kernel
theorem dX7_factor_113 : decode cX7_factor 113 = .ok (.ldc 87, 2) := by decide +kernel
theorem dX7_factor_115 : decode cX7_factor 115 = .ok (.invokevirtual 89, 3) := by decide +kernel
theorem dX7_factor_118 : decode cX7_factor 118 = .ok (.istore_n 2, 1) := by decide +kernel
theorem dX7_factor_119 : decode cX7_factor 119 = .ok (.aload_n 0, 1) := by decide +kernel
theorem dX7_factor_120 : decode cX7_factor 120 = .ok (.iload_n 2, 1) := by decide +kernel
theorem dX7_factor_121 : decode cX7_factor 121 = .ok (.iconst (-1), 1) := by decide +kernel
theorem dX7_factor_122 : decode cX7_factor 122 = .ok (.if_icmp .ne 7, 3) := by decide +kernel
theorem dX7_factor_125 : decode cX7_factor 125 = .ok (.iconst 1, 1) := by decide +kernel
theorem dX7_factor_126 : decode cX7_factor 126 = .ok (.goto 4, 3) := by decide +kernel
theorem dX7_factor_129 : decode cX7_factor 129 = .ok (.iconst 0, 1) := by decide +kernel
theorem dX7_factor_130 : decode cX7_factor 130 = .ok (.putfield 51, 3) := by decide +kernel
theorem dX7_factor_133 : decode cX7_factor 133 = .ok (.aload_n 0, 1) := by decide +kernel
theorem dX7_factor_134 : decode cX7_factor 134 = .ok (.getfield 51, 3) := by decide +kernel
theorem dX7_factor_137 : decode cX7_factor 137 = .ok (.ifCond .eq 7, 3) := by decide +kernel
theorem dX7_factor_140 : decode cX7_factor 140 = .ok (.iconst 0, 1) := by decide +kernel
theorem dX7_factor_141 : decode cX7_factor 141 = .ok (.goto 9, 3) := by decide +kernel
theorem dX7_factor_144 : decode cX7_factor 144 = .ok (.aload_n 0, 1) := by decide +kernel
theorem dX7_factor_145 : decode cX7_factor 145 = .ok (.ldc 93, 2) := by decide +kernel
theorem dX7_factor_147 : decode cX7_factor 147 = .ok (.invokevirtual 89, 3) := by decide +kernel
theorem dX7_factor_150 : decode cX7_factor 150 = .ok (.istore_n 3, 1) := by decide +kernel
theorem dX7_factor_151 : decode cX7_factor 151 = .ok (.aload_n 0, 1) := by decide +kernel
theorem dX7_factor_152 : decode cX7_factor 152 = .ok (.aload_n 0, 1) := by decide +kernel
theorem dX7_factor_153 : decode cX7_factor 153 = .ok (.getfield 51, 3) := by decide +kernel
theorem dX7_factor_156 : decode cX7_factor 156 = .ok (.ifCond .ne 8, 3) := by decide +kernel
theorem dX7_factor_159 : decode cX7_factor 159 = .ok (.iload_n 3, 1) := by decide +kernel
theorem dX7_factor_160 : decode cX7_factor 160 = .ok (.iconst (-1), 1) := by decide +kernel
theorem dX7_factor_161 : decode cX7_factor 161 = .ok (.if_icmp .ne 7, 3) := by decide +kernel
theorem dX7_factor_164 : decode cX7_factor 164 = .ok (.iconst 1, 1) := by decide +kernel
theorem dX7_factor_165 : decode cX7_factor 165 = .ok (.goto 4, 3) := by decide +kernel
theorem dX7_factor_168 : decode cX7_factor 168 = .ok (.iconst 0, 1) := by decide +kernel
theorem dX7_factor_169 : decode cX7_factor 169 = .ok (.putfield 51, 3) := by decide +kernel
theorem dX7_factor_172 : decode cX7_factor 172 = .ok (.aload_n 0, 1) := by decide +kernel
theorem dX7_factor_173 : decode cX7_factor 173 = .ok (.invokevirtual 95, 3) := by decide +kernel
theorem dX7_factor_176 : decode cX7_factor 176 = .ok (.istore 4, 2) := by decide +kernel
theorem dX7_factor_178 : decode cX7_factor 178 = .ok (.aload_n 0, 1) := by decide +kernel
theorem dX7_factor_179 : decode cX7_factor 179 = .ok (.iload_n 2, 1) := by decide +kernel
theorem dX7_factor_180 : decode cX7_factor 180 = .ok (.bipush 8, 2) := by decide +kernel
theorem dX7_factor_182 : decode cX7_factor 182 = .ok (.iload_n 3, 1) := by decide +kernel
theorem dX7_factor_183 : decode cX7_factor 183 = .ok (.imul, 1) := by decide +kernel
theorem dX7_factor_184 : decode cX7_factor 184 = .ok (.iadd, 1) := by decide +kernel
theorem dX7_factor_185 : decode cX7_factor 185 = .ok (.bipush 32, 2) := by decide +kernel
theorem dX7_factor_187 : decode cX7_factor 187 = .ok (.iload 4, 2) := by decide +kernel
theorem dX7_factor_189 : decode cX7_factor 189 = .ok (.imul, 1) := by decide +kernel
theorem dX7_factor_190 : decode cX7_factor 190 = .ok (.iadd, 1) := by decide +kernel
theorem dX7_factor_191 : decode cX7_factor 191 = .ok (.invokevirtual 81, 3) := by decide +kernel
theorem dX7_factor_194 : decode cX7_factor 194 = .ok (.return_, 1) := by decide +kernel
theorem dX7_every_0 : decode cX7_every 0 = .ok (.aload_n 0, 1) := by decide +kernel
theorem dX7_every_1 : decode cX7_every 1 = .ok (.invokevirtual 78, 3) := by decide +kernel
theorem dX7_every_4 : decode cX7_every 4 = .ok (.aload_n 0, 1) := by decide +kernel
theorem dX7_every_5 : decode cX7_every 5 = .ok (.getfield 51, 3) := by decide +kernel
theorem dX7_every_8 : decode cX7_every 8 = .ok (.ifCond .ne 35, 3) := by decide +kernel
theorem dX7_every_11 : decode cX7_every 11 = .ok (.aload_n 0, 1) := by decide +kernel
theorem dX7_every_12 : decode cX7_every 12 = .ok (.invokevirtual 55, 3) := by decide +kernel
theorem dX7_every_15 : decode cX7_every 15 = .ok (.bipush 38, 2) := by decide +kernel
theorem dX7_every_17 : decode cX7_every 17 = .ok (.if_icmp .ne 26, 3) := by decide +kernel
theorem dX7_every_20 : decode cX7_every 20 = .ok (.aload_n 0, 1) := by decide +kernel
theorem dX7_every_21 : decode cX7_every 21 = .ok (.dup, 1) := by decide +kernel
theorem dX7_every_22 : decode cX7_every 22 = .ok (.getfield 45, 3) := by decide +kernel
theorem dX7_every_25 : decode cX7_every 25 = .ok (.iconst 1, 1) := by decide +kernel
theorem dX7_every_26 : decode cX7_every 26 = .ok (.iadd, 1) := by decide +kernel
theorem dX7_every_27 : decode cX7_every 27 = .ok (.putfield 45, 3) := by decide +kernel
theorem dX7_every_30 : decode cX7_every 30 = .ok (.aload_n 0, 1) := by decide +kernel
theorem dX7_every_31 : decode cX7_every 31 = .ok (.invokevirtual 78, 3) := by decide +kernel
theorem dX7_every_34 : decode cX7_every 34 = .ok (.aload_n 0, 1) := by decide +kernel
theorem dX7_every_35 : decode cX7_every 35 = .ok (.bipush (-2), 2) := by decide +kernel
theorem dX7_every_37 : decode cX7_every 37 = .ok (.invokevirtual 81, 3) := by decide +kernel
theorem dX7_every_40 : decode cX7_every 40 = .ok (.goto (-36), 3) := by decide +kernel
theorem dX7_every_43 : decode cX7_every 43 = .ok (.return_, 1) := by decide +kernel
theorem dX7_some_0 : decode cX7_some 0 = .ok (.aload_n 0, 1) := by decide +kernel
theorem dX7_some_1 : decode cX7_some 1 = .ok (.invokevirtual 98, 3) := by decide +kernel
theorem dX7_some_4 : decode cX7_some 4 = .ok (.aload_n 0, 1) := by decide +kernel
theorem dX7_some_5 : decode cX7_some 5 = .ok (.getfield 51, 3) := by decide +kernel
theorem dX7_some_8 : decode cX7_some 8 = .ok (.ifCond .ne 35, 3) := by decide +kernel
theorem dX7_some_11 : decode cX7_some 11 = .ok (.aload_n 0, 1) := by decide +kernel
theorem dX7_some_12 : decode cX7_some 12 = .ok (.invokevirtual 55, 3) := by decide +kernel
theorem dX7_some_15 : decode cX7_some 15 = .ok (.bipush 124, 2) := by decide +kernel
theorem dX7_some_17 : decode cX7_some 17 = .ok (.if_icmp .ne 26, 3) := by decide +kernel
theorem dX7_some_20 : decode cX7_some 20 = .ok (.aload_n 0, 1) := by decide +kernel
theorem dX7_some_21 : decode cX7_some 21 = .ok (.dup, 1) := by decide +kernel
theorem dX7_some_22 : decode cX7_some 22 = .ok (.getfield 45, 3) := by decide +kernel
theorem dX7_some_25 : decode cX7_some 25 = .ok (.iconst 1, 1) := by decide +kernel
theorem dX7_some_26 : decode cX7_some 26 = .ok (.iadd, 1) := by decide +kernel
theorem dX7_some_27 : decode cX7_some 27 = .ok (.putfield 45, 3) := by decide +kernel
theorem dX7_some_30 : decode cX7_some 30 = .ok (.aload_n 0, 1) := by decide +kernel
theorem dX7_some_31 : decode cX7_some 31 = .ok (.invokevirtual 98, 3) := by decide +kernel
theorem dX7_some_34 : decode cX7_some 34 = .ok (.aload_n 0, 1) := by decide +kernel
theorem dX7_some_35 : decode cX7_some 35 = .ok (.bipush (-3), 2) := by decide +kernel
theorem dX7_some_37 : decode cX7_some 37 = .ok (.invokevirtual 81, 3) := by decide +kernel
theorem dX7_some_40 : decode cX7_some 40 = .ok (.goto (-36), 3) := by decide +kernel
theorem dX7_some_43 : decode cX7_some 43 = .ok (.return_, 1) := by decide +kernel
theorem dX7_much_0 : decode cX7_much 0 = .ok (.aload_n 0, 1) := by decide +kernel
theorem dX7_much_1 : decode cX7_much 1 = .ok (.aload_n 2, 1) := by decide +kernel
theorem dX7_much_2 : decode cX7_much 2 = .ok (.invokevirtual 101, 3) := by decide +kernel
theorem dX7_much_5 : decode cX7_much 5 = .ok (.aload_n 0, 1) := by decide +kernel
theorem dX7_much_6 : decode cX7_much 6 = .ok (.invokevirtual 95, 3) := by decide +kernel
theorem dX7_much_9 : decode cX7_much 9 = .ok (.istore_n 3, 1) := by decide +kernel
theorem dX7_much_10 : decode cX7_much 10 = .ok (.aload_n 0, 1) := by decide +kernel
theorem dX7_much_11 : decode cX7_much 11 = .ok (.bipush 32, 2) := by decide +kernel
theorem dX7_much_13 : decode cX7_much 13 = .ok (.invokevirtual 68, 3) := by decide +kernel
theorem dX7_much_16 : decode cX7_much 16 = .ok (.aload_n 0, 1) := by decide +kernel
theorem dX7_much_17 : decode cX7_much 17 = .ok (.invokevirtual 84, 3) := by decide +kernel
theorem dX7_much_20 : decode cX7_much 20 = .ok (.aload_n 0, 1) := by decide +kernel
theorem dX7_much_21 : decode cX7_much 21 = .ok (.iload_n 1, 1) := by decide +kernel
theorem dX7_much_22 : decode cX7_much 22 = .ok (.iload_n 3, 1) := by decide +kernel
theorem dX7_much_23 : decode cX7_much 23 = .ok (.isub, 1) := by decide +kernel
theorem dX7_much_24 : decode cX7_much 24 = .ok (.invokevirtual 81, 3) := by decide +kernel
theorem dX7_much_27 : decode cX7_much 27 = .ok (.return_, 1) := by decide +kernel
theorem dX7_tellsHere_0 : decode cX7_tellsHere 0 = .ok (.aload_n 0, 1) := by decide +kernel
theorem dX7_tellsHere_1 : decode cX7_tellsHere 1 = .ok (.aload_n 2, 1) := by decide +kernel
theorem dX7_tellsHere_2 : decode cX7_tellsHere 2 = .ok (.invokevirtual 101, 3) := by decide +kernel
theorem dX7_tellsHere_5 : decode cX7_tellsHere 5 = .ok (.aload_n 0, 1) := by decide +kernel
theorem dX7_tellsHere_6 : decode cX7_tellsHere 6 = .ok (.invokevirtual 95, 3) := by decide +kernel
theorem dX7_tellsHere_9 : decode cX7_tellsHere 9 = .ok (.istore_n 3, 1) := by decide +kernel
theorem dX7_tellsHere_10 : decode cX7_tellsHere 10 = .ok (.aload_n 0, 1) := by decide +kernel
theorem dX7_tellsHere_11 : decode cX7_tellsHere 11 = .ok (.getfield 51, 3) := by decide +kernel
theorem dX7_tellsHere_14 : decode cX7_tellsHere 14 = .ok (.ifCond .ne 15, 3) := by decide +kernel
theorem dX7_tellsHere_17 : decode cX7_tellsHere 17 = .ok (.aload_n 0, 1) := by decide +kernel
theorem dX7_tellsHere_18 : decode cX7_tellsHere 18 = .ok (.getfield 9, 3) := by decide +kernel
theorem dX7_tellsHere_21 : decode cX7_tellsHere 21 = .ok (.iload_n 1, 1) := by decide +kernel
theorem dX7_tellsHere_22 : decode cX7_tellsHere 22 = .ok (.aload_n 0, 1) := by decide +kernel
theorem dX7_tellsHere_23 : decode cX7_tellsHere 23 = .ok (.getfield 72, 3) := by decide +kernel
theorem dX7_tellsHere_26 : decode cX7_tellsHere 26 = .ok (.iadd, 1) := by decide +kernel
theorem dX7_tellsHere_27 : decode cX7_tellsHere 27 = .ok (.iload_n 3, 1) := by decide +kernel
theorem dX7_tellsHere_28 : decode cX7_tellsHere 28 = .ok (.iastore, 1) := by decide +kernel
theorem dX7_tellsHere_29 : decode cX7_tellsHere 29 = .ok (.return_, 1) := by decide +kernel
theorem dX7_clauseHere_0 : decode cX7_clauseHere 0 = .ok (.aload_n 0, 1) := by decide +kernel
theorem dX7_clauseHere_1 : decode cX7_clauseHere 1 = .ok (.invokevirtual 55, 3) := by decide +kernel
theorem dX7_clauseHere_4 : decode cX7_clauseHere 4 = .ok (.lookupswitch 118 #[(104, 44), (114, 106), (115, 55), (119, 67)], 44) := by decide +kernel
theorem dX7_clauseHere_48 : decode cX7_clauseHere 48 = .ok (.aload_n 0, 1) := by decide +kernel
theorem dX7_clauseHere_49 : decode cX7_clauseHere 49 = .ok (.bipush (-10), 2) := by decide +kernel
theorem dX7_clauseHere_51 : decode cX7_clauseHere 51 = .ok (.ldc 105, 2) := by decide +kernel
theorem dX7_clauseHere_53 : decode cX7_clauseHere 53 = .ok (.invokevirtual 107, 3) := by decide +kernel
theorem dX7_clauseHere_56 : decode cX7_clauseHere 56 = .ok (.goto 71, 3) := by decide +kernel
theorem dX7_clauseHere_59 : decode cX7_clauseHere 59 = .ok (.aload_n 0, 1) := by decide +kernel
theorem dX7_clauseHere_60 : decode cX7_clauseHere 60 = .ok (.sipush (-200), 3) := by decide +kernel
theorem dX7_clauseHere_63 : decode cX7_clauseHere 63 = .ok (.ldc 111, 2) := by decide +kernel
theorem dX7_clauseHere_65 : decode cX7_clauseHere 65 = .ok (.invokevirtual 107, 3) := by decide +kernel
theorem dX7_clauseHere_68 : decode cX7_clauseHere 68 = .ok (.goto 59, 3) := by decide +kernel
theorem dX7_clauseHere_71 : decode cX7_clauseHere 71 = .ok (.aload_n 0, 1) := by decide +kernel
theorem dX7_clauseHere_72 : decode cX7_clauseHere 72 = .ok (.bipush 119, 2) := by decide +kernel
theorem dX7_clauseHere_74 : decode cX7_clauseHere 74 = .ok (.invokevirtual 68, 3) := by decide +kernel
theorem dX7_clauseHere_77 : decode cX7_clauseHere 77 = .ok (.aload_n 0, 1) := by decide +kernel
theorem dX7_clauseHere_78 : decode cX7_clauseHere 78 = .ok (.invokevirtual 55, 3) := by decide +kernel
theorem dX7_clauseHere_81 : decode cX7_clauseHere 81 = .ok (.bipush 105, 2) := by decide +kernel
theorem dX7_clauseHere_83 : decode cX7_clauseHere 83 = .ok (.if_icmp .ne 15, 3) := by decide +kernel
theorem dX7_clauseHere_86 : decode cX7_clauseHere 86 = .ok (.aload_n 0, 1) := by decide +kernel
theorem dX7_clauseHere_87 : decode cX7_clauseHere 87 = .ok (.sipush (-400), 3) := by decide +kernel
theorem dX7_clauseHere_90 : decode cX7_clauseHere 90 = .ok (.ldc 113, 2) := by decide +kernel
theorem dX7_clauseHere_92 : decode cX7_clauseHere 92 = .ok (.invokevirtual 107, 3) := by decide +kernel
theorem dX7_clauseHere_95 : decode cX7_clauseHere 95 = .ok (.goto 32, 3) := by decide +kernel
theorem dX7_clauseHere_98 : decode cX7_clauseHere 98 = .ok (.aload_n 0, 1) := by decide +kernel
theorem dX7_clauseHere_99 : decode cX7_clauseHere 99 = .ok (.sipush 200, 3) := by decide +kernel
theorem dX7_clauseHere_102 : decode cX7_clauseHere 102 = .ok (.ldc 115, 2) := by decide +kernel
theorem dX7_clauseHere_104 : decode cX7_clauseHere 104 = .ok (.invokevirtual 117, 3) := by decide +kernel
theorem dX7_clauseHere_107 : decode cX7_clauseHere 107 = .ok (.goto 20, 3) := by decide +kernel
theorem dX7_clauseHere_110 : decode cX7_clauseHere 110 = .ok (.aload_n 0, 1) := by decide +kernel
theorem dX7_clauseHere_111 : decode cX7_clauseHere 111 = .ok (.sipush 205, 3) := by decide +kernel
theorem dX7_clauseHere_114 : decode cX7_clauseHere 114 = .ok (.ldc 120, 2) := by decide +kernel
theorem dX7_clauseHere_116 : decode cX7_clauseHere 116 = .ok (.invokevirtual 117, 3) := by decide +kernel
theorem dX7_clauseHere_119 : decode cX7_clauseHere 119 = .ok (.goto 8, 3) := by decide +kernel
theorem dX7_clauseHere_122 : decode cX7_clauseHere 122 = .ok (.aload_n 0, 1) := by decide +kernel
theorem dX7_clauseHere_123 : decode cX7_clauseHere 123 = .ok (.iconst 1, 1) := by decide +kernel
theorem dX7_clauseHere_124 : decode cX7_clauseHere 124 = .ok (.putfield 51, 3) := by decide +kernel
theorem dX7_clauseHere_127 : decode cX7_clauseHere 127 = .ok (.return_, 1) := by decide +kernel
theorem dX7_wood_0 : decode cX7_wood 0 = .ok (.aload_n 0, 1) := by decide +kernel
theorem dX7_wood_1 : decode cX7_wood 1 = .ok (.getfield 9, 3) := by decide +kernel
theorem dX7_wood_4 : decode cX7_wood 4 = .ok (.iconst 1, 1) := by decide +kernel
theorem dX7_wood_5 : decode cX7_wood 5 = .ok (.iaload, 1) := by decide +kernel
theorem dX7_wood_6 : decode cX7_wood 6 = .ok (.iconst 5, 1) := by decide +kernel
theorem dX7_wood_7 : decode cX7_wood 7 = .ok (.if_icmp .ne 6, 3) := by decide +kernel
theorem dX7_wood_10 : decode cX7_wood 10 = .ok (.bipush (-4), 2) := by decide +kernel
theorem dX7_wood_12 : decode cX7_wood 12 = .ok (.ireturn, 1) := by decide +kernel
theorem dX7_wood_13 : decode cX7_wood 13 = .ok (.aload_n 0, 1) := by decide +kernel
theorem dX7_wood_14 : decode cX7_wood 14 = .ok (.aload_n 0, 1) := by decide +kernel
theorem dX7_wood_15 : decode cX7_wood 15 = .ok (.getfield 9, 3) := by decide +kernel
theorem dX7_wood_18 : decode cX7_wood 18 = .ok (.iconst 1, 1) := by decide +kernel
theorem dX7_wood_19 : decode cX7_wood 19 = .ok (.iaload, 1) := by decide +kernel
theorem dX7_wood_20 : decode cX7_wood 20 = .ok (.putfield 72, 3) := by decide +kernel
theorem dX7_wood_23 : decode cX7_wood 23 = .ok (.aload_n 0, 1) := by decide +kernel
theorem dX7_wood_24 : decode cX7_wood 24 = .ok (.aload_n 0, 1) := by decide +kernel
theorem dX7_wood_25 : decode cX7_wood 25 = .ok (.getfield 9, 3) := by decide +kernel
theorem dX7_wood_28 : decode cX7_wood 28 = .ok (.iconst 3, 1) := by decide +kernel
theorem dX7_wood_29 : decode cX7_wood 29 = .ok (.iaload, 1) := by decide +kernel
theorem dX7_wood_30 : decode cX7_wood 30 = .ok (.putfield 48, 3) := by decide +kernel
theorem dX7_wood_33 : decode cX7_wood 33 = .ok (.aload_n 0, 1) := by decide +kernel
theorem dX7_wood_34 : decode cX7_wood 34 = .ok (.getfield 9, 3) := by decide +kernel
theorem dX7_wood_37 : decode cX7_wood 37 = .ok (.iconst 3, 1) := by decide +kernel
theorem dX7_wood_38 : decode cX7_wood 38 = .ok (.iconst 0, 1) := by decide +kernel
theorem dX7_wood_39 : decode cX7_wood 39 = .ok (.iastore, 1) := by decide +kernel
theorem dX7_wood_40 : decode cX7_wood 40 = .ok (.aload_n 0, 1) := by decide +kernel
theorem dX7_wood_41 : decode cX7_wood 41 = .ok (.getfield 9, 3) := by decide +kernel
theorem dX7_wood_44 : decode cX7_wood 44 = .ok (.sipush 200, 3) := by decide +kernel
theorem dX7_wood_47 : decode cX7_wood 47 = .ok (.aload_n 0, 1) := by decide +kernel
theorem dX7_wood_48 : decode cX7_wood 48 = .ok (.getfield 72, 3) := by decide +kernel
theorem dX7_wood_51 : decode cX7_wood 51 = .ok (.iadd, 1) := by decide +kernel
theorem dX7_wood_52 : decode cX7_wood 52 = .ok (.iconst 3, 1) := by decide +kernel
theorem dX7_wood_53 : decode cX7_wood 53 = .ok (.iastore, 1) := by decide +kernel
theorem dX7_wood_54 : decode cX7_wood 54 = .ok (.aload_n 0, 1) := by decide +kernel
theorem dX7_wood_55 : decode cX7_wood 55 = .ok (.getfield 9, 3) := by decide +kernel
theorem dX7_wood_58 : decode cX7_wood 58 = .ok (.sipush 205, 3) := by decide +kernel
theorem dX7_wood_61 : decode cX7_wood 61 = .ok (.aload_n 0, 1) := by decide +kernel
theorem dX7_wood_62 : decode cX7_wood 62 = .ok (.getfield 72, 3) := by decide +kernel
theorem dX7_wood_65 : decode cX7_wood 65 = .ok (.iadd, 1) := by decide +kernel
theorem dX7_wood_66 : decode cX7_wood 66 = .ok (.iconst 2, 1) := by decide +kernel
theorem dX7_wood_67 : decode cX7_wood 67 = .ok (.iastore, 1) := by decide +kernel
theorem dX7_wood_68 : decode cX7_wood 68 = .ok (.aload_n 0, 1) := by decide +kernel
theorem dX7_wood_69 : decode cX7_wood 69 = .ok (.getfield 9, 3) := by decide +kernel
theorem dX7_wood_72 : decode cX7_wood 72 = .ok (.sipush 274, 3) := by decide +kernel
theorem dX7_wood_75 : decode cX7_wood 75 = .ok (.aload_n 0, 1) := by decide +kernel
theorem dX7_wood_76 : decode cX7_wood 76 = .ok (.getfield 72, 3) := by decide +kernel
theorem dX7_wood_79 : decode cX7_wood 79 = .ok (.iadd, 1) := by decide +kernel
theorem dX7_wood_80 : decode cX7_wood 80 = .ok (.iconst 0, 1) := by decide +kernel
theorem dX7_wood_81 : decode cX7_wood 81 = .ok (.iastore, 1) := by decide +kernel
theorem dX7_wood_82 : decode cX7_wood 82 = .ok (.aload_n 0, 1) := by decide +kernel
theorem dX7_wood_83 : decode cX7_wood 83 = .ok (.iconst 0, 1) := by decide +kernel
theorem dX7_wood_84 : decode cX7_wood 84 = .ok (.putfield 45, 3) := by decide +kernel
theorem dX7_wood_87 : decode cX7_wood 87 = .ok (.aload_n 0, 1) := by decide +kernel
theorem dX7_wood_88 : decode cX7_wood 88 = .ok (.iconst 0, 1) := by decide +kernel
theorem dX7_wood_89 : decode cX7_wood 89 = .ok (.putfield 51, 3) := by decide +kernel
theorem dX7_wood_92 : decode cX7_wood 92 = .ok (.aload_n 0, 1) := by decide +kernel
theorem dX7_wood_93 : decode cX7_wood 93 = .ok (.iconst 0, 1) := by decide +kernel
theorem dX7_wood_94 : decode cX7_wood 94 = .ok (.putfield 75, 3) := by decide +kernel
theorem dX7_wood_97 : decode cX7_wood 97 = .ok (.iconst 1, 1) := by decide +kernel
theorem dX7_wood_98 : decode cX7_wood 98 = .ok (.istore_n 1, 1) := by decide +kernel
theorem dX7_wood_99 : decode cX7_wood 99 = .ok (.aload_n 0, 1) := by decide +kernel
theorem dX7_wood_100 : decode cX7_wood 100 = .ok (.invokevirtual 122, 3) := by decide +kernel
theorem dX7_wood_103 : decode cX7_wood 103 = .ok (.aload_n 0, 1) := by decide +kernel
theorem dX7_wood_104 : decode cX7_wood 104 = .ok (.getfield 51, 3) := by decide +kernel
theorem dX7_wood_107 : decode cX7_wood 107 = .ok (.ifCond .ne 38, 3) := by decide +kernel
theorem dX7_wood_110 : decode cX7_wood 110 = .ok (.iload_n 1, 1) := by decide +kernel
theorem dX7_wood_111 : decode cX7_wood 111 = .ok (.bipush 10, 2) := by decide +kernel
theorem dX7_wood_113 : decode cX7_wood 113 = .ok (.if_icmp .ge 32, 3) := by decide +kernel
theorem dX7_wood_116 : decode cX7_wood 116 = .ok (.aload_n 0, 1) := by decide +kernel
theorem dX7_wood_117 : decode cX7_wood 117 = .ok (.invokevirtual 55, 3) := by decide +kernel
theorem dX7_wood_120 : decode cX7_wood 120 = .ok (.bipush 59, 2) := by decide +kernel
theorem dX7_wood_122 : decode cX7_wood 122 = .ok (.if_icmp .ne 23, 3) := by decide +kernel
theorem dX7_wood_125 : decode cX7_wood 125 = .ok (.aload_n 0, 1) := by decide +kernel
theorem dX7_wood_126 : decode cX7_wood 126 = .ok (.dup, 1) := by decide +kernel
theorem dX7_wood_127 : decode cX7_wood 127 = .ok (.getfield 45, 3) := by decide +kernel
theorem dX7_wood_130 : decode cX7_wood 130 = .ok (.iconst 1, 1) := by decide +kernel
theorem dX7_wood_131 : decode cX7_wood 131 = .ok (.iadd, 1) := by decide +kernel
theorem dX7_wood_132 : decode cX7_wood 132 = .ok (.putfield 45, 3) := by decide +kernel
theorem dX7_wood_135 : decode cX7_wood 135 = .ok (.aload_n 0, 1) := by decide +kernel
theorem dX7_wood_136 : decode cX7_wood 136 = .ok (.invokevirtual 122, 3) := by decide +kernel
theorem dX7_wood_139 : decode cX7_wood 139 = .ok (.iinc 1 1, 3) := by decide +kernel
theorem dX7_wood_142 : decode cX7_wood 142 = .ok (.goto (-39), 3) := by decide +kernel
theorem dX7_wood_145 : decode cX7_wood 145 = .ok (.aload_n 0, 1) := by decide +kernel
theorem dX7_wood_146 : decode cX7_wood 146 = .ok (.getfield 51, 3) := by decide +kernel
theorem dX7_wood_149 : decode cX7_wood 149 = .ok (.ifCond .ne 14, 3) := by decide +kernel
theorem dX7_wood_152 : decode cX7_wood 152 = .ok (.aload_n 0, 1) := by decide +kernel
theorem dX7_wood_153 : decode cX7_wood 153 = .ok (.getfield 45, 3) := by decide +kernel
theorem dX7_wood_156 : decode cX7_wood 156 = .ok (.aload_n 0, 1) := by decide +kernel
theorem dX7_wood_157 : decode cX7_wood 157 = .ok (.getfield 48, 3) := by decide +kernel
theorem dX7_wood_160 : decode cX7_wood 160 = .ok (.if_icmp .eq 11, 3) := by decide +kernel
theorem dX7_wood_163 : decode cX7_wood 163 = .ok (.bipush (-10), 2) := by decide +kernel
theorem dX7_wood_165 : decode cX7_wood 165 = .ok (.aload_n 0, 1) := by decide +kernel
theorem dX7_wood_166 : decode cX7_wood 166 = .ok (.getfield 45, 3) := by decide +kernel
theorem dX7_wood_169 : decode cX7_wood 169 = .ok (.isub, 1) := by decide +kernel
theorem dX7_wood_170 : decode cX7_wood 170 = .ok (.ireturn, 1) := by decide +kernel
theorem dX7_wood_171 : decode cX7_wood 171 = .ok (.aload_n 0, 1) := by decide +kernel
theorem dX7_wood_172 : decode cX7_wood 172 = .ok (.getfield 9, 3) := by decide +kernel
theorem dX7_wood_175 : decode cX7_wood 175 = .ok (.iconst 1, 1) := by decide +kernel
theorem dX7_wood_176 : decode cX7_wood 176 = .ok (.dup2, 1) := by decide +kernel
theorem dX7_wood_177 : decode cX7_wood 177 = .ok (.iaload, 1) := by decide +kernel
theorem dX7_wood_178 : decode cX7_wood 178 = .ok (.iconst 1, 1) := by decide +kernel
theorem dX7_wood_179 : decode cX7_wood 179 = .ok (.iadd, 1) := by decide +kernel
theorem dX7_wood_180 : decode cX7_wood 180 = .ok (.iastore, 1) := by decide +kernel
theorem dX7_wood_181 : decode cX7_wood 181 = .ok (.aload_n 0, 1) := by decide +kernel
theorem dX7_wood_182 : decode cX7_wood 182 = .ok (.getfield 9, 3) := by decide +kernel
theorem dX7_wood_185 : decode cX7_wood 185 = .ok (.iconst 4, 1) := by decide +kernel
theorem dX7_wood_186 : decode cX7_wood 186 = .ok (.aload_n 0, 1) := by decide +kernel
theorem dX7_wood_187 : decode cX7_wood 187 = .ok (.getfield 72, 3) := by decide +kernel
theorem dX7_wood_190 : decode cX7_wood 190 = .ok (.iastore, 1) := by decide +kernel
theorem dX7_wood_191 : decode cX7_wood 191 = .ok (.aload_n 0, 1) := by decide +kernel
theorem dX7_wood_192 : decode cX7_wood 192 = .ok (.getfield 72, 3) := by decide +kernel
theorem dX7_wood_195 : decode cX7_wood 195 = .ok (.ireturn, 1) := by decide +kernel
theorem dX7_tellsOf_0 : decode cX7_tellsOf 0 = .ok (.aload_n 0, 1) := by decide +kernel
theorem dX7_tellsOf_1 : decode cX7_tellsOf 1 = .ok (.getfield 9, 3) := by decide +kernel
theorem dX7_tellsOf_4 : decode cX7_tellsOf 4 = .ok (.iconst 4, 1) := by decide +kernel
theorem dX7_tellsOf_5 : decode cX7_tellsOf 5 = .ok (.iaload, 1) := by decide +kernel
theorem dX7_tellsOf_6 : decode cX7_tellsOf 6 = .ok (.iconst (-1), 1) := by decide +kernel
theorem dX7_tellsOf_7 : decode cX7_tellsOf 7 = .ok (.if_icmp .ne 7, 3) := by decide +kernel
theorem dX7_tellsOf_10 : decode cX7_tellsOf 10 = .ok (.iload_n 2, 1) := by decide +kernel
theorem dX7_tellsOf_11 : decode cX7_tellsOf 11 = .ok (.goto 16, 3) := by decide +kernel
theorem dX7_tellsOf_14 : decode cX7_tellsOf 14 = .ok (.aload_n 0, 1) := by decide +kernel
theorem dX7_tellsOf_15 : decode cX7_tellsOf 15 = .ok (.getfield 9, 3) := by decide +kernel
theorem dX7_tellsOf_18 : decode cX7_tellsOf 18 = .ok (.iload_n 1, 1) := by decide +kernel
theorem dX7_tellsOf_19 : decode cX7_tellsOf 19 = .ok (.aload_n 0, 1) := by decide +kernel
theorem dX7_tellsOf_20 : decode cX7_tellsOf 20 = .ok (.getfield 9, 3) := by decide +kernel
theorem dX7_tellsOf_23 : decode cX7_tellsOf 23 = .ok (.iconst 4, 1) := by decide +kernel
theorem dX7_tellsOf_24 : decode cX7_tellsOf 24 = .ok (.iaload, 1) := by decide +kernel
theorem dX7_tellsOf_25 : decode cX7_tellsOf 25 = .ok (.iadd, 1) := by decide +kernel
theorem dX7_tellsOf_26 : decode cX7_tellsOf 26 = .ok (.iaload, 1) := by decide +kernel
theorem dX7_tellsOf_27 : decode cX7_tellsOf 27 = .ok (.ireturn, 1) := by decide +kernel
theorem dX7_told_0 : decode cX7_told 0 = .ok (.iload_n 1, 1) := by decide +kernel
theorem dX7_told_1 : decode cX7_told 1 = .ok (.tableswitch 52 0 2 #[27, 36, 45], 27) := by decide +kernel
theorem dX7_told_28 : decode cX7_told 28 = .ok (.aload_n 0, 1) := by decide +kernel
theorem dX7_told_29 : decode cX7_told 29 = .ok (.sipush 200, 3) := by decide +kernel
theorem dX7_told_32 : decode cX7_told 32 = .ok (.iconst 3, 1) := by decide +kernel
theorem dX7_told_33 : decode cX7_told 33 = .ok (.invokevirtual 125, 3) := by decide +kernel
theorem dX7_told_36 : decode cX7_told 36 = .ok (.ireturn, 1) := by decide +kernel
theorem dX7_told_37 : decode cX7_told 37 = .ok (.aload_n 0, 1) := by decide +kernel
theorem dX7_told_38 : decode cX7_told 38 = .ok (.sipush 205, 3) := by decide +kernel
theorem dX7_told_41 : decode cX7_told 41 = .ok (.iconst 2, 1) := by decide +kernel
theorem dX7_told_42 : decode cX7_told 42 = .ok (.invokevirtual 125, 3) := by decide +kernel
theorem dX7_told_45 : decode cX7_told 45 = .ok (.ireturn, 1) := by decide +kernel
theorem dX7_told_46 : decode cX7_told 46 = .ok (.aload_n 0, 1) := by decide +kernel
theorem dX7_told_47 : decode cX7_told 47 = .ok (.getfield 9, 3) := by decide +kernel
theorem dX7_told_50 : decode cX7_told 50 = .ok (.iconst 5, 1) := by decide +kernel
theorem dX7_told_51 : decode cX7_told 51 = .ok (.iaload, 1) := by decide +kernel
theorem dX7_told_52 : decode cX7_told 52 = .ok (.ireturn, 1) := by decide +kernel
theorem dX7_told_53 : decode cX7_told 53 = .ok (.iconst (-1), 1) := by decide +kernel
theorem dX7_told_54 : decode cX7_told 54 = .ok (.ireturn, 1) := by decide +kernel
theorem dX7_looks_0 : decode cX7_looks 0 = .ok (.aload_n 0, 1) := by decide +kernel
theorem dX7_looks_1 : decode cX7_looks 1 = .ok (.getfield 18, 3) := by decide +kernel
theorem dX7_looks_4 : decode cX7_looks 4 = .ok (.iconst 0, 1) := by decide +kernel
theorem dX7_looks_5 : decode cX7_looks 5 = .ok (.iload_n 1, 1) := by decide +kernel
theorem dX7_looks_6 : decode cX7_looks 6 = .ok (.iastore, 1) := by decide +kernel
theorem dX7_looks_7 : decode cX7_looks 7 = .ok (.aload_n 0, 1) := by decide +kernel
theorem dX7_looks_8 : decode cX7_looks 8 = .ok (.getfield 18, 3) := by decide +kernel
theorem dX7_looks_11 : decode cX7_looks 11 = .ok (.iconst 1, 1) := by decide +kernel
theorem dX7_looks_12 : decode cX7_looks 12 = .ok (.aload_n 0, 1) := by decide +kernel
theorem dX7_looks_13 : decode cX7_looks 13 = .ok (.getfield 9, 3) := by decide +kernel
theorem dX7_looks_16 : decode cX7_looks 16 = .ok (.bipush 110, 2) := by decide +kernel
theorem dX7_looks_18 : decode cX7_looks 18 = .ok (.iload_n 1, 1) := by decide +kernel
theorem dX7_looks_19 : decode cX7_looks 19 = .ok (.iadd, 1) := by decide +kernel
theorem dX7_looks_20 : decode cX7_looks 20 = .ok (.iaload, 1) := by decide +kernel
theorem dX7_looks_21 : decode cX7_looks 21 = .ok (.iastore, 1) := by decide +kernel
theorem dX7_looks_22 : decode cX7_looks 22 = .ok (.aload_n 0, 1) := by decide +kernel
theorem dX7_looks_23 : decode cX7_looks 23 = .ok (.getfield 18, 3) := by decide +kernel
theorem dX7_looks_26 : decode cX7_looks 26 = .ok (.iconst 2, 1) := by decide +kernel
theorem dX7_looks_27 : decode cX7_looks 27 = .ok (.aload_n 0, 1) := by decide +kernel
theorem dX7_looks_28 : decode cX7_looks 28 = .ok (.getfield 9, 3) := by decide +kernel
theorem dX7_looks_31 : decode cX7_looks 31 = .ok (.sipush 128, 3) := by decide +kernel
theorem dX7_looks_34 : decode cX7_looks 34 = .ok (.iload_n 1, 1) := by decide +kernel
theorem dX7_looks_35 : decode cX7_looks 35 = .ok (.iadd, 1) := by decide +kernel
theorem dX7_looks_36 : decode cX7_looks 36 = .ok (.iaload, 1) := by decide +kernel
theorem dX7_looks_37 : decode cX7_looks 37 = .ok (.iastore, 1) := by decide +kernel
theorem dX7_looks_38 : decode cX7_looks 38 = .ok (.aload_n 0, 1) := by decide +kernel
theorem dX7_looks_39 : decode cX7_looks 39 = .ok (.getfield 18, 3) := by decide +kernel
theorem dX7_looks_42 : decode cX7_looks 42 = .ok (.iconst 3, 1) := by decide +kernel
theorem dX7_looks_43 : decode cX7_looks 43 = .ok (.aload_n 0, 1) := by decide +kernel
theorem dX7_looks_44 : decode cX7_looks 44 = .ok (.getfield 9, 3) := by decide +kernel
theorem dX7_looks_47 : decode cX7_looks 47 = .ok (.sipush 134, 3) := by decide +kernel
theorem dX7_looks_50 : decode cX7_looks 50 = .ok (.iload_n 1, 1) := by decide +kernel
theorem dX7_looks_51 : decode cX7_looks 51 = .ok (.iadd, 1) := by decide +kernel
theorem dX7_looks_52 : decode cX7_looks 52 = .ok (.iaload, 1) := by decide +kernel
theorem dX7_looks_53 : decode cX7_looks 53 = .ok (.iastore, 1) := by decide +kernel
theorem dX7_looks_54 : decode cX7_looks 54 = .ok (.aload_n 0, 1) := by decide +kernel
theorem dX7_looks_55 : decode cX7_looks 55 = .ok (.getfield 18, 3) := by decide +kernel
theorem dX7_looks_58 : decode cX7_looks 58 = .ok (.iconst 4, 1) := by decide +kernel
theorem dX7_looks_59 : decode cX7_looks 59 = .ok (.aload_n 0, 1) := by decide +kernel
theorem dX7_looks_60 : decode cX7_looks 60 = .ok (.getfield 9, 3) := by decide +kernel
theorem dX7_looks_63 : decode cX7_looks 63 = .ok (.sipush 146, 3) := by decide +kernel
theorem dX7_looks_66 : decode cX7_looks 66 = .ok (.iload_n 1, 1) := by decide +kernel
theorem dX7_looks_67 : decode cX7_looks 67 = .ok (.iadd, 1) := by decide +kernel
theorem dX7_looks_68 : decode cX7_looks 68 = .ok (.iaload, 1) := by decide +kernel
theorem dX7_looks_69 : decode cX7_looks 69 = .ok (.iastore, 1) := by decide +kernel
theorem dX7_looks_70 : decode cX7_looks 70 = .ok (.aload_n 0, 1) := by decide +kernel
theorem dX7_looks_71 : decode cX7_looks 71 = .ok (.getfield 18, 3) := by decide +kernel
theorem dX7_looks_74 : decode cX7_looks 74 = .ok (.iconst 5, 1) := by decide +kernel
theorem dX7_looks_75 : decode cX7_looks 75 = .ok (.iload_n 2, 1) := by decide +kernel
theorem dX7_looks_76 : decode cX7_looks 76 = .ok (.iastore, 1) := by decide +kernel
theorem dX7_looks_77 : decode cX7_looks 77 = .ok (.aload_n 0, 1) := by decide +kernel
theorem dX7_looks_78 : decode cX7_looks 78 = .ok (.iconst 1, 1) := by decide +kernel
theorem dX7_looks_79 : decode cX7_looks 79 = .ok (.putfield 129, 3) := by decide +kernel
theorem dX7_looks_82 : decode cX7_looks 82 = .ok (.aload_n 0, 1) := by decide +kernel
theorem dX7_looks_83 : decode cX7_looks 83 = .ok (.bipush 40, 2) := by decide +kernel
theorem dX7_looks_85 : decode cX7_looks 85 = .ok (.putfield 132, 3) := by decide +kernel
theorem dX7_looks_88 : decode cX7_looks 88 = .ok (.aload_n 0, 1) := by decide +kernel
theorem dX7_looks_89 : decode cX7_looks 89 = .ok (.iconst 0, 1) := by decide +kernel
theorem dX7_looks_90 : decode cX7_looks 90 = .ok (.putfield 135, 3) := by decide +kernel
theorem dX7_looks_93 : decode cX7_looks 93 = .ok (.aload_n 0, 1) := by decide +kernel
theorem dX7_looks_94 : decode cX7_looks 94 = .ok (.sipush 274, 3) := by decide +kernel
theorem dX7_looks_97 : decode cX7_looks 97 = .ok (.iconst 0, 1) := by decide +kernel
theorem dX7_looks_98 : decode cX7_looks 98 = .ok (.invokevirtual 125, 3) := by decide +kernel
theorem dX7_looks_101 : decode cX7_looks 101 = .ok (.istore_n 3, 1) := by decide +kernel
theorem dX7_looks_102 : decode cX7_looks 102 = .ok (.sipush 279, 3) := by decide +kernel
theorem dX7_looks_105 : decode cX7_looks 105 = .ok (.sipush 140, 3) := by decide +kernel
theorem dX7_looks_108 : decode cX7_looks 108 = .ok (.aload_n 0, 1) := by decide +kernel
theorem dX7_looks_109 : decode cX7_looks 109 = .ok (.getfield 9, 3) := by decide +kernel
theorem dX7_looks_112 : decode cX7_looks 112 = .ok (.iconst 4, 1) := by decide +kernel
theorem dX7_looks_113 : decode cX7_looks 113 = .ok (.iaload, 1) := by decide +kernel
theorem dX7_looks_114 : decode cX7_looks 114 = .ok (.imul, 1) := by decide +kernel
theorem dX7_looks_115 : decode cX7_looks 115 = .ok (.iadd, 1) := by decide +kernel
theorem dX7_looks_116 : decode cX7_looks 116 = .ok (.istore 4, 2) := by decide +kernel
theorem dX7_looks_118 : decode cX7_looks 118 = .ok (.iconst 0, 1) := by decide +kernel
theorem dX7_looks_119 : decode cX7_looks 119 = .ok (.istore 5, 2) := by decide +kernel
theorem dX7_looks_121 : decode cX7_looks 121 = .ok (.iload 4, 2) := by decide +kernel
theorem dX7_looks_123 : decode cX7_looks 123 = .ok (.istore 6, 2) := by decide +kernel
theorem dX7_looks_125 : decode cX7_looks 125 = .ok (.iload 6, 2) := by decide +kernel
theorem dX7_looks_127 : decode cX7_looks 127 = .ok (.iload 4, 2) := by decide +kernel
theorem dX7_looks_129 : decode cX7_looks 129 = .ok (.iload_n 3, 1) := by decide +kernel
theorem dX7_looks_130 : decode cX7_looks 130 = .ok (.iadd, 1) := by decide +kernel
theorem dX7_looks_131 : decode cX7_looks 131 = .ok (.if_icmp .ge 352, 3) := by decide +kernel
theorem dX7_looks_134 : decode cX7_looks 134 = .ok (.aload_n 0, 1) := by decide +kernel
theorem dX7_looks_135 : decode cX7_looks 135 = .ok (.getfield 9, 3) := by decide +kernel
theorem dX7_looks_138 : decode cX7_looks 138 = .ok (.iload 6, 2) := by decide +kernel
theorem dX7_looks_140 : decode cX7_looks 140 = .ok (.iaload, 1) := by decide +kernel
theorem dX7_looks_141 : decode cX7_looks 141 = .ok (.istore 7, 2) := by decide +kernel
theorem dX7_looks_143 : decode cX7_looks 143 = .ok (.iload 7, 2) := by decide +kernel
theorem dX7_looks_145 : decode cX7_looks 145 = .ok (.ifCond .lt 97, 3) := by decide +kernel
theorem dX7_looks_148 : decode cX7_looks 148 = .ok (.aload_n 0, 1) := by decide +kernel
theorem dX7_looks_149 : decode cX7_looks 149 = .ok (.getfield 18, 3) := by decide +kernel
theorem dX7_looks_152 : decode cX7_looks 152 = .ok (.iload 7, 2) := by decide +kernel
theorem dX7_looks_154 : decode cX7_looks 154 = .ok (.bipush 8, 2) := by decide +kernel
theorem dX7_looks_156 : decode cX7_looks 156 = .ok (.irem, 1) := by decide +kernel
theorem dX7_looks_157 : decode cX7_looks 157 = .ok (.iaload, 1) := by decide +kernel
theorem dX7_looks_158 : decode cX7_looks 158 = .ok (.istore 8, 2) := by decide +kernel
theorem dX7_looks_160 : decode cX7_looks 160 = .ok (.iload 7, 2) := by decide +kernel
theorem dX7_looks_162 : decode cX7_looks 162 = .ok (.bipush 8, 2) := by decide +kernel
theorem dX7_looks_164 : decode cX7_looks 164 = .ok (.idiv, 1) := by decide +kernel
theorem dX7_looks_165 : decode cX7_looks 165 = .ok (.iconst 4, 1) := by decide +kernel
theorem dX7_looks_166 : decode cX7_looks 166 = .ok (.irem, 1) := by decide +kernel
theorem dX7_looks_167 : decode cX7_looks 167 = .ok (.istore 9, 2) := by decide +kernel
theorem dX7_looks_169 : decode cX7_looks 169 = .ok (.iload 7, 2) := by decide +kernel
theorem dX7_looks_171 : decode cX7_looks 171 = .ok (.bipush 32, 2) := by decide +kernel
theorem dX7_looks_173 : decode cX7_looks 173 = .ok (.idiv, 1) := by decide +kernel
theorem dX7_looks_174 : decode cX7_looks 174 = .ok (.istore 10, 2) := by decide +kernel
theorem dX7_looks_176 : decode cX7_looks 176 = .ok (.aload_n 0, 1) := by decide +kernel
theorem dX7_looks_177 : decode cX7_looks 177 = .ok (.getfield 21, 3) := by decide +kernel
theorem dX7_looks_180 : decode cX7_looks 180 = .ok (.iload 5, 2) := by decide +kernel
theorem dX7_looks_182 : decode cX7_looks 182 = .ok (.iload 9, 2) := by decide +kernel
theorem dX7_looks_184 : decode cX7_looks 184 = .ok (.ifCond .ne 18, 3) := by decide +kernel
theorem dX7_looks_187 : decode cX7_looks 187 = .ok (.iload 8, 2) := by decide +kernel
theorem dX7_looks_189 : decode cX7_looks 189 = .ok (.iload 10, 2) := by decide +kernel
theorem dX7_looks_191 : decode cX7_looks 191 = .ok (.if_icmp .ge 7, 3) := by decide +kernel
theorem dX7_looks_194 : decode cX7_looks 194 = .ok (.iconst 1, 1) := by decide +kernel
theorem dX7_looks_195 : decode cX7_looks 195 = .ok (.goto 40, 3) := by decide +kernel
theorem dX7_looks_198 : decode cX7_looks 198 = .ok (.iconst 0, 1) := by decide +kernel
theorem dX7_looks_199 : decode cX7_looks 199 = .ok (.goto 36, 3) := by decide +kernel
theorem dX7_looks_202 : decode cX7_looks 202 = .ok (.iload 9, 2) := by decide +kernel
theorem dX7_looks_204 : decode cX7_looks 204 = .ok (.iconst 1, 1) := by decide +kernel
theorem dX7_looks_205 : decode cX7_looks 205 = .ok (.if_icmp .ne 18, 3) := by decide +kernel
theorem dX7_looks_208 : decode cX7_looks 208 = .ok (.iload 8, 2) := by decide +kernel
theorem dX7_looks_210 : decode cX7_looks 210 = .ok (.iload 10, 2) := by decide +kernel
theorem dX7_looks_212 : decode cX7_looks 212 = .ok (.if_icmp .ne 7, 3) := by decide +kernel
theorem dX7_looks_215 : decode cX7_looks 215 = .ok (.iconst 1, 1) := by decide +kernel
theorem dX7_looks_216 : decode cX7_looks 216 = .ok (.goto 19, 3) := by decide +kernel
theorem dX7_looks_219 : decode cX7_looks 219 = .ok (.iconst 0, 1) := by decide +kernel
theorem dX7_looks_220 : decode cX7_looks 220 = .ok (.goto 15, 3) := by decide +kernel
theorem dX7_looks_223 : decode cX7_looks 223 = .ok (.iload 8, 2) := by decide +kernel
theorem dX7_looks_225 : decode cX7_looks 225 = .ok (.iload 10, 2) := by decide +kernel
theorem dX7_looks_227 : decode cX7_looks 227 = .ok (.if_icmp .le 7, 3) := by decide +kernel
theorem dX7_looks_230 : decode cX7_looks 230 = .ok (.iconst 1, 1) := by decide +kernel
theorem dX7_looks_231 : decode cX7_looks 231 = .ok (.goto 4, 3) := by decide +kernel
theorem dX7_looks_234 : decode cX7_looks 234 = .ok (.iconst 0, 1) := by decide +kernel
theorem dX7_looks_235 : decode cX7_looks 235 = .ok (.bastore, 1) := by decide +kernel
theorem dX7_looks_236 : decode cX7_looks 236 = .ok (.iinc 5 1, 3) := by decide +kernel
theorem dX7_looks_239 : decode cX7_looks 239 = .ok (.goto 238, 3) := by decide +kernel
theorem dX7_looks_242 : decode cX7_looks 242 = .ok (.iload 7, 2) := by decide +kernel
theorem dX7_looks_244 : decode cX7_looks 244 = .ok (.iconst (-1), 1) := by decide +kernel
theorem dX7_looks_245 : decode cX7_looks 245 = .ok (.if_icmp .ne 32, 3) := by decide +kernel
theorem dX7_looks_248 : decode cX7_looks 248 = .ok (.aload_n 0, 1) := by decide +kernel
theorem dX7_looks_249 : decode cX7_looks 249 = .ok (.getfield 21, 3) := by decide +kernel
theorem dX7_looks_252 : decode cX7_looks 252 = .ok (.iload 5, 2) := by decide +kernel
theorem dX7_looks_254 : decode cX7_looks 254 = .ok (.iconst 1, 1) := by decide +kernel
theorem dX7_looks_255 : decode cX7_looks 255 = .ok (.isub, 1) := by decide +kernel
theorem dX7_looks_256 : decode cX7_looks 256 = .ok (.aload_n 0, 1) := by decide +kernel
theorem dX7_looks_257 : decode cX7_looks 257 = .ok (.getfield 21, 3) := by decide +kernel
theorem dX7_looks_260 : decode cX7_looks 260 = .ok (.iload 5, 2) := by decide +kernel
theorem dX7_looks_262 : decode cX7_looks 262 = .ok (.iconst 1, 1) := by decide +kernel
theorem dX7_looks_263 : decode cX7_looks 263 = .ok (.isub, 1) := by decide +kernel
theorem dX7_looks_264 : decode cX7_looks 264 = .ok (.baload, 1) := by decide +kernel
theorem dX7_looks_265 : decode cX7_looks 265 = .ok (.ifCond .ne 7, 3) := by decide +kernel
theorem dX7_looks_268 : decode cX7_looks 268 = .ok (.iconst 1, 1) := by decide +kernel
theorem dX7_looks_269 : decode cX7_looks 269 = .ok (.goto 4, 3) := by decide +kernel
theorem dX7_looks_272 : decode cX7_looks 272 = .ok (.iconst 0, 1) := by decide +kernel
theorem dX7_looks_273 : decode cX7_looks 273 = .ok (.bastore, 1) := by decide +kernel
theorem dX7_looks_274 : decode cX7_looks 274 = .ok (.goto 203, 3) := by decide +kernel
theorem dX7_looks_277 : decode cX7_looks 277 = .ok (.iload 7, 2) := by decide +kernel
theorem dX7_looks_279 : decode cX7_looks 279 = .ok (.bipush (-10), 2) := by decide +kernel
theorem dX7_looks_281 : decode cX7_looks 281 = .ok (.if_icmp .le 82, 3) := by decide +kernel
theorem dX7_looks_284 : decode cX7_looks 284 = .ok (.iinc 5 (-1), 3) := by decide +kernel
theorem dX7_looks_287 : decode cX7_looks 287 = .ok (.aload_n 0, 1) := by decide +kernel
theorem dX7_looks_288 : decode cX7_looks 288 = .ok (.getfield 21, 3) := by decide +kernel
theorem dX7_looks_291 : decode cX7_looks 291 = .ok (.iload 5, 2) := by decide +kernel
theorem dX7_looks_293 : decode cX7_looks 293 = .ok (.iconst 1, 1) := by decide +kernel
theorem dX7_looks_294 : decode cX7_looks 294 = .ok (.isub, 1) := by decide +kernel
theorem dX7_looks_295 : decode cX7_looks 295 = .ok (.iload 7, 2) := by decide +kernel
theorem dX7_looks_297 : decode cX7_looks 297 = .ok (.bipush (-2), 2) := by decide +kernel
theorem dX7_looks_299 : decode cX7_looks 299 = .ok (.if_icmp .ne 33, 3) := by decide +kernel
theorem dX7_looks_302 : decode cX7_looks 302 = .ok (.aload_n 0, 1) := by decide +kernel
theorem dX7_looks_303 : decode cX7_looks 303 = .ok (.getfield 21, 3) := by decide +kernel
theorem dX7_looks_306 : decode cX7_looks 306 = .ok (.iload 5, 2) := by decide +kernel
theorem dX7_looks_308 : decode cX7_looks 308 = .ok (.iconst 1, 1) := by decide +kernel
theorem dX7_looks_309 : decode cX7_looks 309 = .ok (.isub, 1) := by decide +kernel
theorem dX7_looks_310 : decode cX7_looks 310 = .ok (.baload, 1) := by decide +kernel
theorem dX7_looks_311 : decode cX7_looks 311 = .ok (.ifCond .eq 17, 3) := by decide +kernel
theorem dX7_looks_314 : decode cX7_looks 314 = .ok (.aload_n 0, 1) := by decide +kernel
theorem dX7_looks_315 : decode cX7_looks 315 = .ok (.getfield 21, 3) := by decide +kernel
theorem dX7_looks_318 : decode cX7_looks 318 = .ok (.iload 5, 2) := by decide +kernel
theorem dX7_looks_320 : decode cX7_looks 320 = .ok (.baload, 1) := by decide +kernel
theorem dX7_looks_321 : decode cX7_looks 321 = .ok (.ifCond .eq 7, 3) := by decide +kernel
theorem dX7_looks_324 : decode cX7_looks 324 = .ok (.iconst 1, 1) := by decide +kernel
theorem dX7_looks_325 : decode cX7_looks 325 = .ok (.goto 34, 3) := by decide +kernel
theorem dX7_looks_328 : decode cX7_looks 328 = .ok (.iconst 0, 1) := by decide +kernel
theorem dX7_looks_329 : decode cX7_looks 329 = .ok (.goto 30, 3) := by decide +kernel
theorem dX7_looks_332 : decode cX7_looks 332 = .ok (.aload_n 0, 1) := by decide +kernel
theorem dX7_looks_333 : decode cX7_looks 333 = .ok (.getfield 21, 3) := by decide +kernel
theorem dX7_looks_336 : decode cX7_looks 336 = .ok (.iload 5, 2) := by decide +kernel
theorem dX7_looks_338 : decode cX7_looks 338 = .ok (.iconst 1, 1) := by decide +kernel
theorem dX7_looks_339 : decode cX7_looks 339 = .ok (.isub, 1) := by decide +kernel
theorem dX7_looks_340 : decode cX7_looks 340 = .ok (.baload, 1) := by decide +kernel
theorem dX7_looks_341 : decode cX7_looks 341 = .ok (.ifCond .ne 13, 3) := by decide +kernel
theorem dX7_looks_344 : decode cX7_looks 344 = .ok (.aload_n 0, 1) := by decide +kernel
theorem dX7_looks_345 : decode cX7_looks 345 = .ok (.getfield 21, 3) := by decide +kernel
theorem dX7_looks_348 : decode cX7_looks 348 = .ok (.iload 5, 2) := by decide +kernel
theorem dX7_looks_350 : decode cX7_looks 350 = .ok (.baload, 1) := by decide +kernel
theorem dX7_looks_351 : decode cX7_looks 351 = .ok (.ifCond .eq 7, 3) := by decide +kernel
theorem dX7_looks_354 : decode cX7_looks 354 = .ok (.iconst 1, 1) := by decide +kernel
theorem dX7_looks_355 : decode cX7_looks 355 = .ok (.goto 4, 3) := by decide +kernel
theorem dX7_looks_358 : decode cX7_looks 358 = .ok (.iconst 0, 1) := by decide +kernel
theorem dX7_looks_359 : decode cX7_looks 359 = .ok (.bastore, 1) := by decide +kernel
theorem dX7_looks_360 : decode cX7_looks 360 = .ok (.goto 117, 3) := by decide +kernel
theorem dX7_looks_363 : decode cX7_looks 363 = .ok (.iconst 0, 1) := by decide +kernel
theorem dX7_looks_364 : decode cX7_looks 364 = .ok (.istore 5, 2) := by decide +kernel
theorem dX7_looks_366 : decode cX7_looks 366 = .ok (.aload_n 0, 1) := by decide +kernel
theorem dX7_looks_367 : decode cX7_looks 367 = .ok (.getfield 21, 3) := by decide +kernel
theorem dX7_looks_370 : decode cX7_looks 370 = .ok (.iconst 0, 1) := by decide +kernel
theorem dX7_looks_371 : decode cX7_looks 371 = .ok (.baload, 1) := by decide +kernel
theorem dX7_looks_372 : decode cX7_looks 372 = .ok (.istore 8, 2) := by decide +kernel
theorem dX7_looks_374 : decode cX7_looks 374 = .ok (.aload_n 0, 1) := by decide +kernel
theorem dX7_looks_375 : decode cX7_looks 375 = .ok (.dup, 1) := by decide +kernel
theorem dX7_looks_376 : decode cX7_looks 376 = .ok (.getfield 129, 3) := by decide +kernel
theorem dX7_looks_379 : decode cX7_looks 379 = .ok (.iload 8, 2) := by decide +kernel
theorem dX7_looks_381 : decode cX7_looks 381 = .ok (.ifCond .eq 19, 3) := by decide +kernel
theorem dX7_looks_384 : decode cX7_looks 384 = .ok (.iload 7, 2) := by decide +kernel
theorem dX7_looks_386 : decode cX7_looks 386 = .ok (.sipush (-200), 3) := by decide +kernel
theorem dX7_looks_389 : decode cX7_looks 389 = .ok (.if_icmp .le 11, 3) := by decide +kernel
theorem dX7_looks_392 : decode cX7_looks 392 = .ok (.bipush (-10), 2) := by decide +kernel
theorem dX7_looks_394 : decode cX7_looks 394 = .ok (.iload 7, 2) := by decide +kernel
theorem dX7_looks_396 : decode cX7_looks 396 = .ok (.isub, 1) := by decide +kernel
theorem dX7_looks_397 : decode cX7_looks 397 = .ok (.goto 4, 3) := by decide +kernel
theorem dX7_looks_400 : decode cX7_looks 400 = .ok (.iconst 0, 1) := by decide +kernel
theorem dX7_looks_401 : decode cX7_looks 401 = .ok (.iadd, 1) := by decide +kernel
theorem dX7_looks_402 : decode cX7_looks 402 = .ok (.putfield 129, 3) := by decide +kernel
theorem dX7_looks_405 : decode cX7_looks 405 = .ok (.aload_n 0, 1) := by decide +kernel
theorem dX7_looks_406 : decode cX7_looks 406 = .ok (.dup, 1) := by decide +kernel
theorem dX7_looks_407 : decode cX7_looks 407 = .ok (.getfield 132, 3) := by decide +kernel
theorem dX7_looks_410 : decode cX7_looks 410 = .ok (.iload 8, 2) := by decide +kernel
theorem dX7_looks_412 : decode cX7_looks 412 = .ok (.ifCond .eq 28, 3) := by decide +kernel
theorem dX7_looks_415 : decode cX7_looks 415 = .ok (.iload 7, 2) := by decide +kernel
theorem dX7_looks_417 : decode cX7_looks 417 = .ok (.sipush (-200), 3) := by decide +kernel
theorem dX7_looks_420 : decode cX7_looks 420 = .ok (.if_icmp .gt 20, 3) := by decide +kernel
theorem dX7_looks_423 : decode cX7_looks 423 = .ok (.iload 7, 2) := by decide +kernel
theorem dX7_looks_425 : decode cX7_looks 425 = .ok (.sipush (-400), 3) := by decide +kernel
theorem dX7_looks_428 : decode cX7_looks 428 = .ok (.if_icmp .le 12, 3) := by decide +kernel
theorem dX7_looks_431 : decode cX7_looks 431 = .ok (.sipush (-200), 3) := by decide +kernel
theorem dX7_looks_434 : decode cX7_looks 434 = .ok (.iload 7, 2) := by decide +kernel
theorem dX7_looks_436 : decode cX7_looks 436 = .ok (.isub, 1) := by decide +kernel
theorem dX7_looks_437 : decode cX7_looks 437 = .ok (.goto 4, 3) := by decide +kernel
theorem dX7_looks_440 : decode cX7_looks 440 = .ok (.iconst 0, 1) := by decide +kernel
theorem dX7_looks_441 : decode cX7_looks 441 = .ok (.isub, 1) := by decide +kernel
theorem dX7_looks_442 : decode cX7_looks 442 = .ok (.putfield 132, 3) := by decide +kernel
theorem dX7_looks_445 : decode cX7_looks 445 = .ok (.aload_n 0, 1) := by decide +kernel
theorem dX7_looks_446 : decode cX7_looks 446 = .ok (.dup, 1) := by decide +kernel
theorem dX7_looks_447 : decode cX7_looks 447 = .ok (.getfield 135, 3) := by decide +kernel
theorem dX7_looks_450 : decode cX7_looks 450 = .ok (.iload 8, 2) := by decide +kernel
theorem dX7_looks_452 : decode cX7_looks 452 = .ok (.ifCond .eq 20, 3) := by decide +kernel
theorem dX7_looks_455 : decode cX7_looks 455 = .ok (.iload 7, 2) := by decide +kernel
theorem dX7_looks_457 : decode cX7_looks 457 = .ok (.sipush (-400), 3) := by decide +kernel
theorem dX7_looks_460 : decode cX7_looks 460 = .ok (.if_icmp .gt 12, 3) := by decide +kernel
theorem dX7_looks_463 : decode cX7_looks 463 = .ok (.sipush (-400), 3) := by decide +kernel
theorem dX7_looks_466 : decode cX7_looks 466 = .ok (.iload 7, 2) := by decide +kernel
theorem dX7_looks_468 : decode cX7_looks 468 = .ok (.isub, 1) := by decide +kernel
theorem dX7_looks_469 : decode cX7_looks 469 = .ok (.goto 4, 3) := by decide +kernel
theorem dX7_looks_472 : decode cX7_looks 472 = .ok (.iconst 0, 1) := by decide +kernel
theorem dX7_looks_473 : decode cX7_looks 473 = .ok (.iadd, 1) := by decide +kernel
theorem dX7_looks_474 : decode cX7_looks 474 = .ok (.putfield 135, 3) := by decide +kernel
theorem dX7_looks_477 : decode cX7_looks 477 = .ok (.iinc 6 1, 3) := by decide +kernel
theorem dX7_looks_480 : decode cX7_looks 480 = .ok (.goto (-355), 3) := by decide +kernel
theorem dX7_looks_483 : decode cX7_looks 483 = .ok (.aload_n 0, 1) := by decide +kernel
theorem dX7_looks_484 : decode cX7_looks 484 = .ok (.aload_n 0, 1) := by decide +kernel
theorem dX7_looks_485 : decode cX7_looks 485 = .ok (.getfield 132, 3) := by decide +kernel
theorem dX7_looks_488 : decode cX7_looks 488 = .ok (.ifCond .ge 7, 3) := by decide +kernel
theorem dX7_looks_491 : decode cX7_looks 491 = .ok (.iconst 0, 1) := by decide +kernel
theorem dX7_looks_492 : decode cX7_looks 492 = .ok (.goto 7, 3) := by decide +kernel
theorem dX7_looks_495 : decode cX7_looks 495 = .ok (.aload_n 0, 1) := by decide +kernel
theorem dX7_looks_496 : decode cX7_looks 496 = .ok (.getfield 132, 3) := by decide +kernel
theorem dX7_looks_499 : decode cX7_looks 499 = .ok (.putfield 132, 3) := by decide +kernel
theorem dX7_looks_502 : decode cX7_looks 502 = .ok (.return_, 1) := by decide +kernel
theorem dX7_tree_0 : decode cX7_tree 0 = .ok (.iload_n 1, 1) := by decide +kernel
theorem dX7_tree_1 : decode cX7_tree 1 = .ok (.iconst 0, 1) := by decide +kernel
theorem dX7_tree_2 : decode cX7_tree 2 = .ok (.bipush 6, 2) := by decide +kernel
theorem dX7_tree_4 : decode cX7_tree 4 = .ok (.invokestatic 41, 3) := by decide +kernel
theorem dX7_tree_7 : decode cX7_tree 7 = .ok (.ifCond .eq 13, 3) := by decide +kernel
theorem dX7_tree_10 : decode cX7_tree 10 = .ok (.iload_n 3, 1) := by decide +kernel
theorem dX7_tree_11 : decode cX7_tree 11 = .ok (.iconst 0, 1) := by decide +kernel
theorem dX7_tree_12 : decode cX7_tree 12 = .ok (.bipush 63, 2) := by decide +kernel
theorem dX7_tree_14 : decode cX7_tree 14 = .ok (.invokestatic 41, 3) := by decide +kernel
theorem dX7_tree_17 : decode cX7_tree 17 = .ok (.ifCond .ne 5, 3) := by decide +kernel
theorem dX7_tree_20 : decode cX7_tree 20 = .ok (.iconst (-1), 1) := by decide +kernel
theorem dX7_tree_21 : decode cX7_tree 21 = .ok (.ireturn, 1) := by decide +kernel
theorem dX7_tree_22 : decode cX7_tree 22 = .ok (.iload_n 2, 1) := by decide +kernel
theorem dX7_tree_23 : decode cX7_tree 23 = .ok (.iconst 0, 1) := by decide +kernel
theorem dX7_tree_24 : decode cX7_tree 24 = .ok (.bipush 9, 2) := by decide +kernel
theorem dX7_tree_26 : decode cX7_tree 26 = .ok (.invokestatic 41, 3) := by decide +kernel
theorem dX7_tree_29 : decode cX7_tree 29 = .ok (.ifCond .eq 14, 3) := by decide +kernel
theorem dX7_tree_32 : decode cX7_tree 32 = .ok (.iload 4, 2) := by decide +kernel
theorem dX7_tree_34 : decode cX7_tree 34 = .ok (.iconst 1, 1) := by decide +kernel
theorem dX7_tree_35 : decode cX7_tree 35 = .ok (.bipush 7, 2) := by decide +kernel
theorem dX7_tree_37 : decode cX7_tree 37 = .ok (.invokestatic 41, 3) := by decide +kernel
theorem dX7_tree_40 : decode cX7_tree 40 = .ok (.ifCond .ne 6, 3) := by decide +kernel
theorem dX7_tree_43 : decode cX7_tree 43 = .ok (.bipush (-2), 2) := by decide +kernel
theorem dX7_tree_45 : decode cX7_tree 45 = .ok (.ireturn, 1) := by decide +kernel
theorem dX7_tree_46 : decode cX7_tree 46 = .ok (.iconst 0, 1) := by decide +kernel
theorem dX7_tree_47 : decode cX7_tree 47 = .ok (.istore 5, 2) := by decide +kernel
theorem dX7_tree_49 : decode cX7_tree 49 = .ok (.iload 5, 2) := by decide +kernel
theorem dX7_tree_51 : decode cX7_tree 51 = .ok (.aload_n 0, 1) := by decide +kernel
theorem dX7_tree_52 : decode cX7_tree 52 = .ok (.getfield 9, 3) := by decide +kernel
theorem dX7_tree_55 : decode cX7_tree 55 = .ok (.iconst 0, 1) := by decide +kernel
theorem dX7_tree_56 : decode cX7_tree 56 = .ok (.iaload, 1) := by decide +kernel
theorem dX7_tree_57 : decode cX7_tree 57 = .ok (.if_icmp .ge 26, 3) := by decide +kernel
theorem dX7_tree_60 : decode cX7_tree 60 = .ok (.aload_n 0, 1) := by decide +kernel
theorem dX7_tree_61 : decode cX7_tree 61 = .ok (.getfield 9, 3) := by decide +kernel
theorem dX7_tree_64 : decode cX7_tree 64 = .ok (.bipush 122, 2) := by decide +kernel
theorem dX7_tree_66 : decode cX7_tree 66 = .ok (.iload 5, 2) := by decide +kernel
theorem dX7_tree_68 : decode cX7_tree 68 = .ok (.iadd, 1) := by decide +kernel
theorem dX7_tree_69 : decode cX7_tree 69 = .ok (.iaload, 1) := by decide +kernel
theorem dX7_tree_70 : decode cX7_tree 70 = .ok (.iload_n 3, 1) := by decide +kernel
theorem dX7_tree_71 : decode cX7_tree 71 = .ok (.if_icmp .ne 6, 3) := by decide +kernel
theorem dX7_tree_74 : decode cX7_tree 74 = .ok (.bipush (-3), 2) := by decide +kernel
theorem dX7_tree_76 : decode cX7_tree 76 = .ok (.ireturn, 1) := by decide +kernel
theorem dX7_tree_77 : decode cX7_tree 77 = .ok (.iinc 5 1, 3) := by decide +kernel
theorem dX7_tree_80 : decode cX7_tree 80 = .ok (.goto (-31), 3) := by decide +kernel
theorem dX7_tree_83 : decode cX7_tree 83 = .ok (.aload_n 0, 1) := by decide +kernel
theorem dX7_tree_84 : decode cX7_tree 84 = .ok (.getfield 9, 3) := by decide +kernel
theorem dX7_tree_87 : decode cX7_tree 87 = .ok (.iconst 0, 1) := by decide +kernel
theorem dX7_tree_88 : decode cX7_tree 88 = .ok (.iaload, 1) := by decide +kernel
theorem dX7_tree_89 : decode cX7_tree 89 = .ok (.bipush 6, 2) := by decide +kernel
theorem dX7_tree_91 : decode cX7_tree 91 = .ok (.if_icmp .ne 6, 3) := by decide +kernel
theorem dX7_tree_94 : decode cX7_tree 94 = .ok (.bipush (-4), 2) := by decide +kernel
theorem dX7_tree_96 : decode cX7_tree 96 = .ok (.ireturn, 1) := by decide +kernel
theorem dX7_tree_97 : decode cX7_tree 97 = .ok (.aload_n 0, 1) := by decide +kernel
theorem dX7_tree_98 : decode cX7_tree 98 = .ok (.getfield 9, 3) := by decide +kernel
theorem dX7_tree_101 : decode cX7_tree 101 = .ok (.iconst 0, 1) := by decide +kernel
theorem dX7_tree_102 : decode cX7_tree 102 = .ok (.iaload, 1) := by decide +kernel
theorem dX7_tree_103 : decode cX7_tree 103 = .ok (.istore 5, 2) := by decide +kernel
theorem dX7_tree_105 : decode cX7_tree 105 = .ok (.aload_n 0, 1) := by decide +kernel
theorem dX7_tree_106 : decode cX7_tree 106 = .ok (.getfield 9, 3) := by decide +kernel
theorem dX7_tree_109 : decode cX7_tree 109 = .ok (.bipush 110, 2) := by decide +kernel
theorem dX7_tree_111 : decode cX7_tree 111 = .ok (.iload 5, 2) := by decide +kernel
theorem dX7_tree_113 : decode cX7_tree 113 = .ok (.iadd, 1) := by decide +kernel
theorem dX7_tree_114 : decode cX7_tree 114 = .ok (.iload_n 1, 1) := by decide +kernel
theorem dX7_tree_115 : decode cX7_tree 115 = .ok (.iastore, 1) := by decide +kernel
theorem dX7_tree_116 : decode cX7_tree 116 = .ok (.aload_n 0, 1) := by decide +kernel
theorem dX7_tree_117 : decode cX7_tree 117 = .ok (.getfield 9, 3) := by decide +kernel
theorem dX7_tree_120 : decode cX7_tree 120 = .ok (.bipush 116, 2) := by decide +kernel
theorem dX7_tree_122 : decode cX7_tree 122 = .ok (.iload 5, 2) := by decide +kernel
theorem dX7_tree_124 : decode cX7_tree 124 = .ok (.iadd, 1) := by decide +kernel
theorem dX7_tree_125 : decode cX7_tree 125 = .ok (.iload_n 2, 1) := by decide +kernel
theorem dX7_tree_126 : decode cX7_tree 126 = .ok (.iastore, 1) := by decide +kernel
theorem dX7_tree_127 : decode cX7_tree 127 = .ok (.aload_n 0, 1) := by decide +kernel
theorem dX7_tree_128 : decode cX7_tree 128 = .ok (.getfield 9, 3) := by decide +kernel
theorem dX7_tree_131 : decode cX7_tree 131 = .ok (.bipush 122, 2) := by decide +kernel
theorem dX7_tree_133 : decode cX7_tree 133 = .ok (.iload 5, 2) := by decide +kernel
theorem dX7_tree_135 : decode cX7_tree 135 = .ok (.iadd, 1) := by decide +kernel
theorem dX7_tree_136 : decode cX7_tree 136 = .ok (.iload_n 3, 1) := by decide +kernel
theorem dX7_tree_137 : decode cX7_tree 137 = .ok (.iastore, 1) := by decide +kernel
theorem dX7_tree_138 : decode cX7_tree 138 = .ok (.aload_n 0, 1) := by decide +kernel
theorem dX7_tree_139 : decode cX7_tree 139 = .ok (.getfield 9, 3) := by decide +kernel
theorem dX7_tree_142 : decode cX7_tree 142 = .ok (.sipush 128, 3) := by decide +kernel
theorem dX7_tree_145 : decode cX7_tree 145 = .ok (.iload 5, 2) := by decide +kernel
theorem dX7_tree_147 : decode cX7_tree 147 = .ok (.iadd, 1) := by decide +kernel
theorem dX7_tree_148 : decode cX7_tree 148 = .ok (.iload 4, 2) := by decide +kernel
theorem dX7_tree_150 : decode cX7_tree 150 = .ok (.iastore, 1) := by decide +kernel
theorem dX7_tree_151 : decode cX7_tree 151 = .ok (.aload_n 0, 1) := by decide +kernel
theorem dX7_tree_152 : decode cX7_tree 152 = .ok (.getfield 9, 3) := by decide +kernel
theorem dX7_tree_155 : decode cX7_tree 155 = .ok (.sipush 134, 3) := by decide +kernel
theorem dX7_tree_158 : decode cX7_tree 158 = .ok (.iload 5, 2) := by decide +kernel
theorem dX7_tree_160 : decode cX7_tree 160 = .ok (.iadd, 1) := by decide +kernel
theorem dX7_tree_161 : decode cX7_tree 161 = .ok (.iconst 0, 1) := by decide +kernel
theorem dX7_tree_162 : decode cX7_tree 162 = .ok (.iastore, 1) := by decide +kernel
theorem dX7_tree_163 : decode cX7_tree 163 = .ok (.aload_n 0, 1) := by decide +kernel
theorem dX7_tree_164 : decode cX7_tree 164 = .ok (.getfield 9, 3) := by decide +kernel
theorem dX7_tree_167 : decode cX7_tree 167 = .ok (.sipush 140, 3) := by decide +kernel
theorem dX7_tree_170 : decode cX7_tree 170 = .ok (.iload 5, 2) := by decide +kernel
theorem dX7_tree_172 : decode cX7_tree 172 = .ok (.iadd, 1) := by decide +kernel
theorem dX7_tree_173 : decode cX7_tree 173 = .ok (.iconst 0, 1) := by decide +kernel
theorem dX7_tree_174 : decode cX7_tree 174 = .ok (.iastore, 1) := by decide +kernel
theorem dX7_tree_175 : decode cX7_tree 175 = .ok (.aload_n 0, 1) := by decide +kernel
theorem dX7_tree_176 : decode cX7_tree 176 = .ok (.getfield 9, 3) := by decide +kernel
theorem dX7_tree_179 : decode cX7_tree 179 = .ok (.sipush 146, 3) := by decide +kernel
theorem dX7_tree_182 : decode cX7_tree 182 = .ok (.iload 5, 2) := by decide +kernel
theorem dX7_tree_184 : decode cX7_tree 184 = .ok (.iadd, 1) := by decide +kernel
theorem dX7_tree_185 : decode cX7_tree 185 = .ok (.iconst 0, 1) := by decide +kernel
theorem dX7_tree_186 : decode cX7_tree 186 = .ok (.iastore, 1) := by decide +kernel
theorem dX7_tree_187 : decode cX7_tree 187 = .ok (.aload_n 0, 1) := by decide +kernel
theorem dX7_tree_188 : decode cX7_tree 188 = .ok (.getfield 9, 3) := by decide +kernel
theorem dX7_tree_191 : decode cX7_tree 191 = .ok (.sipush 152, 3) := by decide +kernel
theorem dX7_tree_194 : decode cX7_tree 194 = .ok (.iload 5, 2) := by decide +kernel
theorem dX7_tree_196 : decode cX7_tree 196 = .ok (.iadd, 1) := by decide +kernel
theorem dX7_tree_197 : decode cX7_tree 197 = .ok (.iconst 1, 1) := by decide +kernel
theorem dX7_tree_198 : decode cX7_tree 198 = .ok (.iastore, 1) := by decide +kernel
theorem dX7_tree_199 : decode cX7_tree 199 = .ok (.iconst 0, 1) := by decide +kernel
theorem dX7_tree_200 : decode cX7_tree 200 = .ok (.istore 6, 2) := by decide +kernel
theorem dX7_tree_202 : decode cX7_tree 202 = .ok (.iload 6, 2) := by decide +kernel
theorem dX7_tree_204 : decode cX7_tree 204 = .ok (.bipush 6, 2) := by decide +kernel
theorem dX7_tree_206 : decode cX7_tree 206 = .ok (.if_icmp .ge 27, 3) := by decide +kernel
theorem dX7_tree_209 : decode cX7_tree 209 = .ok (.aload_n 0, 1) := by decide +kernel
theorem dX7_tree_210 : decode cX7_tree 210 = .ok (.getfield 9, 3) := by decide +kernel
theorem dX7_tree_213 : decode cX7_tree 213 = .ok (.sipush 158, 3) := by decide +kernel
theorem dX7_tree_216 : decode cX7_tree 216 = .ok (.bipush 6, 2) := by decide +kernel
theorem dX7_tree_218 : decode cX7_tree 218 = .ok (.iload 5, 2) := by decide +kernel
theorem dX7_tree_220 : decode cX7_tree 220 = .ok (.imul, 1) := by decide +kernel
theorem dX7_tree_221 : decode cX7_tree 221 = .ok (.iadd, 1) := by decide +kernel
theorem dX7_tree_222 : decode cX7_tree 222 = .ok (.iload 6, 2) := by decide +kernel
theorem dX7_tree_224 : decode cX7_tree 224 = .ok (.iadd, 1) := by decide +kernel
theorem dX7_tree_225 : decode cX7_tree 225 = .ok (.iconst 0, 1) := by decide +kernel
theorem dX7_tree_226 : decode cX7_tree 226 = .ok (.iastore, 1) := by decide +kernel
theorem dX7_tree_227 : decode cX7_tree 227 = .ok (.iinc 6 1, 3) := by decide +kernel
theorem dX7_tree_230 : decode cX7_tree 230 = .ok (.goto (-28), 3) := by decide +kernel
theorem dX7_tree_233 : decode cX7_tree 233 = .ok (.aload_n 0, 1) := by decide +kernel
theorem dX7_tree_234 : decode cX7_tree 234 = .ok (.getfield 9, 3) := by decide +kernel
theorem dX7_tree_237 : decode cX7_tree 237 = .ok (.iconst 0, 1) := by decide +kernel
theorem dX7_tree_238 : decode cX7_tree 238 = .ok (.dup2, 1) := by decide +kernel
theorem dX7_tree_239 : decode cX7_tree 239 = .ok (.iaload, 1) := by decide +kernel
theorem dX7_tree_240 : decode cX7_tree 240 = .ok (.iconst 1, 1) := by decide +kernel
theorem dX7_tree_241 : decode cX7_tree 241 = .ok (.iadd, 1) := by decide +kernel
theorem dX7_tree_242 : decode cX7_tree 242 = .ok (.iastore, 1) := by decide +kernel
theorem dX7_tree_243 : decode cX7_tree 243 = .ok (.iload 5, 2) := by decide +kernel
theorem dX7_tree_245 : decode cX7_tree 245 = .ok (.ireturn, 1) := by decide +kernel
theorem dX7_lean_0 : decode cX7_lean 0 = .ok (.aload_n 0, 1) := by decide +kernel
theorem dX7_lean_1 : decode cX7_lean 1 = .ok (.iload_n 1, 1) := by decide +kernel
theorem dX7_lean_2 : decode cX7_lean 2 = .ok (.invokevirtual 138, 3) := by decide +kernel
theorem dX7_lean_5 : decode cX7_lean 5 = .ok (.ifCond .eq 10, 3) := by decide +kernel
theorem dX7_lean_8 : decode cX7_lean 8 = .ok (.iload_n 2, 1) := by decide +kernel
theorem dX7_lean_9 : decode cX7_lean 9 = .ok (.invokestatic 142, 3) := by decide +kernel
theorem dX7_lean_12 : decode cX7_lean 12 = .ok (.ifCond .ne 5, 3) := by decide +kernel
theorem dX7_lean_15 : decode cX7_lean 15 = .ok (.iconst (-1), 1) := by decide +kernel
theorem dX7_lean_16 : decode cX7_lean 16 = .ok (.ireturn, 1) := by decide +kernel
theorem dX7_lean_17 : decode cX7_lean 17 = .ok (.iload_n 3, 1) := by decide +kernel
theorem dX7_lean_18 : decode cX7_lean 18 = .ok (.iconst 0, 1) := by decide +kernel
theorem dX7_lean_19 : decode cX7_lean 19 = .ok (.bipush 9, 2) := by decide +kernel
theorem dX7_lean_21 : decode cX7_lean 21 = .ok (.invokestatic 41, 3) := by decide +kernel
theorem dX7_lean_24 : decode cX7_lean 24 = .ok (.ifCond .eq 14, 3) := by decide +kernel
theorem dX7_lean_27 : decode cX7_lean 27 = .ok (.iload 4, 2) := by decide +kernel
theorem dX7_lean_29 : decode cX7_lean 29 = .ok (.iconst 0, 1) := by decide +kernel
theorem dX7_lean_30 : decode cX7_lean 30 = .ok (.bipush 9, 2) := by decide +kernel
theorem dX7_lean_32 : decode cX7_lean 32 = .ok (.invokestatic 41, 3) := by decide +kernel
theorem dX7_lean_35 : decode cX7_lean 35 = .ok (.ifCond .ne 6, 3) := by decide +kernel
theorem dX7_lean_38 : decode cX7_lean 38 = .ok (.bipush (-2), 2) := by decide +kernel
theorem dX7_lean_40 : decode cX7_lean 40 = .ok (.ireturn, 1) := by decide +kernel
theorem dX7_lean_41 : decode cX7_lean 41 = .ok (.aload_n 0, 1) := by decide +kernel
theorem dX7_lean_42 : decode cX7_lean 42 = .ok (.getfield 9, 3) := by decide +kernel
theorem dX7_lean_45 : decode cX7_lean 45 = .ok (.sipush 134, 3) := by decide +kernel
theorem dX7_lean_48 : decode cX7_lean 48 = .ok (.iload_n 1, 1) := by decide +kernel
theorem dX7_lean_49 : decode cX7_lean 49 = .ok (.iadd, 1) := by decide +kernel
theorem dX7_lean_50 : decode cX7_lean 50 = .ok (.iaload, 1) := by decide +kernel
theorem dX7_lean_51 : decode cX7_lean 51 = .ok (.istore 5, 2) := by decide +kernel
theorem dX7_lean_53 : decode cX7_lean 53 = .ok (.aload_n 0, 1) := by decide +kernel
theorem dX7_lean_54 : decode cX7_lean 54 = .ok (.getfield 9, 3) := by decide +kernel
theorem dX7_lean_57 : decode cX7_lean 57 = .ok (.sipush 134, 3) := by decide +kernel
theorem dX7_lean_60 : decode cX7_lean 60 = .ok (.iload_n 1, 1) := by decide +kernel
theorem dX7_lean_61 : decode cX7_lean 61 = .ok (.iadd, 1) := by decide +kernel
theorem dX7_lean_62 : decode cX7_lean 62 = .ok (.iload_n 3, 1) := by decide +kernel
theorem dX7_lean_63 : decode cX7_lean 63 = .ok (.iastore, 1) := by decide +kernel
theorem dX7_lean_64 : decode cX7_lean 64 = .ok (.aload_n 0, 1) := by decide +kernel
theorem dX7_lean_65 : decode cX7_lean 65 = .ok (.getfield 9, 3) := by decide +kernel
theorem dX7_lean_68 : decode cX7_lean 68 = .ok (.sipush 140, 3) := by decide +kernel
theorem dX7_lean_71 : decode cX7_lean 71 = .ok (.iload_n 1, 1) := by decide +kernel
theorem dX7_lean_72 : decode cX7_lean 72 = .ok (.iadd, 1) := by decide +kernel
theorem dX7_lean_73 : decode cX7_lean 73 = .ok (.iload_n 2, 1) := by decide +kernel
theorem dX7_lean_74 : decode cX7_lean 74 = .ok (.iastore, 1) := by decide +kernel
theorem dX7_lean_75 : decode cX7_lean 75 = .ok (.aload_n 0, 1) := by decide +kernel
theorem dX7_lean_76 : decode cX7_lean 76 = .ok (.getfield 9, 3) := by decide +kernel
theorem dX7_lean_79 : decode cX7_lean 79 = .ok (.sipush 146, 3) := by decide +kernel
theorem dX7_lean_82 : decode cX7_lean 82 = .ok (.iload_n 1, 1) := by decide +kernel
theorem dX7_lean_83 : decode cX7_lean 83 = .ok (.iadd, 1) := by decide +kernel
theorem dX7_lean_84 : decode cX7_lean 84 = .ok (.iload 4, 2) := by decide +kernel
theorem dX7_lean_86 : decode cX7_lean 86 = .ok (.iastore, 1) := by decide +kernel
theorem dX7_lean_87 : decode cX7_lean 87 = .ok (.iload 5, 2) := by decide +kernel
theorem dX7_lean_89 : decode cX7_lean 89 = .ok (.ireturn, 1) := by decide +kernel
theorem dX7_of_0 : decode cX7_of 0 = .ok (.aload_n 0, 1) := by decide +kernel
theorem dX7_of_1 : decode cX7_of 1 = .ok (.iload_n 1, 1) := by decide +kernel
theorem dX7_of_2 : decode cX7_of 2 = .ok (.invokevirtual 138, 3) := by decide +kernel
theorem dX7_of_5 : decode cX7_of 5 = .ok (.ifCond .eq 30, 3) := by decide +kernel
theorem dX7_of_8 : decode cX7_of 8 = .ok (.iload_n 2, 1) := by decide +kernel
theorem dX7_of_9 : decode cX7_of 9 = .ok (.iconst 0, 1) := by decide +kernel
theorem dX7_of_10 : decode cX7_of 10 = .ok (.bipush 7, 2) := by decide +kernel
theorem dX7_of_12 : decode cX7_of 12 = .ok (.invokestatic 41, 3) := by decide +kernel
theorem dX7_of_15 : decode cX7_of 15 = .ok (.ifCond .eq 20, 3) := by decide +kernel
theorem dX7_of_18 : decode cX7_of 18 = .ok (.aload_n 0, 1) := by decide +kernel
theorem dX7_of_19 : decode cX7_of 19 = .ok (.getfield 9, 3) := by decide +kernel
theorem dX7_of_22 : decode cX7_of 22 = .ok (.bipush 110, 2) := by decide +kernel
theorem dX7_of_24 : decode cX7_of 24 = .ok (.bipush 6, 2) := by decide +kernel
theorem dX7_of_26 : decode cX7_of 26 = .ok (.iload_n 2, 1) := by decide +kernel
theorem dX7_of_27 : decode cX7_of 27 = .ok (.imul, 1) := by decide +kernel
theorem dX7_of_28 : decode cX7_of 28 = .ok (.iadd, 1) := by decide +kernel
theorem dX7_of_29 : decode cX7_of 29 = .ok (.iload_n 1, 1) := by decide +kernel
theorem dX7_of_30 : decode cX7_of 30 = .ok (.iadd, 1) := by decide +kernel
theorem dX7_of_31 : decode cX7_of 31 = .ok (.iaload, 1) := by decide +kernel
theorem dX7_of_32 : decode cX7_of 32 = .ok (.goto 4, 3) := by decide +kernel
theorem dX7_of_35 : decode cX7_of 35 = .ok (.iconst (-1), 1) := by decide +kernel
theorem dX7_of_36 : decode cX7_of 36 = .ok (.ireturn, 1) := by decide +kernel
theorem dX7_plan_0 : decode cX7_plan 0 = .ok (.aload_n 0, 1) := by decide +kernel
theorem dX7_plan_1 : decode cX7_plan 1 = .ok (.iload_n 1, 1) := by decide +kernel
theorem dX7_plan_2 : decode cX7_plan 2 = .ok (.invokevirtual 138, 3) := by decide +kernel
theorem dX7_plan_5 : decode cX7_plan 5 = .ok (.ifCond .eq 12, 3) := by decide +kernel
theorem dX7_plan_8 : decode cX7_plan 8 = .ok (.iload_n 2, 1) := by decide +kernel
theorem dX7_plan_9 : decode cX7_plan 9 = .ok (.iconst 0, 1) := by decide +kernel
theorem dX7_plan_10 : decode cX7_plan 10 = .ok (.iconst 5, 1) := by decide +kernel
theorem dX7_plan_11 : decode cX7_plan 11 = .ok (.invokestatic 41, 3) := by decide +kernel
theorem dX7_plan_14 : decode cX7_plan 14 = .ok (.ifCond .ne 5, 3) := by decide +kernel
theorem dX7_plan_17 : decode cX7_plan 17 = .ok (.iconst (-1), 1) := by decide +kernel
theorem dX7_plan_18 : decode cX7_plan 18 = .ok (.ireturn, 1) := by decide +kernel
theorem dX7_plan_19 : decode cX7_plan 19 = .ok (.iload_n 3, 1) := by decide +kernel
theorem dX7_plan_20 : decode cX7_plan 20 = .ok (.iconst 0, 1) := by decide +kernel
theorem dX7_plan_21 : decode cX7_plan 21 = .ok (.iload_n 2, 1) := by decide +kernel
theorem dX7_plan_22 : decode cX7_plan 22 = .ok (.ifCond .eq 8, 3) := by decide +kernel
theorem dX7_plan_25 : decode cX7_plan 25 = .ok (.iload_n 2, 1) := by decide +kernel
theorem dX7_plan_26 : decode cX7_plan 26 = .ok (.iconst 4, 1) := by decide +kernel
theorem dX7_plan_27 : decode cX7_plan 27 = .ok (.if_icmp .ne 8, 3) := by decide +kernel
theorem dX7_plan_30 : decode cX7_plan 30 = .ok (.bipush 7, 2) := by decide +kernel
theorem dX7_plan_32 : decode cX7_plan 32 = .ok (.goto 5, 3) := by decide +kernel
theorem dX7_plan_35 : decode cX7_plan 35 = .ok (.bipush 9, 2) := by decide +kernel
theorem dX7_plan_37 : decode cX7_plan 37 = .ok (.invokestatic 41, 3) := by decide +kernel
theorem dX7_plan_40 : decode cX7_plan 40 = .ok (.ifCond .ne 6, 3) := by decide +kernel
theorem dX7_plan_43 : decode cX7_plan 43 = .ok (.bipush (-2), 2) := by decide +kernel
theorem dX7_plan_45 : decode cX7_plan 45 = .ok (.ireturn, 1) := by decide +kernel
theorem dX7_plan_46 : decode cX7_plan 46 = .ok (.aload_n 0, 1) := by decide +kernel
theorem dX7_plan_47 : decode cX7_plan 47 = .ok (.getfield 9, 3) := by decide +kernel
theorem dX7_plan_50 : decode cX7_plan 50 = .ok (.sipush 158, 3) := by decide +kernel
theorem dX7_plan_53 : decode cX7_plan 53 = .ok (.bipush 6, 2) := by decide +kernel
theorem dX7_plan_55 : decode cX7_plan 55 = .ok (.iload_n 1, 1) := by decide +kernel
theorem dX7_plan_56 : decode cX7_plan 56 = .ok (.imul, 1) := by decide +kernel
theorem dX7_plan_57 : decode cX7_plan 57 = .ok (.iadd, 1) := by decide +kernel
theorem dX7_plan_58 : decode cX7_plan 58 = .ok (.iload_n 2, 1) := by decide +kernel
theorem dX7_plan_59 : decode cX7_plan 59 = .ok (.iadd, 1) := by decide +kernel
theorem dX7_plan_60 : decode cX7_plan 60 = .ok (.iaload, 1) := by decide +kernel
theorem dX7_plan_61 : decode cX7_plan 61 = .ok (.istore 4, 2) := by decide +kernel
theorem dX7_plan_63 : decode cX7_plan 63 = .ok (.aload_n 0, 1) := by decide +kernel
theorem dX7_plan_64 : decode cX7_plan 64 = .ok (.getfield 9, 3) := by decide +kernel
theorem dX7_plan_67 : decode cX7_plan 67 = .ok (.sipush 158, 3) := by decide +kernel
theorem dX7_plan_70 : decode cX7_plan 70 = .ok (.bipush 6, 2) := by decide +kernel
theorem dX7_plan_72 : decode cX7_plan 72 = .ok (.iload_n 1, 1) := by decide +kernel
theorem dX7_plan_73 : decode cX7_plan 73 = .ok (.imul, 1) := by decide +kernel
theorem dX7_plan_74 : decode cX7_plan 74 = .ok (.iadd, 1) := by decide +kernel
theorem dX7_plan_75 : decode cX7_plan 75 = .ok (.iload_n 2, 1) := by decide +kernel
theorem dX7_plan_76 : decode cX7_plan 76 = .ok (.iadd, 1) := by decide +kernel
theorem dX7_plan_77 : decode cX7_plan 77 = .ok (.iload_n 3, 1) := by decide +kernel
theorem dX7_plan_78 : decode cX7_plan 78 = .ok (.iastore, 1) := by decide +kernel
theorem dX7_plan_79 : decode cX7_plan 79 = .ok (.iload 4, 2) := by decide +kernel
theorem dX7_plan_81 : decode cX7_plan 81 = .ok (.ireturn, 1) := by decide +kernel
theorem dX7_along_0 : decode cX7_along 0 = .ok (.iload_n 0, 1) := by decide +kernel
theorem dX7_along_1 : decode cX7_along 1 = .ok (.iload_n 1, 1) := by decide +kernel
theorem dX7_along_2 : decode cX7_along 2 = .ok (.isub, 1) := by decide +kernel
theorem dX7_along_3 : decode cX7_along 3 = .ok (.bipush 8, 2) := by decide +kernel
theorem dX7_along_5 : decode cX7_along 5 = .ok (.iadd, 1) := by decide +kernel
theorem dX7_along_6 : decode cX7_along 6 = .ok (.bipush 8, 2) := by decide +kernel
theorem dX7_along_8 : decode cX7_along 8 = .ok (.irem, 1) := by decide +kernel
theorem dX7_along_9 : decode cX7_along 9 = .ok (.istore_n 2, 1) := by decide +kernel
theorem dX7_along_10 : decode cX7_along 10 = .ok (.iconst 2, 1) := by decide +kernel
theorem dX7_along_11 : decode cX7_along 11 = .ok (.iload_n 2, 1) := by decide +kernel
theorem dX7_along_12 : decode cX7_along 12 = .ok (.iconst 4, 1) := by decide +kernel
theorem dX7_along_13 : decode cX7_along 13 = .ok (.if_icmp .le 10, 3) := by decide +kernel
theorem dX7_along_16 : decode cX7_along 16 = .ok (.bipush 8, 2) := by decide +kernel
theorem dX7_along_18 : decode cX7_along 18 = .ok (.iload_n 2, 1) := by decide +kernel
theorem dX7_along_19 : decode cX7_along 19 = .ok (.isub, 1) := by decide +kernel
theorem dX7_along_20 : decode cX7_along 20 = .ok (.goto 4, 3) := by decide +kernel
theorem dX7_along_23 : decode cX7_along 23 = .ok (.iload_n 2, 1) := by decide +kernel
theorem dX7_along_24 : decode cX7_along 24 = .ok (.isub, 1) := by decide +kernel
theorem dX7_along_25 : decode cX7_along 25 = .ok (.ireturn, 1) := by decide +kernel
theorem dX7_side_0 : decode cX7_side 0 = .ok (.iload_n 0, 1) := by decide +kernel
theorem dX7_side_1 : decode cX7_side 1 = .ok (.iload_n 1, 1) := by decide +kernel
theorem dX7_side_2 : decode cX7_side 2 = .ok (.isub, 1) := by decide +kernel
theorem dX7_side_3 : decode cX7_side 3 = .ok (.bipush 8, 2) := by decide +kernel
theorem dX7_side_5 : decode cX7_side 5 = .ok (.iadd, 1) := by decide +kernel
theorem dX7_side_6 : decode cX7_side 6 = .ok (.bipush 8, 2) := by decide +kernel
theorem dX7_side_8 : decode cX7_side 8 = .ok (.irem, 1) := by decide +kernel
theorem dX7_side_9 : decode cX7_side 9 = .ok (.istore_n 2, 1) := by decide +kernel
theorem dX7_side_10 : decode cX7_side 10 = .ok (.iload_n 2, 1) := by decide +kernel
theorem dX7_side_11 : decode cX7_side 11 = .ok (.ifCond .eq 8, 3) := by decide +kernel
theorem dX7_side_14 : decode cX7_side 14 = .ok (.iload_n 2, 1) := by decide +kernel
theorem dX7_side_15 : decode cX7_side 15 = .ok (.iconst 4, 1) := by decide +kernel
theorem dX7_side_16 : decode cX7_side 16 = .ok (.if_icmp .ne 7, 3) := by decide +kernel
theorem dX7_side_19 : decode cX7_side 19 = .ok (.iconst 0, 1) := by decide +kernel
theorem dX7_side_20 : decode cX7_side 20 = .ok (.goto 13, 3) := by decide +kernel
theorem dX7_side_23 : decode cX7_side 23 = .ok (.iload_n 2, 1) := by decide +kernel
theorem dX7_side_24 : decode cX7_side 24 = .ok (.iconst 4, 1) := by decide +kernel
theorem dX7_side_25 : decode cX7_side 25 = .ok (.if_icmp .ge 7, 3) := by decide +kernel
theorem dX7_side_28 : decode cX7_side 28 = .ok (.iconst 1, 1) := by decide +kernel
theorem dX7_side_29 : decode cX7_side 29 = .ok (.goto 4, 3) := by decide +kernel
theorem dX7_side_32 : decode cX7_side 32 = .ok (.iconst (-1), 1) := by decide +kernel
theorem dX7_side_33 : decode cX7_side 33 = .ok (.ireturn, 1) := by decide +kernel
theorem dX7_isOf_0 : decode cX7_isOf 0 = .ok (.aload_n 0, 1) := by decide +kernel
theorem dX7_isOf_1 : decode cX7_isOf 1 = .ok (.getfield 9, 3) := by decide +kernel
theorem dX7_isOf_4 : decode cX7_isOf 4 = .ok (.bipush 110, 2) := by decide +kernel
theorem dX7_isOf_6 : decode cX7_isOf 6 = .ok (.iload_n 1, 1) := by decide +kernel
theorem dX7_isOf_7 : decode cX7_isOf 7 = .ok (.iadd, 1) := by decide +kernel
theorem dX7_isOf_8 : decode cX7_isOf 8 = .ok (.iaload, 1) := by decide +kernel
theorem dX7_isOf_9 : decode cX7_isOf 9 = .ok (.iload_n 2, 1) := by decide +kernel
theorem dX7_isOf_10 : decode cX7_isOf 10 = .ok (.if_icmp .eq 16, 3) := by decide +kernel
theorem dX7_isOf_13 : decode cX7_isOf 13 = .ok (.aload_n 0, 1) := by decide +kernel
theorem dX7_isOf_14 : decode cX7_isOf 14 = .ok (.getfield 9, 3) := by decide +kernel
theorem dX7_isOf_17 : decode cX7_isOf 17 = .ok (.bipush 110, 2) := by decide +kernel
theorem dX7_isOf_19 : decode cX7_isOf 19 = .ok (.iload_n 1, 1) := by decide +kernel
theorem dX7_isOf_20 : decode cX7_isOf 20 = .ok (.iadd, 1) := by decide +kernel
theorem dX7_isOf_21 : decode cX7_isOf 21 = .ok (.iaload, 1) := by decide +kernel
theorem dX7_isOf_22 : decode cX7_isOf 22 = .ok (.iload_n 3, 1) := by decide +kernel
theorem dX7_isOf_23 : decode cX7_isOf 23 = .ok (.if_icmp .ne 7, 3) := by decide +kernel
theorem dX7_isOf_26 : decode cX7_isOf 26 = .ok (.iconst 1, 1) := by decide +kernel
theorem dX7_isOf_27 : decode cX7_isOf 27 = .ok (.goto 4, 3) := by decide +kernel
theorem dX7_isOf_30 : decode cX7_isOf 30 = .ok (.iconst 0, 1) := by decide +kernel
theorem dX7_isOf_31 : decode cX7_isOf 31 = .ok (.ireturn, 1) := by decide +kernel
theorem dX7_goesIn_0 : decode cX7_goesIn 0 = .ok (.sipush 158, 3) := by decide +kernel
theorem dX7_goesIn_3 : decode cX7_goesIn 3 = .ok (.bipush 6, 2) := by decide +kernel
theorem dX7_goesIn_5 : decode cX7_goesIn 5 = .ok (.iload_n 1, 1) := by decide +kernel
theorem dX7_goesIn_6 : decode cX7_goesIn 6 = .ok (.imul, 1) := by decide +kernel
theorem dX7_goesIn_7 : decode cX7_goesIn 7 = .ok (.iadd, 1) := by decide +kernel
theorem dX7_goesIn_8 : decode cX7_goesIn 8 = .ok (.istore_n 3, 1) := by decide +kernel
theorem dX7_goesIn_9 : decode cX7_goesIn 9 = .ok (.aload_n 0, 1) := by decide +kernel
theorem dX7_goesIn_10 : decode cX7_goesIn 10 = .ok (.getfield 9, 3) := by decide +kernel
theorem dX7_goesIn_13 : decode cX7_goesIn 13 = .ok (.iload_n 3, 1) := by decide +kernel
theorem dX7_goesIn_14 : decode cX7_goesIn 14 = .ok (.iaload, 1) := by decide +kernel
theorem dX7_goesIn_15 : decode cX7_goesIn 15 = .ok (.istore 4, 2) := by decide +kernel
theorem dX7_goesIn_17 : decode cX7_goesIn 17 = .ok (.aload_n 0, 1) := by decide +kernel
theorem dX7_goesIn_18 : decode cX7_goesIn 18 = .ok (.getfield 9, 3) := by decide +kernel
theorem dX7_goesIn_21 : decode cX7_goesIn 21 = .ok (.iload_n 3, 1) := by decide +kernel
theorem dX7_goesIn_22 : decode cX7_goesIn 22 = .ok (.iconst 1, 1) := by decide +kernel
theorem dX7_goesIn_23 : decode cX7_goesIn 23 = .ok (.iadd, 1) := by decide +kernel
theorem dX7_goesIn_24 : decode cX7_goesIn 24 = .ok (.iaload, 1) := by decide +kernel
theorem dX7_goesIn_25 : decode cX7_goesIn 25 = .ok (.aload_n 0, 1) := by decide +kernel
theorem dX7_goesIn_26 : decode cX7_goesIn 26 = .ok (.getfield 9, 3) := by decide +kernel
theorem dX7_goesIn_29 : decode cX7_goesIn 29 = .ok (.iload_n 3, 1) := by decide +kernel
theorem dX7_goesIn_30 : decode cX7_goesIn 30 = .ok (.iconst 2, 1) := by decide +kernel
theorem dX7_goesIn_31 : decode cX7_goesIn 31 = .ok (.iadd, 1) := by decide +kernel
theorem dX7_goesIn_32 : decode cX7_goesIn 32 = .ok (.iaload, 1) := by decide +kernel
theorem dX7_goesIn_33 : decode cX7_goesIn 33 = .ok (.iadd, 1) := by decide +kernel
theorem dX7_goesIn_34 : decode cX7_goesIn 34 = .ok (.istore 5, 2) := by decide +kernel
theorem dX7_goesIn_36 : decode cX7_goesIn 36 = .ok (.aload_n 0, 1) := by decide +kernel
theorem dX7_goesIn_37 : decode cX7_goesIn 37 = .ok (.getfield 9, 3) := by decide +kernel
theorem dX7_goesIn_40 : decode cX7_goesIn 40 = .ok (.bipush 116, 2) := by decide +kernel
theorem dX7_goesIn_42 : decode cX7_goesIn 42 = .ok (.iload_n 1, 1) := by decide +kernel
theorem dX7_goesIn_43 : decode cX7_goesIn 43 = .ok (.iadd, 1) := by decide +kernel
theorem dX7_goesIn_44 : decode cX7_goesIn 44 = .ok (.iaload, 1) := by decide +kernel
theorem dX7_goesIn_45 : decode cX7_goesIn 45 = .ok (.istore 6, 2) := by decide +kernel
theorem dX7_goesIn_47 : decode cX7_goesIn 47 = .ok (.aload_n 0, 1) := by decide +kernel
theorem dX7_goesIn_48 : decode cX7_goesIn 48 = .ok (.aload_n 0, 1) := by decide +kernel
theorem dX7_goesIn_49 : decode cX7_goesIn 49 = .ok (.getfield 9, 3) := by decide +kernel
theorem dX7_goesIn_52 : decode cX7_goesIn 52 = .ok (.sipush 134, 3) := by decide +kernel
theorem dX7_goesIn_55 : decode cX7_goesIn 55 = .ok (.iload_n 1, 1) := by decide +kernel
theorem dX7_goesIn_56 : decode cX7_goesIn 56 = .ok (.iadd, 1) := by decide +kernel
theorem dX7_goesIn_57 : decode cX7_goesIn 57 = .ok (.iaload, 1) := by decide +kernel
theorem dX7_goesIn_58 : decode cX7_goesIn 58 = .ok (.aload_n 0, 1) := by decide +kernel
theorem dX7_goesIn_59 : decode cX7_goesIn 59 = .ok (.getfield 9, 3) := by decide +kernel
theorem dX7_goesIn_62 : decode cX7_goesIn 62 = .ok (.sipush 140, 3) := by decide +kernel
theorem dX7_goesIn_65 : decode cX7_goesIn 65 = .ok (.iload_n 1, 1) := by decide +kernel
theorem dX7_goesIn_66 : decode cX7_goesIn 66 = .ok (.iadd, 1) := by decide +kernel
theorem dX7_goesIn_67 : decode cX7_goesIn 67 = .ok (.iaload, 1) := by decide +kernel
theorem dX7_goesIn_68 : decode cX7_goesIn 68 = .ok (.iload 4, 2) := by decide +kernel
theorem dX7_goesIn_70 : decode cX7_goesIn 70 = .ok (.invokestatic 145, 3) := by decide +kernel
theorem dX7_goesIn_73 : decode cX7_goesIn 73 = .ok (.imul, 1) := by decide +kernel
theorem dX7_goesIn_74 : decode cX7_goesIn 74 = .ok (.aload_n 0, 1) := by decide +kernel
theorem dX7_goesIn_75 : decode cX7_goesIn 75 = .ok (.iconst 0, 1) := by decide +kernel
theorem dX7_goesIn_76 : decode cX7_goesIn 76 = .ok (.invokevirtual 148, 3) := by decide +kernel
theorem dX7_goesIn_79 : decode cX7_goesIn 79 = .ok (.aload_n 0, 1) := by decide +kernel
theorem dX7_goesIn_80 : decode cX7_goesIn 80 = .ok (.getfield 9, 3) := by decide +kernel
theorem dX7_goesIn_83 : decode cX7_goesIn 83 = .ok (.iload_n 3, 1) := by decide +kernel
theorem dX7_goesIn_84 : decode cX7_goesIn 84 = .ok (.iconst 3, 1) := by decide +kernel
theorem dX7_goesIn_85 : decode cX7_goesIn 85 = .ok (.iadd, 1) := by decide +kernel
theorem dX7_goesIn_86 : decode cX7_goesIn 86 = .ok (.iaload, 1) := by decide +kernel
theorem dX7_goesIn_87 : decode cX7_goesIn 87 = .ok (.imul, 1) := by decide +kernel
theorem dX7_goesIn_88 : decode cX7_goesIn 88 = .ok (.iadd, 1) := by decide +kernel
theorem dX7_goesIn_89 : decode cX7_goesIn 89 = .ok (.aload_n 0, 1) := by decide +kernel
theorem dX7_goesIn_90 : decode cX7_goesIn 90 = .ok (.iconst 1, 1) := by decide +kernel
theorem dX7_goesIn_91 : decode cX7_goesIn 91 = .ok (.invokevirtual 148, 3) := by decide +kernel
theorem dX7_goesIn_94 : decode cX7_goesIn 94 = .ok (.aload_n 0, 1) := by decide +kernel
theorem dX7_goesIn_95 : decode cX7_goesIn 95 = .ok (.getfield 9, 3) := by decide +kernel
theorem dX7_goesIn_98 : decode cX7_goesIn 98 = .ok (.iload_n 3, 1) := by decide +kernel
theorem dX7_goesIn_99 : decode cX7_goesIn 99 = .ok (.iconst 5, 1) := by decide +kernel
theorem dX7_goesIn_100 : decode cX7_goesIn 100 = .ok (.iadd, 1) := by decide +kernel
theorem dX7_goesIn_101 : decode cX7_goesIn 101 = .ok (.iaload, 1) := by decide +kernel
theorem dX7_goesIn_102 : decode cX7_goesIn 102 = .ok (.imul, 1) := by decide +kernel
theorem dX7_goesIn_103 : decode cX7_goesIn 103 = .ok (.aload_n 0, 1) := by decide +kernel
theorem dX7_goesIn_104 : decode cX7_goesIn 104 = .ok (.getfield 9, 3) := by decide +kernel
theorem dX7_goesIn_107 : decode cX7_goesIn 107 = .ok (.iload_n 3, 1) := by decide +kernel
theorem dX7_goesIn_108 : decode cX7_goesIn 108 = .ok (.iconst 4, 1) := by decide +kernel
theorem dX7_goesIn_109 : decode cX7_goesIn 109 = .ok (.iadd, 1) := by decide +kernel
theorem dX7_goesIn_110 : decode cX7_goesIn 110 = .ok (.iaload, 1) := by decide +kernel
theorem dX7_goesIn_111 : decode cX7_goesIn 111 = .ok (.iload 4, 2) := by decide +kernel
theorem dX7_goesIn_113 : decode cX7_goesIn 113 = .ok (.invokestatic 145, 3) := by decide +kernel
theorem dX7_goesIn_116 : decode cX7_goesIn 116 = .ok (.imul, 1) := by decide +kernel
theorem dX7_goesIn_117 : decode cX7_goesIn 117 = .ok (.iadd, 1) := by decide +kernel
theorem dX7_goesIn_118 : decode cX7_goesIn 118 = .ok (.putfield 152, 3) := by decide +kernel
theorem dX7_goesIn_121 : decode cX7_goesIn 121 = .ok (.aload_n 0, 1) := by decide +kernel
theorem dX7_goesIn_122 : decode cX7_goesIn 122 = .ok (.aload_n 0, 1) := by decide +kernel
theorem dX7_goesIn_123 : decode cX7_goesIn 123 = .ok (.getfield 9, 3) := by decide +kernel
theorem dX7_goesIn_126 : decode cX7_goesIn 126 = .ok (.sipush 134, 3) := by decide +kernel
theorem dX7_goesIn_129 : decode cX7_goesIn 129 = .ok (.iload_n 1, 1) := by decide +kernel
theorem dX7_goesIn_130 : decode cX7_goesIn 130 = .ok (.iadd, 1) := by decide +kernel
theorem dX7_goesIn_131 : decode cX7_goesIn 131 = .ok (.iaload, 1) := by decide +kernel
theorem dX7_goesIn_132 : decode cX7_goesIn 132 = .ok (.aload_n 0, 1) := by decide +kernel
theorem dX7_goesIn_133 : decode cX7_goesIn 133 = .ok (.getfield 9, 3) := by decide +kernel
theorem dX7_goesIn_136 : decode cX7_goesIn 136 = .ok (.sipush 140, 3) := by decide +kernel
theorem dX7_goesIn_139 : decode cX7_goesIn 139 = .ok (.iload_n 1, 1) := by decide +kernel
theorem dX7_goesIn_140 : decode cX7_goesIn 140 = .ok (.iadd, 1) := by decide +kernel
theorem dX7_goesIn_141 : decode cX7_goesIn 141 = .ok (.iaload, 1) := by decide +kernel
theorem dX7_goesIn_142 : decode cX7_goesIn 142 = .ok (.iload 4, 2) := by decide +kernel
theorem dX7_goesIn_144 : decode cX7_goesIn 144 = .ok (.invokestatic 155, 3) := by decide +kernel
theorem dX7_goesIn_147 : decode cX7_goesIn 147 = .ok (.imul, 1) := by decide +kernel
theorem dX7_goesIn_148 : decode cX7_goesIn 148 = .ok (.aload_n 0, 1) := by decide +kernel
theorem dX7_goesIn_149 : decode cX7_goesIn 149 = .ok (.getfield 9, 3) := by decide +kernel
theorem dX7_goesIn_152 : decode cX7_goesIn 152 = .ok (.iload_n 3, 1) := by decide +kernel
theorem dX7_goesIn_153 : decode cX7_goesIn 153 = .ok (.iconst 2, 1) := by decide +kernel
theorem dX7_goesIn_154 : decode cX7_goesIn 154 = .ok (.iadd, 1) := by decide +kernel
theorem dX7_goesIn_155 : decode cX7_goesIn 155 = .ok (.iaload, 1) := by decide +kernel
theorem dX7_goesIn_156 : decode cX7_goesIn 156 = .ok (.iadd, 1) := by decide +kernel
theorem dX7_goesIn_157 : decode cX7_goesIn 157 = .ok (.aload_n 0, 1) := by decide +kernel
theorem dX7_goesIn_158 : decode cX7_goesIn 158 = .ok (.getfield 9, 3) := by decide +kernel
theorem dX7_goesIn_161 : decode cX7_goesIn 161 = .ok (.iload_n 3, 1) := by decide +kernel
theorem dX7_goesIn_162 : decode cX7_goesIn 162 = .ok (.iconst 1, 1) := by decide +kernel
theorem dX7_goesIn_163 : decode cX7_goesIn 163 = .ok (.iadd, 1) := by decide +kernel
theorem dX7_goesIn_164 : decode cX7_goesIn 164 = .ok (.iaload, 1) := by decide +kernel
theorem dX7_goesIn_165 : decode cX7_goesIn 165 = .ok (.isub, 1) := by decide +kernel
theorem dX7_goesIn_166 : decode cX7_goesIn 166 = .ok (.aload_n 0, 1) := by decide +kernel
theorem dX7_goesIn_167 : decode cX7_goesIn 167 = .ok (.iconst 1, 1) := by decide +kernel
theorem dX7_goesIn_168 : decode cX7_goesIn 168 = .ok (.invokevirtual 148, 3) := by decide +kernel
theorem dX7_goesIn_171 : decode cX7_goesIn 171 = .ok (.aload_n 0, 1) := by decide +kernel
theorem dX7_goesIn_172 : decode cX7_goesIn 172 = .ok (.getfield 9, 3) := by decide +kernel
theorem dX7_goesIn_175 : decode cX7_goesIn 175 = .ok (.iload_n 3, 1) := by decide +kernel
theorem dX7_goesIn_176 : decode cX7_goesIn 176 = .ok (.iconst 5, 1) := by decide +kernel
theorem dX7_goesIn_177 : decode cX7_goesIn 177 = .ok (.iadd, 1) := by decide +kernel
theorem dX7_goesIn_178 : decode cX7_goesIn 178 = .ok (.iaload, 1) := by decide +kernel
theorem dX7_goesIn_179 : decode cX7_goesIn 179 = .ok (.imul, 1) := by decide +kernel
theorem dX7_goesIn_180 : decode cX7_goesIn 180 = .ok (.aload_n 0, 1) := by decide +kernel
theorem dX7_goesIn_181 : decode cX7_goesIn 181 = .ok (.getfield 9, 3) := by decide +kernel
theorem dX7_goesIn_184 : decode cX7_goesIn 184 = .ok (.iload_n 3, 1) := by decide +kernel
theorem dX7_goesIn_185 : decode cX7_goesIn 185 = .ok (.iconst 4, 1) := by decide +kernel
theorem dX7_goesIn_186 : decode cX7_goesIn 186 = .ok (.iadd, 1) := by decide +kernel
theorem dX7_goesIn_187 : decode cX7_goesIn 187 = .ok (.iaload, 1) := by decide +kernel
theorem dX7_goesIn_188 : decode cX7_goesIn 188 = .ok (.iload 4, 2) := by decide +kernel
theorem dX7_goesIn_190 : decode cX7_goesIn 190 = .ok (.invokestatic 155, 3) := by decide +kernel
theorem dX7_goesIn_193 : decode cX7_goesIn 193 = .ok (.imul, 1) := by decide +kernel
theorem dX7_goesIn_194 : decode cX7_goesIn 194 = .ok (.iadd, 1) := by decide +kernel
theorem dX7_goesIn_195 : decode cX7_goesIn 195 = .ok (.putfield 158, 3) := by decide +kernel
theorem dX7_goesIn_198 : decode cX7_goesIn 198 = .ok (.iload_n 2, 1) := by decide +kernel
theorem dX7_goesIn_199 : decode cX7_goesIn 199 = .ok (.iconst (-1), 1) := by decide +kernel
theorem dX7_goesIn_200 : decode cX7_goesIn 200 = .ok (.if_icmp .eq 49, 3) := by decide +kernel
theorem dX7_goesIn_203 : decode cX7_goesIn 203 = .ok (.aload_n 0, 1) := by decide +kernel
theorem dX7_goesIn_204 : decode cX7_goesIn 204 = .ok (.iload_n 1, 1) := by decide +kernel
theorem dX7_goesIn_205 : decode cX7_goesIn 205 = .ok (.iload_n 2, 1) := by decide +kernel
theorem dX7_goesIn_206 : decode cX7_goesIn 206 = .ok (.invokevirtual 161, 3) := by decide +kernel
theorem dX7_goesIn_209 : decode cX7_goesIn 209 = .ok (.aload_n 0, 1) := by decide +kernel
theorem dX7_goesIn_210 : decode cX7_goesIn 210 = .ok (.dup, 1) := by decide +kernel
theorem dX7_goesIn_211 : decode cX7_goesIn 211 = .ok (.getfield 152, 3) := by decide +kernel
theorem dX7_goesIn_214 : decode cX7_goesIn 214 = .ok (.aload_n 0, 1) := by decide +kernel
theorem dX7_goesIn_215 : decode cX7_goesIn 215 = .ok (.getfield 135, 3) := by decide +kernel
theorem dX7_goesIn_218 : decode cX7_goesIn 218 = .ok (.iload_n 2, 1) := by decide +kernel
theorem dX7_goesIn_219 : decode cX7_goesIn 219 = .ok (.iload 4, 2) := by decide +kernel
theorem dX7_goesIn_221 : decode cX7_goesIn 221 = .ok (.invokestatic 145, 3) := by decide +kernel
theorem dX7_goesIn_224 : decode cX7_goesIn 224 = .ok (.imul, 1) := by decide +kernel
theorem dX7_goesIn_225 : decode cX7_goesIn 225 = .ok (.iadd, 1) := by decide +kernel
theorem dX7_goesIn_226 : decode cX7_goesIn 226 = .ok (.putfield 152, 3) := by decide +kernel
theorem dX7_goesIn_229 : decode cX7_goesIn 229 = .ok (.aload_n 0, 1) := by decide +kernel
theorem dX7_goesIn_230 : decode cX7_goesIn 230 = .ok (.dup, 1) := by decide +kernel
theorem dX7_goesIn_231 : decode cX7_goesIn 231 = .ok (.getfield 158, 3) := by decide +kernel
theorem dX7_goesIn_234 : decode cX7_goesIn 234 = .ok (.aload_n 0, 1) := by decide +kernel
theorem dX7_goesIn_235 : decode cX7_goesIn 235 = .ok (.getfield 135, 3) := by decide +kernel
theorem dX7_goesIn_238 : decode cX7_goesIn 238 = .ok (.iload_n 2, 1) := by decide +kernel
theorem dX7_goesIn_239 : decode cX7_goesIn 239 = .ok (.iload 4, 2) := by decide +kernel
theorem dX7_goesIn_241 : decode cX7_goesIn 241 = .ok (.invokestatic 155, 3) := by decide +kernel
theorem dX7_goesIn_244 : decode cX7_goesIn 244 = .ok (.imul, 1) := by decide +kernel
theorem dX7_goesIn_245 : decode cX7_goesIn 245 = .ok (.iadd, 1) := by decide +kernel
theorem dX7_goesIn_246 : decode cX7_goesIn 246 = .ok (.putfield 158, 3) := by decide +kernel
theorem dX7_goesIn_249 : decode cX7_goesIn 249 = .ok (.aload_n 0, 1) := by decide +kernel
theorem dX7_goesIn_250 : decode cX7_goesIn 250 = .ok (.iload_n 1, 1) := by decide +kernel
theorem dX7_goesIn_251 : decode cX7_goesIn 251 = .ok (.iload 4, 2) := by decide +kernel
theorem dX7_goesIn_253 : decode cX7_goesIn 253 = .ok (.invokevirtual 161, 3) := by decide +kernel
theorem dX7_goesIn_256 : decode cX7_goesIn 256 = .ok (.aload_n 0, 1) := by decide +kernel
theorem dX7_goesIn_257 : decode cX7_goesIn 257 = .ok (.aload_n 0, 1) := by decide +kernel
theorem dX7_goesIn_258 : decode cX7_goesIn 258 = .ok (.getfield 129, 3) := by decide +kernel
theorem dX7_goesIn_261 : decode cX7_goesIn 261 = .ok (.iload 5, 2) := by decide +kernel
theorem dX7_goesIn_263 : decode cX7_goesIn 263 = .ok (.imul, 1) := by decide +kernel
theorem dX7_goesIn_264 : decode cX7_goesIn 264 = .ok (.aload_n 0, 1) := by decide +kernel
theorem dX7_goesIn_265 : decode cX7_goesIn 265 = .ok (.getfield 9, 3) := by decide +kernel
theorem dX7_goesIn_268 : decode cX7_goesIn 268 = .ok (.sipush 146, 3) := by decide +kernel
theorem dX7_goesIn_271 : decode cX7_goesIn 271 = .ok (.iload_n 1, 1) := by decide +kernel
theorem dX7_goesIn_272 : decode cX7_goesIn 272 = .ok (.iadd, 1) := by decide +kernel
theorem dX7_goesIn_273 : decode cX7_goesIn 273 = .ok (.iaload, 1) := by decide +kernel
theorem dX7_goesIn_274 : decode cX7_goesIn 274 = .ok (.iload 5, 2) := by decide +kernel
theorem dX7_goesIn_276 : decode cX7_goesIn 276 = .ok (.imul, 1) := by decide +kernel
theorem dX7_goesIn_277 : decode cX7_goesIn 277 = .ok (.bipush 10, 2) := by decide +kernel
theorem dX7_goesIn_279 : decode cX7_goesIn 279 = .ok (.idiv, 1) := by decide +kernel
theorem dX7_goesIn_280 : decode cX7_goesIn 280 = .ok (.isub, 1) := by decide +kernel
theorem dX7_goesIn_281 : decode cX7_goesIn 281 = .ok (.putfield 165, 3) := by decide +kernel
theorem dX7_goesIn_284 : decode cX7_goesIn 284 = .ok (.aload_n 0, 1) := by decide +kernel
theorem dX7_goesIn_285 : decode cX7_goesIn 285 = .ok (.aload_n 0, 1) := by decide +kernel
theorem dX7_goesIn_286 : decode cX7_goesIn 286 = .ok (.getfield 132, 3) := by decide +kernel
theorem dX7_goesIn_289 : decode cX7_goesIn 289 = .ok (.putfield 168, 3) := by decide +kernel
theorem dX7_goesIn_292 : decode cX7_goesIn 292 = .ok (.aload_n 0, 1) := by decide +kernel
theorem dX7_goesIn_293 : decode cX7_goesIn 293 = .ok (.iload_n 1, 1) := by decide +kernel
theorem dX7_goesIn_294 : decode cX7_goesIn 294 = .ok (.iconst 3, 1) := by decide +kernel
theorem dX7_goesIn_295 : decode cX7_goesIn 295 = .ok (.bipush 6, 2) := by decide +kernel
theorem dX7_goesIn_297 : decode cX7_goesIn 297 = .ok (.invokevirtual 171, 3) := by decide +kernel
theorem dX7_goesIn_300 : decode cX7_goesIn 300 = .ok (.ifCond .eq 14, 3) := by decide +kernel
theorem dX7_goesIn_303 : decode cX7_goesIn 303 = .ok (.aload_n 0, 1) := by decide +kernel
theorem dX7_goesIn_304 : decode cX7_goesIn 304 = .ok (.dup, 1) := by decide +kernel
theorem dX7_goesIn_305 : decode cX7_goesIn 305 = .ok (.getfield 152, 3) := by decide +kernel
theorem dX7_goesIn_308 : decode cX7_goesIn 308 = .ok (.iload 6, 2) := by decide +kernel
theorem dX7_goesIn_310 : decode cX7_goesIn 310 = .ok (.isub, 1) := by decide +kernel
theorem dX7_goesIn_311 : decode cX7_goesIn 311 = .ok (.putfield 152, 3) := by decide +kernel
theorem dX7_goesIn_314 : decode cX7_goesIn 314 = .ok (.aload_n 0, 1) := by decide +kernel
theorem dX7_goesIn_315 : decode cX7_goesIn 315 = .ok (.iload_n 1, 1) := by decide +kernel
theorem dX7_goesIn_316 : decode cX7_goesIn 316 = .ok (.iconst 1, 1) := by decide +kernel
theorem dX7_goesIn_317 : decode cX7_goesIn 317 = .ok (.iconst 4, 1) := by decide +kernel
theorem dX7_goesIn_318 : decode cX7_goesIn 318 = .ok (.invokevirtual 171, 3) := by decide +kernel
theorem dX7_goesIn_321 : decode cX7_goesIn 321 = .ok (.ifCond .eq 27, 3) := by decide +kernel
theorem dX7_goesIn_324 : decode cX7_goesIn 324 = .ok (.aload_n 0, 1) := by decide +kernel
theorem dX7_goesIn_325 : decode cX7_goesIn 325 = .ok (.aload_n 0, 1) := by decide +kernel
theorem dX7_goesIn_326 : decode cX7_goesIn 326 = .ok (.getfield 158, 3) := by decide +kernel
theorem dX7_goesIn_329 : decode cX7_goesIn 329 = .ok (.invokestatic 174, 3) := by decide +kernel
theorem dX7_goesIn_332 : decode cX7_goesIn 332 = .ok (.iload 6, 2) := by decide +kernel
theorem dX7_goesIn_334 : decode cX7_goesIn 334 = .ok (.if_icmp .gt 7, 3) := by decide +kernel
theorem dX7_goesIn_337 : decode cX7_goesIn 337 = .ok (.iconst 0, 1) := by decide +kernel
theorem dX7_goesIn_338 : decode cX7_goesIn 338 = .ok (.goto 7, 3) := by decide +kernel
theorem dX7_goesIn_341 : decode cX7_goesIn 341 = .ok (.aload_n 0, 1) := by decide +kernel
theorem dX7_goesIn_342 : decode cX7_goesIn 342 = .ok (.getfield 158, 3) := by decide +kernel
theorem dX7_goesIn_345 : decode cX7_goesIn 345 = .ok (.putfield 158, 3) := by decide +kernel
theorem dX7_goesIn_348 : decode cX7_goesIn 348 = .ok (.aload_n 0, 1) := by decide +kernel
theorem dX7_goesIn_349 : decode cX7_goesIn 349 = .ok (.iload_n 1, 1) := by decide +kernel
theorem dX7_goesIn_350 : decode cX7_goesIn 350 = .ok (.iconst 2, 1) := by decide +kernel
theorem dX7_goesIn_351 : decode cX7_goesIn 351 = .ok (.iconst 5, 1) := by decide +kernel
theorem dX7_goesIn_352 : decode cX7_goesIn 352 = .ok (.invokevirtual 171, 3) := by decide +kernel
theorem dX7_goesIn_355 : decode cX7_goesIn 355 = .ok (.ifCond .eq 14, 3) := by decide +kernel
theorem dX7_goesIn_358 : decode cX7_goesIn 358 = .ok (.aload_n 0, 1) := by decide +kernel
theorem dX7_goesIn_359 : decode cX7_goesIn 359 = .ok (.dup, 1) := by decide +kernel
theorem dX7_goesIn_360 : decode cX7_goesIn 360 = .ok (.getfield 158, 3) := by decide +kernel
theorem dX7_goesIn_363 : decode cX7_goesIn 363 = .ok (.iload 6, 2) := by decide +kernel
theorem dX7_goesIn_365 : decode cX7_goesIn 365 = .ok (.iadd, 1) := by decide +kernel
theorem dX7_goesIn_366 : decode cX7_goesIn 366 = .ok (.putfield 158, 3) := by decide +kernel
theorem dX7_goesIn_369 : decode cX7_goesIn 369 = .ok (.aload_n 0, 1) := by decide +kernel
theorem dX7_goesIn_370 : decode cX7_goesIn 370 = .ok (.getfield 9, 3) := by decide +kernel
theorem dX7_goesIn_373 : decode cX7_goesIn 373 = .ok (.bipush 110, 2) := by decide +kernel
theorem dX7_goesIn_375 : decode cX7_goesIn 375 = .ok (.iload_n 1, 1) := by decide +kernel
theorem dX7_goesIn_376 : decode cX7_goesIn 376 = .ok (.iadd, 1) := by decide +kernel
theorem dX7_goesIn_377 : decode cX7_goesIn 377 = .ok (.iaload, 1) := by decide +kernel
theorem dX7_goesIn_378 : decode cX7_goesIn 378 = .ok (.iconst 5, 1) := by decide +kernel
theorem dX7_goesIn_379 : decode cX7_goesIn 379 = .ok (.if_icmp .ne 27, 3) := by decide +kernel
theorem dX7_goesIn_382 : decode cX7_goesIn 382 = .ok (.aload_n 0, 1) := by decide +kernel
theorem dX7_goesIn_383 : decode cX7_goesIn 383 = .ok (.aload_n 0, 1) := by decide +kernel
theorem dX7_goesIn_384 : decode cX7_goesIn 384 = .ok (.getfield 165, 3) := by decide +kernel
theorem dX7_goesIn_387 : decode cX7_goesIn 387 = .ok (.iload 6, 2) := by decide +kernel
theorem dX7_goesIn_389 : decode cX7_goesIn 389 = .ok (.if_icmp .ge 7, 3) := by decide +kernel
theorem dX7_goesIn_392 : decode cX7_goesIn 392 = .ok (.iconst 0, 1) := by decide +kernel
theorem dX7_goesIn_393 : decode cX7_goesIn 393 = .ok (.goto 10, 3) := by decide +kernel
theorem dX7_goesIn_396 : decode cX7_goesIn 396 = .ok (.aload_n 0, 1) := by decide +kernel
theorem dX7_goesIn_397 : decode cX7_goesIn 397 = .ok (.getfield 165, 3) := by decide +kernel
theorem dX7_goesIn_400 : decode cX7_goesIn 400 = .ok (.iload 6, 2) := by decide +kernel
theorem dX7_goesIn_402 : decode cX7_goesIn 402 = .ok (.isub, 1) := by decide +kernel
theorem dX7_goesIn_403 : decode cX7_goesIn 403 = .ok (.putfield 165, 3) := by decide +kernel
theorem dX7_goesIn_406 : decode cX7_goesIn 406 = .ok (.aload_n 0, 1) := by decide +kernel
theorem dX7_goesIn_407 : decode cX7_goesIn 407 = .ok (.getfield 9, 3) := by decide +kernel
theorem dX7_goesIn_410 : decode cX7_goesIn 410 = .ok (.bipush 110, 2) := by decide +kernel
theorem dX7_goesIn_412 : decode cX7_goesIn 412 = .ok (.iload_n 1, 1) := by decide +kernel
theorem dX7_goesIn_413 : decode cX7_goesIn 413 = .ok (.iadd, 1) := by decide +kernel
theorem dX7_goesIn_414 : decode cX7_goesIn 414 = .ok (.iaload, 1) := by decide +kernel
theorem dX7_goesIn_415 : decode cX7_goesIn 415 = .ok (.bipush 6, 2) := by decide +kernel
theorem dX7_goesIn_417 : decode cX7_goesIn 417 = .ok (.if_icmp .ne 27, 3) := by decide +kernel
theorem dX7_goesIn_420 : decode cX7_goesIn 420 = .ok (.aload_n 0, 1) := by decide +kernel
theorem dX7_goesIn_421 : decode cX7_goesIn 421 = .ok (.aload_n 0, 1) := by decide +kernel
theorem dX7_goesIn_422 : decode cX7_goesIn 422 = .ok (.getfield 168, 3) := by decide +kernel
theorem dX7_goesIn_425 : decode cX7_goesIn 425 = .ok (.iload 6, 2) := by decide +kernel
theorem dX7_goesIn_427 : decode cX7_goesIn 427 = .ok (.if_icmp .ge 7, 3) := by decide +kernel
theorem dX7_goesIn_430 : decode cX7_goesIn 430 = .ok (.iconst 0, 1) := by decide +kernel
theorem dX7_goesIn_431 : decode cX7_goesIn 431 = .ok (.goto 10, 3) := by decide +kernel
theorem dX7_goesIn_434 : decode cX7_goesIn 434 = .ok (.aload_n 0, 1) := by decide +kernel
theorem dX7_goesIn_435 : decode cX7_goesIn 435 = .ok (.getfield 168, 3) := by decide +kernel
theorem dX7_goesIn_438 : decode cX7_goesIn 438 = .ok (.iload 6, 2) := by decide +kernel
theorem dX7_goesIn_440 : decode cX7_goesIn 440 = .ok (.isub, 1) := by decide +kernel
theorem dX7_goesIn_441 : decode cX7_goesIn 441 = .ok (.putfield 168, 3) := by decide +kernel
theorem dX7_goesIn_444 : decode cX7_goesIn 444 = .ok (.aload_n 0, 1) := by decide +kernel
theorem dX7_goesIn_445 : decode cX7_goesIn 445 = .ok (.aload_n 0, 1) := by decide +kernel
theorem dX7_goesIn_446 : decode cX7_goesIn 446 = .ok (.getfield 152, 3) := by decide +kernel
theorem dX7_goesIn_449 : decode cX7_goesIn 449 = .ok (.ifCond .ge 7, 3) := by decide +kernel
theorem dX7_goesIn_452 : decode cX7_goesIn 452 = .ok (.iconst 2, 1) := by decide +kernel
theorem dX7_goesIn_453 : decode cX7_goesIn 453 = .ok (.goto 57, 3) := by decide +kernel
theorem dX7_goesIn_456 : decode cX7_goesIn 456 = .ok (.aload_n 0, 1) := by decide +kernel
theorem dX7_goesIn_457 : decode cX7_goesIn 457 = .ok (.getfield 152, 3) := by decide +kernel
theorem dX7_goesIn_460 : decode cX7_goesIn 460 = .ok (.aload_n 0, 1) := by decide +kernel
theorem dX7_goesIn_461 : decode cX7_goesIn 461 = .ok (.getfield 168, 3) := by decide +kernel
theorem dX7_goesIn_464 : decode cX7_goesIn 464 = .ok (.if_icmp .le 7, 3) := by decide +kernel
theorem dX7_goesIn_467 : decode cX7_goesIn 467 = .ok (.iconst 4, 1) := by decide +kernel
theorem dX7_goesIn_468 : decode cX7_goesIn 468 = .ok (.goto 42, 3) := by decide +kernel
theorem dX7_goesIn_471 : decode cX7_goesIn 471 = .ok (.aload_n 0, 1) := by decide +kernel
theorem dX7_goesIn_472 : decode cX7_goesIn 472 = .ok (.getfield 158, 3) := by decide +kernel
theorem dX7_goesIn_475 : decode cX7_goesIn 475 = .ok (.invokestatic 174, 3) := by decide +kernel
theorem dX7_goesIn_478 : decode cX7_goesIn 478 = .ok (.aload_n 0, 1) := by decide +kernel
theorem dX7_goesIn_479 : decode cX7_goesIn 479 = .ok (.getfield 165, 3) := by decide +kernel
theorem dX7_goesIn_482 : decode cX7_goesIn 482 = .ok (.if_icmp .le 7, 3) := by decide +kernel
theorem dX7_goesIn_485 : decode cX7_goesIn 485 = .ok (.iconst 3, 1) := by decide +kernel
theorem dX7_goesIn_486 : decode cX7_goesIn 486 = .ok (.goto 24, 3) := by decide +kernel
theorem dX7_goesIn_489 : decode cX7_goesIn 489 = .ok (.iconst 2, 1) := by decide +kernel
theorem dX7_goesIn_490 : decode cX7_goesIn 490 = .ok (.aload_n 0, 1) := by decide +kernel
theorem dX7_goesIn_491 : decode cX7_goesIn 491 = .ok (.getfield 158, 3) := by decide +kernel
theorem dX7_goesIn_494 : decode cX7_goesIn 494 = .ok (.invokestatic 174, 3) := by decide +kernel
theorem dX7_goesIn_497 : decode cX7_goesIn 497 = .ok (.imul, 1) := by decide +kernel
theorem dX7_goesIn_498 : decode cX7_goesIn 498 = .ok (.aload_n 0, 1) := by decide +kernel
theorem dX7_goesIn_499 : decode cX7_goesIn 499 = .ok (.getfield 165, 3) := by decide +kernel
theorem dX7_goesIn_502 : decode cX7_goesIn 502 = .ok (.if_icmp .le 7, 3) := by decide +kernel
theorem dX7_goesIn_505 : decode cX7_goesIn 505 = .ok (.iconst 1, 1) := by decide +kernel
