theorem dX7_goesIn_506 : decode cX7_goesIn 506 = .ok (.goto 4, 3) := by decide +kernel
theorem dX7_goesIn_509 : decode cX7_goesIn 509 = .ok (.iconst 0, 1) := by decide +kernel
theorem dX7_goesIn_510 : decode cX7_goesIn 510 = .ok (.putfield 177, 3) := by decide +kernel
theorem dX7_goesIn_513 : decode cX7_goesIn 513 = .ok (.aload_n 0, 1) := by decide +kernel
theorem dX7_goesIn_514 : decode cX7_goesIn 514 = .ok (.getfield 177, 3) := by decide +kernel
theorem dX7_goesIn_517 : decode cX7_goesIn 517 = .ok (.iconst 1, 1) := by decide +kernel
theorem dX7_goesIn_518 : decode cX7_goesIn 518 = .ok (.if_icmp .ne 7, 3) := by decide +kernel
theorem dX7_goesIn_521 : decode cX7_goesIn 521 = .ok (.iconst 1, 1) := by decide +kernel
theorem dX7_goesIn_522 : decode cX7_goesIn 522 = .ok (.goto 16, 3) := by decide +kernel
theorem dX7_goesIn_525 : decode cX7_goesIn 525 = .ok (.aload_n 0, 1) := by decide +kernel
theorem dX7_goesIn_526 : decode cX7_goesIn 526 = .ok (.getfield 177, 3) := by decide +kernel
theorem dX7_goesIn_529 : decode cX7_goesIn 529 = .ok (.iconst 3, 1) := by decide +kernel
theorem dX7_goesIn_530 : decode cX7_goesIn 530 = .ok (.if_icmp .ne 7, 3) := by decide +kernel
theorem dX7_goesIn_533 : decode cX7_goesIn 533 = .ok (.iconst 2, 1) := by decide +kernel
theorem dX7_goesIn_534 : decode cX7_goesIn 534 = .ok (.goto 4, 3) := by decide +kernel
theorem dX7_goesIn_537 : decode cX7_goesIn 537 = .ok (.iconst 0, 1) := by decide +kernel
theorem dX7_goesIn_538 : decode cX7_goesIn 538 = .ok (.istore 7, 2) := by decide +kernel
theorem dX7_goesIn_540 : decode cX7_goesIn 540 = .ok (.aload_n 0, 1) := by decide +kernel
theorem dX7_goesIn_541 : decode cX7_goesIn 541 = .ok (.aload_n 0, 1) := by decide +kernel
theorem dX7_goesIn_542 : decode cX7_goesIn 542 = .ok (.getfield 177, 3) := by decide +kernel
theorem dX7_goesIn_545 : decode cX7_goesIn 545 = .ok (.iconst 2, 1) := by decide +kernel
theorem dX7_goesIn_546 : decode cX7_goesIn 546 = .ok (.if_icmp .ne 8, 3) := by decide +kernel
theorem dX7_goesIn_549 : decode cX7_goesIn 549 = .ok (.bipush (-5), 2) := by decide +kernel
theorem dX7_goesIn_551 : decode cX7_goesIn 551 = .ok (.goto 26, 3) := by decide +kernel
theorem dX7_goesIn_554 : decode cX7_goesIn 554 = .ok (.iload 4, 2) := by decide +kernel
theorem dX7_goesIn_556 : decode cX7_goesIn 556 = .ok (.aload_n 0, 1) := by decide +kernel
theorem dX7_goesIn_557 : decode cX7_goesIn 557 = .ok (.getfield 158, 3) := by decide +kernel
theorem dX7_goesIn_560 : decode cX7_goesIn 560 = .ok (.ifCond .le 8, 3) := by decide +kernel
theorem dX7_goesIn_563 : decode cX7_goesIn 563 = .ok (.iload 7, 2) := by decide +kernel
theorem dX7_goesIn_565 : decode cX7_goesIn 565 = .ok (.goto 8, 3) := by decide +kernel
theorem dX7_goesIn_568 : decode cX7_goesIn 568 = .ok (.bipush 8, 2) := by decide +kernel
theorem dX7_goesIn_570 : decode cX7_goesIn 570 = .ok (.iload 7, 2) := by decide +kernel
theorem dX7_goesIn_572 : decode cX7_goesIn 572 = .ok (.isub, 1) := by decide +kernel
theorem dX7_goesIn_573 : decode cX7_goesIn 573 = .ok (.iadd, 1) := by decide +kernel
theorem dX7_goesIn_574 : decode cX7_goesIn 574 = .ok (.bipush 8, 2) := by decide +kernel
theorem dX7_goesIn_576 : decode cX7_goesIn 576 = .ok (.irem, 1) := by decide +kernel
theorem dX7_goesIn_577 : decode cX7_goesIn 577 = .ok (.putfield 180, 3) := by decide +kernel
theorem dX7_goesIn_580 : decode cX7_goesIn 580 = .ok (.return_, 1) := by decide +kernel
theorem dX7_next_0 : decode cX7_next 0 = .ok (.iload_n 0, 1) := by decide +kernel
theorem dX7_next_1 : decode cX7_next 1 = .ok (.bipush 8, 2) := by decide +kernel
theorem dX7_next_3 : decode cX7_next 3 = .ok (.idiv, 1) := by decide +kernel
theorem dX7_next_4 : decode cX7_next 4 = .ok (.iload_n 1, 1) := by decide +kernel
theorem dX7_next_5 : decode cX7_next 5 = .ok (.bipush 7, 2) := by decide +kernel
theorem dX7_next_7 : decode cX7_next 7 = .ok (.if_icmp .eq 8, 3) := by decide +kernel
theorem dX7_next_10 : decode cX7_next 10 = .ok (.iload_n 1, 1) := by decide +kernel
theorem dX7_next_11 : decode cX7_next 11 = .ok (.iconst 2, 1) := by decide +kernel
theorem dX7_next_12 : decode cX7_next 12 = .ok (.if_icmp .ge 7, 3) := by decide +kernel
theorem dX7_next_15 : decode cX7_next 15 = .ok (.iconst (-1), 1) := by decide +kernel
theorem dX7_next_16 : decode cX7_next 16 = .ok (.goto 19, 3) := by decide +kernel
theorem dX7_next_19 : decode cX7_next 19 = .ok (.iload_n 1, 1) := by decide +kernel
theorem dX7_next_20 : decode cX7_next 20 = .ok (.iconst 2, 1) := by decide +kernel
theorem dX7_next_21 : decode cX7_next 21 = .ok (.if_icmp .le 13, 3) := by decide +kernel
theorem dX7_next_24 : decode cX7_next 24 = .ok (.iload_n 1, 1) := by decide +kernel
theorem dX7_next_25 : decode cX7_next 25 = .ok (.bipush 6, 2) := by decide +kernel
theorem dX7_next_27 : decode cX7_next 27 = .ok (.if_icmp .ge 7, 3) := by decide +kernel
theorem dX7_next_30 : decode cX7_next 30 = .ok (.iconst 1, 1) := by decide +kernel
theorem dX7_next_31 : decode cX7_next 31 = .ok (.goto 4, 3) := by decide +kernel
theorem dX7_next_34 : decode cX7_next 34 = .ok (.iconst 0, 1) := by decide +kernel
theorem dX7_next_35 : decode cX7_next 35 = .ok (.iadd, 1) := by decide +kernel
theorem dX7_next_36 : decode cX7_next 36 = .ok (.istore_n 2, 1) := by decide +kernel
theorem dX7_next_37 : decode cX7_next 37 = .ok (.iload_n 0, 1) := by decide +kernel
theorem dX7_next_38 : decode cX7_next 38 = .ok (.bipush 8, 2) := by decide +kernel
theorem dX7_next_40 : decode cX7_next 40 = .ok (.irem, 1) := by decide +kernel
theorem dX7_next_41 : decode cX7_next 41 = .ok (.iload_n 1, 1) := by decide +kernel
theorem dX7_next_42 : decode cX7_next 42 = .ok (.iconst 1, 1) := by decide +kernel
theorem dX7_next_43 : decode cX7_next 43 = .ok (.iconst 3, 1) := by decide +kernel
theorem dX7_next_44 : decode cX7_next 44 = .ok (.invokestatic 41, 3) := by decide +kernel
theorem dX7_next_47 : decode cX7_next 47 = .ok (.ifCond .eq 7, 3) := by decide +kernel
theorem dX7_next_50 : decode cX7_next 50 = .ok (.iconst 1, 1) := by decide +kernel
theorem dX7_next_51 : decode cX7_next 51 = .ok (.goto 13, 3) := by decide +kernel
theorem dX7_next_54 : decode cX7_next 54 = .ok (.iload_n 1, 1) := by decide +kernel
theorem dX7_next_55 : decode cX7_next 55 = .ok (.iconst 4, 1) := by decide +kernel
theorem dX7_next_56 : decode cX7_next 56 = .ok (.if_icmp .le 7, 3) := by decide +kernel
theorem dX7_next_59 : decode cX7_next 59 = .ok (.iconst (-1), 1) := by decide +kernel
theorem dX7_next_60 : decode cX7_next 60 = .ok (.goto 4, 3) := by decide +kernel
theorem dX7_next_63 : decode cX7_next 63 = .ok (.iconst 0, 1) := by decide +kernel
theorem dX7_next_64 : decode cX7_next 64 = .ok (.iadd, 1) := by decide +kernel
theorem dX7_next_65 : decode cX7_next 65 = .ok (.istore_n 3, 1) := by decide +kernel
theorem dX7_next_66 : decode cX7_next 66 = .ok (.iload_n 2, 1) := by decide +kernel
theorem dX7_next_67 : decode cX7_next 67 = .ok (.iconst 0, 1) := by decide +kernel
theorem dX7_next_68 : decode cX7_next 68 = .ok (.bipush 7, 2) := by decide +kernel
theorem dX7_next_70 : decode cX7_next 70 = .ok (.invokestatic 41, 3) := by decide +kernel
theorem dX7_next_73 : decode cX7_next 73 = .ok (.ifCond .eq 22, 3) := by decide +kernel
theorem dX7_next_76 : decode cX7_next 76 = .ok (.iload_n 3, 1) := by decide +kernel
theorem dX7_next_77 : decode cX7_next 77 = .ok (.iconst 0, 1) := by decide +kernel
theorem dX7_next_78 : decode cX7_next 78 = .ok (.bipush 7, 2) := by decide +kernel
theorem dX7_next_80 : decode cX7_next 80 = .ok (.invokestatic 41, 3) := by decide +kernel
theorem dX7_next_83 : decode cX7_next 83 = .ok (.ifCond .eq 12, 3) := by decide +kernel
theorem dX7_next_86 : decode cX7_next 86 = .ok (.bipush 8, 2) := by decide +kernel
theorem dX7_next_88 : decode cX7_next 88 = .ok (.iload_n 2, 1) := by decide +kernel
theorem dX7_next_89 : decode cX7_next 89 = .ok (.imul, 1) := by decide +kernel
theorem dX7_next_90 : decode cX7_next 90 = .ok (.iload_n 3, 1) := by decide +kernel
theorem dX7_next_91 : decode cX7_next 91 = .ok (.iadd, 1) := by decide +kernel
theorem dX7_next_92 : decode cX7_next 92 = .ok (.goto 4, 3) := by decide +kernel
theorem dX7_next_95 : decode cX7_next 95 = .ok (.iconst (-1), 1) := by decide +kernel
theorem dX7_next_96 : decode cX7_next 96 = .ok (.ireturn, 1) := by decide +kernel
theorem dX7_standingOn_0 : decode cX7_standingOn 0 = .ok (.iconst 0, 1) := by decide +kernel
theorem dX7_standingOn_1 : decode cX7_standingOn 1 = .ok (.istore_n 3, 1) := by decide +kernel
theorem dX7_standingOn_2 : decode cX7_standingOn 2 = .ok (.iload_n 3, 1) := by decide +kernel
theorem dX7_standingOn_3 : decode cX7_standingOn 3 = .ok (.aload_n 0, 1) := by decide +kernel
theorem dX7_standingOn_4 : decode cX7_standingOn 4 = .ok (.getfield 9, 3) := by decide +kernel
theorem dX7_standingOn_7 : decode cX7_standingOn 7 = .ok (.iconst 0, 1) := by decide +kernel
theorem dX7_standingOn_8 : decode cX7_standingOn 8 = .ok (.iaload, 1) := by decide +kernel
theorem dX7_standingOn_9 : decode cX7_standingOn 9 = .ok (.if_icmp .ge 37, 3) := by decide +kernel
theorem dX7_standingOn_12 : decode cX7_standingOn 12 = .ok (.iload_n 3, 1) := by decide +kernel
theorem dX7_standingOn_13 : decode cX7_standingOn 13 = .ok (.iload_n 2, 1) := by decide +kernel
theorem dX7_standingOn_14 : decode cX7_standingOn 14 = .ok (.if_icmp .eq 26, 3) := by decide +kernel
theorem dX7_standingOn_17 : decode cX7_standingOn 17 = .ok (.aload_n 0, 1) := by decide +kernel
theorem dX7_standingOn_18 : decode cX7_standingOn 18 = .ok (.iload_n 3, 1) := by decide +kernel
theorem dX7_standingOn_19 : decode cX7_standingOn 19 = .ok (.invokevirtual 183, 3) := by decide +kernel
theorem dX7_standingOn_22 : decode cX7_standingOn 22 = .ok (.ifCond .eq 18, 3) := by decide +kernel
theorem dX7_standingOn_25 : decode cX7_standingOn 25 = .ok (.aload_n 0, 1) := by decide +kernel
theorem dX7_standingOn_26 : decode cX7_standingOn 26 = .ok (.getfield 9, 3) := by decide +kernel
theorem dX7_standingOn_29 : decode cX7_standingOn 29 = .ok (.bipush 122, 2) := by decide +kernel
theorem dX7_standingOn_31 : decode cX7_standingOn 31 = .ok (.iload_n 3, 1) := by decide +kernel
theorem dX7_standingOn_32 : decode cX7_standingOn 32 = .ok (.iadd, 1) := by decide +kernel
theorem dX7_standingOn_33 : decode cX7_standingOn 33 = .ok (.iaload, 1) := by decide +kernel
theorem dX7_standingOn_34 : decode cX7_standingOn 34 = .ok (.iload_n 1, 1) := by decide +kernel
theorem dX7_standingOn_35 : decode cX7_standingOn 35 = .ok (.if_icmp .ne 5, 3) := by decide +kernel
theorem dX7_standingOn_38 : decode cX7_standingOn 38 = .ok (.iload_n 3, 1) := by decide +kernel
theorem dX7_standingOn_39 : decode cX7_standingOn 39 = .ok (.ireturn, 1) := by decide +kernel
theorem dX7_standingOn_40 : decode cX7_standingOn 40 = .ok (.iinc 3 1, 3) := by decide +kernel
theorem dX7_standingOn_43 : decode cX7_standingOn 43 = .ok (.goto (-41), 3) := by decide +kernel
theorem dX7_standingOn_46 : decode cX7_standingOn 46 = .ok (.iconst (-1), 1) := by decide +kernel
theorem dX7_standingOn_47 : decode cX7_standingOn 47 = .ok (.ireturn, 1) := by decide +kernel
theorem dX7_lays_0 : decode cX7_lays 0 = .ok (.aload_n 0, 1) := by decide +kernel
theorem dX7_lays_1 : decode cX7_lays 1 = .ok (.lconst 0, 1) := by decide +kernel
theorem dX7_lays_2 : decode cX7_lays 2 = .ok (.putfield 186, 3) := by decide +kernel
theorem dX7_lays_5 : decode cX7_lays 5 = .ok (.aload_n 0, 1) := by decide +kernel
theorem dX7_lays_6 : decode cX7_lays 6 = .ok (.iconst 0, 1) := by decide +kernel
theorem dX7_lays_7 : decode cX7_lays 7 = .ok (.putfield 190, 3) := by decide +kernel
theorem dX7_lays_10 : decode cX7_lays 10 = .ok (.aload_n 0, 1) := by decide +kernel
theorem dX7_lays_11 : decode cX7_lays 11 = .ok (.bipush (-5), 2) := by decide +kernel
theorem dX7_lays_13 : decode cX7_lays 13 = .ok (.putfield 193, 3) := by decide +kernel
theorem dX7_lays_16 : decode cX7_lays 16 = .ok (.aload_n 0, 1) := by decide +kernel
theorem dX7_lays_17 : decode cX7_lays 17 = .ok (.getfield 177, 3) := by decide +kernel
theorem dX7_lays_20 : decode cX7_lays 20 = .ok (.iconst 2, 1) := by decide +kernel
theorem dX7_lays_21 : decode cX7_lays 21 = .ok (.if_icmp .ne 7, 3) := by decide +kernel
theorem dX7_lays_24 : decode cX7_lays 24 = .ok (.iconst 0, 1) := by decide +kernel
theorem dX7_lays_25 : decode cX7_lays 25 = .ok (.goto 36, 3) := by decide +kernel
theorem dX7_lays_28 : decode cX7_lays 28 = .ok (.aload_n 0, 1) := by decide +kernel
theorem dX7_lays_29 : decode cX7_lays 29 = .ok (.getfield 177, 3) := by decide +kernel
theorem dX7_lays_32 : decode cX7_lays 32 = .ok (.iconst 4, 1) := by decide +kernel
theorem dX7_lays_33 : decode cX7_lays 33 = .ok (.if_icmp .ne 18, 3) := by decide +kernel
theorem dX7_lays_36 : decode cX7_lays 36 = .ok (.aload_n 0, 1) := by decide +kernel
theorem dX7_lays_37 : decode cX7_lays 37 = .ok (.getfield 9, 3) := by decide +kernel
theorem dX7_lays_40 : decode cX7_lays 40 = .ok (.sipush 128, 3) := by decide +kernel
theorem dX7_lays_43 : decode cX7_lays 43 = .ok (.iload_n 1, 1) := by decide +kernel
theorem dX7_lays_44 : decode cX7_lays 44 = .ok (.iadd, 1) := by decide +kernel
theorem dX7_lays_45 : decode cX7_lays 45 = .ok (.iaload, 1) := by decide +kernel
theorem dX7_lays_46 : decode cX7_lays 46 = .ok (.iconst 1, 1) := by decide +kernel
theorem dX7_lays_47 : decode cX7_lays 47 = .ok (.isub, 1) := by decide +kernel
theorem dX7_lays_48 : decode cX7_lays 48 = .ok (.goto 13, 3) := by decide +kernel
theorem dX7_lays_51 : decode cX7_lays 51 = .ok (.aload_n 0, 1) := by decide +kernel
theorem dX7_lays_52 : decode cX7_lays 52 = .ok (.getfield 9, 3) := by decide +kernel
theorem dX7_lays_55 : decode cX7_lays 55 = .ok (.sipush 128, 3) := by decide +kernel
theorem dX7_lays_58 : decode cX7_lays 58 = .ok (.iload_n 1, 1) := by decide +kernel
theorem dX7_lays_59 : decode cX7_lays 59 = .ok (.iadd, 1) := by decide +kernel
theorem dX7_lays_60 : decode cX7_lays 60 = .ok (.iaload, 1) := by decide +kernel
theorem dX7_lays_61 : decode cX7_lays 61 = .ok (.istore_n 2, 1) := by decide +kernel
theorem dX7_lays_62 : decode cX7_lays 62 = .ok (.aload_n 0, 1) := by decide +kernel
theorem dX7_lays_63 : decode cX7_lays 63 = .ok (.getfield 9, 3) := by decide +kernel
theorem dX7_lays_66 : decode cX7_lays 66 = .ok (.bipush 122, 2) := by decide +kernel
theorem dX7_lays_68 : decode cX7_lays 68 = .ok (.iload_n 1, 1) := by decide +kernel
theorem dX7_lays_69 : decode cX7_lays 69 = .ok (.iadd, 1) := by decide +kernel
theorem dX7_lays_70 : decode cX7_lays 70 = .ok (.iaload, 1) := by decide +kernel
theorem dX7_lays_71 : decode cX7_lays 71 = .ok (.istore_n 3, 1) := by decide +kernel
theorem dX7_lays_72 : decode cX7_lays 72 = .ok (.iconst 0, 1) := by decide +kernel
theorem dX7_lays_73 : decode cX7_lays 73 = .ok (.istore 4, 2) := by decide +kernel
theorem dX7_lays_75 : decode cX7_lays 75 = .ok (.iload 4, 2) := by decide +kernel
theorem dX7_lays_77 : decode cX7_lays 77 = .ok (.iload_n 2, 1) := by decide +kernel
theorem dX7_lays_78 : decode cX7_lays 78 = .ok (.if_icmp .ge 108, 3) := by decide +kernel
theorem dX7_lays_81 : decode cX7_lays 81 = .ok (.aload_n 0, 1) := by decide +kernel
theorem dX7_lays_82 : decode cX7_lays 82 = .ok (.getfield 193, 3) := by decide +kernel
theorem dX7_lays_85 : decode cX7_lays 85 = .ok (.bipush (-5), 2) := by decide +kernel
theorem dX7_lays_87 : decode cX7_lays 87 = .ok (.if_icmp .ne 99, 3) := by decide +kernel
theorem dX7_lays_90 : decode cX7_lays 90 = .ok (.iload_n 3, 1) := by decide +kernel
theorem dX7_lays_91 : decode cX7_lays 91 = .ok (.iconst (-1), 1) := by decide +kernel
theorem dX7_lays_92 : decode cX7_lays 92 = .ok (.if_icmp .ne 7, 3) := by decide +kernel
theorem dX7_lays_95 : decode cX7_lays 95 = .ok (.iconst (-1), 1) := by decide +kernel
theorem dX7_lays_96 : decode cX7_lays 96 = .ok (.goto 11, 3) := by decide +kernel
theorem dX7_lays_99 : decode cX7_lays 99 = .ok (.iload_n 3, 1) := by decide +kernel
theorem dX7_lays_100 : decode cX7_lays 100 = .ok (.aload_n 0, 1) := by decide +kernel
theorem dX7_lays_101 : decode cX7_lays 101 = .ok (.getfield 180, 3) := by decide +kernel
theorem dX7_lays_104 : decode cX7_lays 104 = .ok (.invokestatic 196, 3) := by decide +kernel
theorem dX7_lays_107 : decode cX7_lays 107 = .ok (.istore_n 3, 1) := by decide +kernel
theorem dX7_lays_108 : decode cX7_lays 108 = .ok (.iload_n 3, 1) := by decide +kernel
theorem dX7_lays_109 : decode cX7_lays 109 = .ok (.iconst (-1), 1) := by decide +kernel
theorem dX7_lays_110 : decode cX7_lays 110 = .ok (.if_icmp .eq 70, 3) := by decide +kernel
theorem dX7_lays_113 : decode cX7_lays 113 = .ok (.aload_n 0, 1) := by decide +kernel
theorem dX7_lays_114 : decode cX7_lays 114 = .ok (.iload_n 3, 1) := by decide +kernel
theorem dX7_lays_115 : decode cX7_lays 115 = .ok (.iload_n 1, 1) := by decide +kernel
theorem dX7_lays_116 : decode cX7_lays 116 = .ok (.invokevirtual 199, 3) := by decide +kernel
theorem dX7_lays_119 : decode cX7_lays 119 = .ok (.istore 5, 2) := by decide +kernel
theorem dX7_lays_121 : decode cX7_lays 121 = .ok (.aload_n 0, 1) := by decide +kernel
theorem dX7_lays_122 : decode cX7_lays 122 = .ok (.iload 5, 2) := by decide +kernel
theorem dX7_lays_124 : decode cX7_lays 124 = .ok (.iconst (-1), 1) := by decide +kernel
theorem dX7_lays_125 : decode cX7_lays 125 = .ok (.if_icmp .ne 8, 3) := by decide +kernel
theorem dX7_lays_128 : decode cX7_lays 128 = .ok (.bipush (-5), 2) := by decide +kernel
theorem dX7_lays_130 : decode cX7_lays 130 = .ok (.goto 5, 3) := by decide +kernel
theorem dX7_lays_133 : decode cX7_lays 133 = .ok (.iload 5, 2) := by decide +kernel
theorem dX7_lays_135 : decode cX7_lays 135 = .ok (.putfield 193, 3) := by decide +kernel
theorem dX7_lays_138 : decode cX7_lays 138 = .ok (.aload_n 0, 1) := by decide +kernel
theorem dX7_lays_139 : decode cX7_lays 139 = .ok (.dup, 1) := by decide +kernel
theorem dX7_lays_140 : decode cX7_lays 140 = .ok (.getfield 186, 3) := by decide +kernel
theorem dX7_lays_143 : decode cX7_lays 143 = .ok (.iload 5, 2) := by decide +kernel
theorem dX7_lays_145 : decode cX7_lays 145 = .ok (.iconst (-1), 1) := by decide +kernel
theorem dX7_lays_146 : decode cX7_lays 146 = .ok (.if_icmp .ne 9, 3) := by decide +kernel
theorem dX7_lays_149 : decode cX7_lays 149 = .ok (.lconst 1, 1) := by decide +kernel
theorem dX7_lays_150 : decode cX7_lays 150 = .ok (.iload_n 3, 1) := by decide +kernel
theorem dX7_lays_151 : decode cX7_lays 151 = .ok (.lshl, 1) := by decide +kernel
theorem dX7_lays_152 : decode cX7_lays 152 = .ok (.goto 4, 3) := by decide +kernel
theorem dX7_lays_155 : decode cX7_lays 155 = .ok (.lconst 0, 1) := by decide +kernel
theorem dX7_lays_156 : decode cX7_lays 156 = .ok (.lor, 1) := by decide +kernel
theorem dX7_lays_157 : decode cX7_lays 157 = .ok (.putfield 186, 3) := by decide +kernel
theorem dX7_lays_160 : decode cX7_lays 160 = .ok (.aload_n 0, 1) := by decide +kernel
theorem dX7_lays_161 : decode cX7_lays 161 = .ok (.dup, 1) := by decide +kernel
theorem dX7_lays_162 : decode cX7_lays 162 = .ok (.getfield 190, 3) := by decide +kernel
theorem dX7_lays_165 : decode cX7_lays 165 = .ok (.iload 5, 2) := by decide +kernel
theorem dX7_lays_167 : decode cX7_lays 167 = .ok (.iconst (-1), 1) := by decide +kernel
theorem dX7_lays_168 : decode cX7_lays 168 = .ok (.if_icmp .ne 7, 3) := by decide +kernel
theorem dX7_lays_171 : decode cX7_lays 171 = .ok (.iconst 1, 1) := by decide +kernel
theorem dX7_lays_172 : decode cX7_lays 172 = .ok (.goto 4, 3) := by decide +kernel
theorem dX7_lays_175 : decode cX7_lays 175 = .ok (.iconst 0, 1) := by decide +kernel
theorem dX7_lays_176 : decode cX7_lays 176 = .ok (.iadd, 1) := by decide +kernel
theorem dX7_lays_177 : decode cX7_lays 177 = .ok (.putfield 190, 3) := by decide +kernel
theorem dX7_lays_180 : decode cX7_lays 180 = .ok (.iinc 4 1, 3) := by decide +kernel
theorem dX7_lays_183 : decode cX7_lays 183 = .ok (.goto (-108), 3) := by decide +kernel
theorem dX7_lays_186 : decode cX7_lays 186 = .ok (.return_, 1) := by decide +kernel
theorem dX7_doesStrike_0 : decode cX7_doesStrike 0 = .ok (.iconst 0, 1) := by decide +kernel
theorem dX7_doesStrike_1 : decode cX7_doesStrike 1 = .ok (.istore_n 1, 1) := by decide +kernel
theorem dX7_doesStrike_2 : decode cX7_doesStrike 2 = .ok (.iconst 0, 1) := by decide +kernel
theorem dX7_doesStrike_3 : decode cX7_doesStrike 3 = .ok (.istore_n 2, 1) := by decide +kernel
theorem dX7_doesStrike_4 : decode cX7_doesStrike 4 = .ok (.iload_n 2, 1) := by decide +kernel
theorem dX7_doesStrike_5 : decode cX7_doesStrike 5 = .ok (.bipush 64, 2) := by decide +kernel
theorem dX7_doesStrike_7 : decode cX7_doesStrike 7 = .ok (.if_icmp .ge 46, 3) := by decide +kernel
theorem dX7_doesStrike_10 : decode cX7_doesStrike 10 = .ok (.iload_n 1, 1) := by decide +kernel
theorem dX7_doesStrike_11 : decode cX7_doesStrike 11 = .ok (.ifCond .ne 30, 3) := by decide +kernel
theorem dX7_doesStrike_14 : decode cX7_doesStrike 14 = .ok (.aload_n 0, 1) := by decide +kernel
theorem dX7_doesStrike_15 : decode cX7_doesStrike 15 = .ok (.getfield 186, 3) := by decide +kernel
theorem dX7_doesStrike_18 : decode cX7_doesStrike 18 = .ok (.iload_n 2, 1) := by decide +kernel
theorem dX7_doesStrike_19 : decode cX7_doesStrike 19 = .ok (.lshr, 1) := by decide +kernel
theorem dX7_doesStrike_20 : decode cX7_doesStrike 20 = .ok (.lconst 1, 1) := by decide +kernel
theorem dX7_doesStrike_21 : decode cX7_doesStrike 21 = .ok (.land, 1) := by decide +kernel
theorem dX7_doesStrike_22 : decode cX7_doesStrike 22 = .ok (.lconst 1, 1) := by decide +kernel
theorem dX7_doesStrike_23 : decode cX7_doesStrike 23 = .ok (.lcmp, 1) := by decide +kernel
theorem dX7_doesStrike_24 : decode cX7_doesStrike 24 = .ok (.ifCond .ne 21, 3) := by decide +kernel
theorem dX7_doesStrike_27 : decode cX7_doesStrike 27 = .ok (.aload_n 0, 1) := by decide +kernel
theorem dX7_doesStrike_28 : decode cX7_doesStrike 28 = .ok (.getfield 9, 3) := by decide +kernel
theorem dX7_doesStrike_31 : decode cX7_doesStrike 31 = .ok (.sipush 210, 3) := by decide +kernel
theorem dX7_doesStrike_34 : decode cX7_doesStrike 34 = .ok (.iload_n 2, 1) := by decide +kernel
theorem dX7_doesStrike_35 : decode cX7_doesStrike 35 = .ok (.iadd, 1) := by decide +kernel
theorem dX7_doesStrike_36 : decode cX7_doesStrike 36 = .ok (.iaload, 1) := by decide +kernel
theorem dX7_doesStrike_37 : decode cX7_doesStrike 37 = .ok (.iconst 1, 1) := by decide +kernel
theorem dX7_doesStrike_38 : decode cX7_doesStrike 38 = .ok (.if_icmp .ne 7, 3) := by decide +kernel
theorem dX7_doesStrike_41 : decode cX7_doesStrike 41 = .ok (.iconst 1, 1) := by decide +kernel
theorem dX7_doesStrike_42 : decode cX7_doesStrike 42 = .ok (.goto 4, 3) := by decide +kernel
theorem dX7_doesStrike_45 : decode cX7_doesStrike 45 = .ok (.iconst 0, 1) := by decide +kernel
theorem dX7_doesStrike_46 : decode cX7_doesStrike 46 = .ok (.istore_n 1, 1) := by decide +kernel
theorem dX7_doesStrike_47 : decode cX7_doesStrike 47 = .ok (.iinc 2 1, 3) := by decide +kernel
theorem dX7_doesStrike_50 : decode cX7_doesStrike 50 = .ok (.goto (-46), 3) := by decide +kernel
theorem dX7_doesStrike_53 : decode cX7_doesStrike 53 = .ok (.iload_n 1, 1) := by decide +kernel
theorem dX7_doesStrike_54 : decode cX7_doesStrike 54 = .ok (.ireturn, 1) := by decide +kernel
theorem dX7_goesNow_0 : decode cX7_goesNow 0 = .ok (.aload_n 0, 1) := by decide +kernel
theorem dX7_goesNow_1 : decode cX7_goesNow 1 = .ok (.iload_n 1, 1) := by decide +kernel
theorem dX7_goesNow_2 : decode cX7_goesNow 2 = .ok (.iload_n 2, 1) := by decide +kernel
theorem dX7_goesNow_3 : decode cX7_goesNow 3 = .ok (.invokevirtual 202, 3) := by decide +kernel
theorem dX7_goesNow_6 : decode cX7_goesNow 6 = .ok (.aload_n 0, 1) := by decide +kernel
theorem dX7_goesNow_7 : decode cX7_goesNow 7 = .ok (.iload_n 1, 1) := by decide +kernel
theorem dX7_goesNow_8 : decode cX7_goesNow 8 = .ok (.invokevirtual 205, 3) := by decide +kernel
theorem dX7_goesNow_11 : decode cX7_goesNow 11 = .ok (.return_, 1) := by decide +kernel
theorem dX7_goes_0 : decode cX7_goes 0 = .ok (.aload_n 0, 1) := by decide +kernel
theorem dX7_goes_1 : decode cX7_goes 1 = .ok (.iload_n 1, 1) := by decide +kernel
theorem dX7_goes_2 : decode cX7_goes 2 = .ok (.invokevirtual 138, 3) := by decide +kernel
theorem dX7_goes_5 : decode cX7_goes 5 = .ok (.ifCond .eq 13, 3) := by decide +kernel
theorem dX7_goes_8 : decode cX7_goes 8 = .ok (.iload_n 2, 1) := by decide +kernel
theorem dX7_goes_9 : decode cX7_goes 9 = .ok (.iconst 0, 1) := by decide +kernel
theorem dX7_goes_10 : decode cX7_goes 10 = .ok (.bipush 7, 2) := by decide +kernel
theorem dX7_goes_12 : decode cX7_goes 12 = .ok (.invokestatic 41, 3) := by decide +kernel
theorem dX7_goes_15 : decode cX7_goes 15 = .ok (.ifCond .ne 7, 3) := by decide +kernel
theorem dX7_goes_18 : decode cX7_goes 18 = .ok (.sipush (-10001), 3) := by decide +kernel
theorem dX7_goes_21 : decode cX7_goes 21 = .ok (.ireturn, 1) := by decide +kernel
theorem dX7_goes_22 : decode cX7_goes 22 = .ok (.aload_n 0, 1) := by decide +kernel
theorem dX7_goes_23 : decode cX7_goes 23 = .ok (.iload_n 1, 1) := by decide +kernel
theorem dX7_goes_24 : decode cX7_goes 24 = .ok (.invokevirtual 183, 3) := by decide +kernel
theorem dX7_goes_27 : decode cX7_goes 27 = .ok (.ifCond .ne 7, 3) := by decide +kernel
theorem dX7_goes_30 : decode cX7_goes 30 = .ok (.sipush (-10002), 3) := by decide +kernel
theorem dX7_goes_33 : decode cX7_goes 33 = .ok (.ireturn, 1) := by decide +kernel
theorem dX7_goes_34 : decode cX7_goes 34 = .ok (.aload_n 0, 1) := by decide +kernel
theorem dX7_goes_35 : decode cX7_goes 35 = .ok (.iload_n 1, 1) := by decide +kernel
theorem dX7_goes_36 : decode cX7_goes 36 = .ok (.iconst (-1), 1) := by decide +kernel
theorem dX7_goes_37 : decode cX7_goes 37 = .ok (.invokevirtual 208, 3) := by decide +kernel
theorem dX7_goes_40 : decode cX7_goes 40 = .ok (.iload_n 2, 1) := by decide +kernel
theorem dX7_goes_41 : decode cX7_goes 41 = .ok (.tableswitch 78 0 6 #[43, 48, 53, 58, 63, 68, 73], 43) := by decide +kernel
theorem dX7_goes_84 : decode cX7_goes 84 = .ok (.aload_n 0, 1) := by decide +kernel
theorem dX7_goes_85 : decode cX7_goes 85 = .ok (.getfield 152, 3) := by decide +kernel
theorem dX7_goes_88 : decode cX7_goes 88 = .ok (.ireturn, 1) := by decide +kernel
theorem dX7_goes_89 : decode cX7_goes 89 = .ok (.aload_n 0, 1) := by decide +kernel
theorem dX7_goes_90 : decode cX7_goes 90 = .ok (.getfield 158, 3) := by decide +kernel
theorem dX7_goes_93 : decode cX7_goes 93 = .ok (.ireturn, 1) := by decide +kernel
theorem dX7_goes_94 : decode cX7_goes 94 = .ok (.aload_n 0, 1) := by decide +kernel
theorem dX7_goes_95 : decode cX7_goes 95 = .ok (.getfield 165, 3) := by decide +kernel
theorem dX7_goes_98 : decode cX7_goes 98 = .ok (.ireturn, 1) := by decide +kernel
theorem dX7_goes_99 : decode cX7_goes 99 = .ok (.aload_n 0, 1) := by decide +kernel
theorem dX7_goes_100 : decode cX7_goes 100 = .ok (.getfield 168, 3) := by decide +kernel
theorem dX7_goes_103 : decode cX7_goes 103 = .ok (.ireturn, 1) := by decide +kernel
theorem dX7_goes_104 : decode cX7_goes 104 = .ok (.aload_n 0, 1) := by decide +kernel
theorem dX7_goes_105 : decode cX7_goes 105 = .ok (.getfield 177, 3) := by decide +kernel
theorem dX7_goes_108 : decode cX7_goes 108 = .ok (.ireturn, 1) := by decide +kernel
theorem dX7_goes_109 : decode cX7_goes 109 = .ok (.aload_n 0, 1) := by decide +kernel
theorem dX7_goes_110 : decode cX7_goes 110 = .ok (.getfield 180, 3) := by decide +kernel
theorem dX7_goes_113 : decode cX7_goes 113 = .ok (.ireturn, 1) := by decide +kernel
theorem dX7_goes_114 : decode cX7_goes 114 = .ok (.aload_n 0, 1) := by decide +kernel
theorem dX7_goes_115 : decode cX7_goes 115 = .ok (.getfield 190, 3) := by decide +kernel
theorem dX7_goes_118 : decode cX7_goes 118 = .ok (.ireturn, 1) := by decide +kernel
theorem dX7_goes_119 : decode cX7_goes 119 = .ok (.aload_n 0, 1) := by decide +kernel
theorem dX7_goes_120 : decode cX7_goes 120 = .ok (.getfield 193, 3) := by decide +kernel
theorem dX7_goes_123 : decode cX7_goes 123 = .ok (.ireturn, 1) := by decide +kernel
theorem dX7_lies_0 : decode cX7_lies 0 = .ok (.aload_n 0, 1) := by decide +kernel
theorem dX7_lies_1 : decode cX7_lies 1 = .ok (.iload_n 1, 1) := by decide +kernel
theorem dX7_lies_2 : decode cX7_lies 2 = .ok (.invokevirtual 138, 3) := by decide +kernel
theorem dX7_lies_5 : decode cX7_lies 5 = .ok (.ifCond .eq 11, 3) := by decide +kernel
theorem dX7_lies_8 : decode cX7_lies 8 = .ok (.aload_n 0, 1) := by decide +kernel
theorem dX7_lies_9 : decode cX7_lies 9 = .ok (.iload_n 1, 1) := by decide +kernel
theorem dX7_lies_10 : decode cX7_lies 10 = .ok (.invokevirtual 183, 3) := by decide +kernel
theorem dX7_lies_13 : decode cX7_lies 13 = .ok (.ifCond .ne 7, 3) := by decide +kernel
theorem dX7_lies_16 : decode cX7_lies 16 = .ok (.ldc2_w 211, 3) := by decide +kernel
theorem dX7_lies_19 : decode cX7_lies 19 = .ok (.lreturn, 1) := by decide +kernel
theorem dX7_lies_20 : decode cX7_lies 20 = .ok (.aload_n 0, 1) := by decide +kernel
theorem dX7_lies_21 : decode cX7_lies 21 = .ok (.iload_n 1, 1) := by decide +kernel
theorem dX7_lies_22 : decode cX7_lies 22 = .ok (.iconst (-1), 1) := by decide +kernel
theorem dX7_lies_23 : decode cX7_lies 23 = .ok (.invokevirtual 208, 3) := by decide +kernel
theorem dX7_lies_26 : decode cX7_lies 26 = .ok (.aload_n 0, 1) := by decide +kernel
theorem dX7_lies_27 : decode cX7_lies 27 = .ok (.getfield 186, 3) := by decide +kernel
theorem dX7_lies_30 : decode cX7_lies 30 = .ok (.lreturn, 1) := by decide +kernel
theorem dX7_fell_0 : decode cX7_fell 0 = .ok (.aload_n 0, 1) := by decide +kernel
theorem dX7_fell_1 : decode cX7_fell 1 = .ok (.iload_n 1, 1) := by decide +kernel
theorem dX7_fell_2 : decode cX7_fell 2 = .ok (.invokevirtual 138, 3) := by decide +kernel
theorem dX7_fell_5 : decode cX7_fell 5 = .ok (.ifCond .ne 5, 3) := by decide +kernel
theorem dX7_fell_8 : decode cX7_fell 8 = .ok (.iconst (-1), 1) := by decide +kernel
theorem dX7_fell_9 : decode cX7_fell 9 = .ok (.ireturn, 1) := by decide +kernel
theorem dX7_fell_10 : decode cX7_fell 10 = .ok (.aload_n 0, 1) := by decide +kernel
theorem dX7_fell_11 : decode cX7_fell 11 = .ok (.iload_n 1, 1) := by decide +kernel
theorem dX7_fell_12 : decode cX7_fell 12 = .ok (.invokevirtual 183, 3) := by decide +kernel
theorem dX7_fell_15 : decode cX7_fell 15 = .ok (.ifCond .ne 6, 3) := by decide +kernel
theorem dX7_fell_18 : decode cX7_fell 18 = .ok (.bipush (-3), 2) := by decide +kernel
theorem dX7_fell_20 : decode cX7_fell 20 = .ok (.ireturn, 1) := by decide +kernel
theorem dX7_fell_21 : decode cX7_fell 21 = .ok (.aload_n 0, 1) := by decide +kernel
theorem dX7_fell_22 : decode cX7_fell 22 = .ok (.iload_n 1, 1) := by decide +kernel
theorem dX7_fell_23 : decode cX7_fell 23 = .ok (.iconst (-1), 1) := by decide +kernel
theorem dX7_fell_24 : decode cX7_fell 24 = .ok (.invokevirtual 208, 3) := by decide +kernel
theorem dX7_fell_27 : decode cX7_fell 27 = .ok (.aload_n 0, 1) := by decide +kernel
theorem dX7_fell_28 : decode cX7_fell 28 = .ok (.getfield 9, 3) := by decide +kernel
theorem dX7_fell_31 : decode cX7_fell 31 = .ok (.sipush 152, 3) := by decide +kernel
theorem dX7_fell_34 : decode cX7_fell 34 = .ok (.iload_n 1, 1) := by decide +kernel
theorem dX7_fell_35 : decode cX7_fell 35 = .ok (.iadd, 1) := by decide +kernel
theorem dX7_fell_36 : decode cX7_fell 36 = .ok (.aload_n 0, 1) := by decide +kernel
theorem dX7_fell_37 : decode cX7_fell 37 = .ok (.getfield 177, 3) := by decide +kernel
theorem dX7_fell_40 : decode cX7_fell 40 = .ok (.iconst 2, 1) := by decide +kernel
theorem dX7_fell_41 : decode cX7_fell 41 = .ok (.if_icmp .ne 7, 3) := by decide +kernel
theorem dX7_fell_44 : decode cX7_fell 44 = .ok (.iconst 1, 1) := by decide +kernel
theorem dX7_fell_45 : decode cX7_fell 45 = .ok (.goto 4, 3) := by decide +kernel
theorem dX7_fell_48 : decode cX7_fell 48 = .ok (.iconst 0, 1) := by decide +kernel
theorem dX7_fell_49 : decode cX7_fell 49 = .ok (.iastore, 1) := by decide +kernel
theorem dX7_fell_50 : decode cX7_fell 50 = .ok (.aload_n 0, 1) := by decide +kernel
theorem dX7_fell_51 : decode cX7_fell 51 = .ok (.getfield 177, 3) := by decide +kernel
theorem dX7_fell_54 : decode cX7_fell 54 = .ok (.ireturn, 1) := by decide +kernel
theorem dX7_keepsPlans_0 : decode cX7_keepsPlans 0 = .ok (.iconst 0, 1) := by decide +kernel
theorem dX7_keepsPlans_1 : decode cX7_keepsPlans 1 = .ok (.istore_n 1, 1) := by decide +kernel
theorem dX7_keepsPlans_2 : decode cX7_keepsPlans 2 = .ok (.iload_n 1, 1) := by decide +kernel
theorem dX7_keepsPlans_3 : decode cX7_keepsPlans 3 = .ok (.bipush 36, 2) := by decide +kernel
theorem dX7_keepsPlans_5 : decode cX7_keepsPlans 5 = .ok (.if_icmp .ge 25, 3) := by decide +kernel
theorem dX7_keepsPlans_8 : decode cX7_keepsPlans 8 = .ok (.aload_n 0, 1) := by decide +kernel
theorem dX7_keepsPlans_9 : decode cX7_keepsPlans 9 = .ok (.getfield 25, 3) := by decide +kernel
theorem dX7_keepsPlans_12 : decode cX7_keepsPlans 12 = .ok (.iload_n 1, 1) := by decide +kernel
theorem dX7_keepsPlans_13 : decode cX7_keepsPlans 13 = .ok (.aload_n 0, 1) := by decide +kernel
theorem dX7_keepsPlans_14 : decode cX7_keepsPlans 14 = .ok (.getfield 9, 3) := by decide +kernel
theorem dX7_keepsPlans_17 : decode cX7_keepsPlans 17 = .ok (.sipush 158, 3) := by decide +kernel
theorem dX7_keepsPlans_20 : decode cX7_keepsPlans 20 = .ok (.iload_n 1, 1) := by decide +kernel
theorem dX7_keepsPlans_21 : decode cX7_keepsPlans 21 = .ok (.iadd, 1) := by decide +kernel
theorem dX7_keepsPlans_22 : decode cX7_keepsPlans 22 = .ok (.iaload, 1) := by decide +kernel
theorem dX7_keepsPlans_23 : decode cX7_keepsPlans 23 = .ok (.iastore, 1) := by decide +kernel
theorem dX7_keepsPlans_24 : decode cX7_keepsPlans 24 = .ok (.iinc 1 1, 3) := by decide +kernel
theorem dX7_keepsPlans_27 : decode cX7_keepsPlans 27 = .ok (.goto (-25), 3) := by decide +kernel
theorem dX7_keepsPlans_30 : decode cX7_keepsPlans 30 = .ok (.return_, 1) := by decide +kernel
theorem dX7_putsPlansBack_0 : decode cX7_putsPlansBack 0 = .ok (.iconst 0, 1) := by decide +kernel
theorem dX7_putsPlansBack_1 : decode cX7_putsPlansBack 1 = .ok (.istore_n 1, 1) := by decide +kernel
theorem dX7_putsPlansBack_2 : decode cX7_putsPlansBack 2 = .ok (.iload_n 1, 1) := by decide +kernel
theorem dX7_putsPlansBack_3 : decode cX7_putsPlansBack 3 = .ok (.bipush 36, 2) := by decide +kernel
theorem dX7_putsPlansBack_5 : decode cX7_putsPlansBack 5 = .ok (.if_icmp .ge 25, 3) := by decide +kernel
theorem dX7_putsPlansBack_8 : decode cX7_putsPlansBack 8 = .ok (.aload_n 0, 1) := by decide +kernel
theorem dX7_putsPlansBack_9 : decode cX7_putsPlansBack 9 = .ok (.getfield 9, 3) := by decide +kernel
theorem dX7_putsPlansBack_12 : decode cX7_putsPlansBack 12 = .ok (.sipush 158, 3) := by decide +kernel
theorem dX7_putsPlansBack_15 : decode cX7_putsPlansBack 15 = .ok (.iload_n 1, 1) := by decide +kernel
theorem dX7_putsPlansBack_16 : decode cX7_putsPlansBack 16 = .ok (.iadd, 1) := by decide +kernel
theorem dX7_putsPlansBack_17 : decode cX7_putsPlansBack 17 = .ok (.aload_n 0, 1) := by decide +kernel
theorem dX7_putsPlansBack_18 : decode cX7_putsPlansBack 18 = .ok (.getfield 25, 3) := by decide +kernel
theorem dX7_putsPlansBack_21 : decode cX7_putsPlansBack 21 = .ok (.iload_n 1, 1) := by decide +kernel
theorem dX7_putsPlansBack_22 : decode cX7_putsPlansBack 22 = .ok (.iaload, 1) := by decide +kernel
theorem dX7_putsPlansBack_23 : decode cX7_putsPlansBack 23 = .ok (.iastore, 1) := by decide +kernel
theorem dX7_putsPlansBack_24 : decode cX7_putsPlansBack 24 = .ok (.iinc 1 1, 3) := by decide +kernel
theorem dX7_putsPlansBack_27 : decode cX7_putsPlansBack 27 = .ok (.goto (-25), 3) := by decide +kernel
theorem dX7_putsPlansBack_30 : decode cX7_putsPlansBack 30 = .ok (.return_, 1) := by decide +kernel
theorem dX7_plans_0 : decode cX7_plans 0 = .ok (.sipush 158, 3) := by decide +kernel
theorem dX7_plans_3 : decode cX7_plans 3 = .ok (.bipush 6, 2) := by decide +kernel
theorem dX7_plans_5 : decode cX7_plans 5 = .ok (.iload_n 1, 1) := by decide +kernel
theorem dX7_plans_6 : decode cX7_plans 6 = .ok (.imul, 1) := by decide +kernel
theorem dX7_plans_7 : decode cX7_plans 7 = .ok (.iadd, 1) := by decide +kernel
theorem dX7_plans_8 : decode cX7_plans 8 = .ok (.istore 6, 2) := by decide +kernel
theorem dX7_plans_10 : decode cX7_plans 10 = .ok (.aload_n 0, 1) := by decide +kernel
theorem dX7_plans_11 : decode cX7_plans 11 = .ok (.getfield 9, 3) := by decide +kernel
theorem dX7_plans_14 : decode cX7_plans 14 = .ok (.iload 6, 2) := by decide +kernel
theorem dX7_plans_16 : decode cX7_plans 16 = .ok (.iload_n 2, 1) := by decide +kernel
theorem dX7_plans_17 : decode cX7_plans 17 = .ok (.iastore, 1) := by decide +kernel
theorem dX7_plans_18 : decode cX7_plans 18 = .ok (.aload_n 0, 1) := by decide +kernel
theorem dX7_plans_19 : decode cX7_plans 19 = .ok (.getfield 9, 3) := by decide +kernel
theorem dX7_plans_22 : decode cX7_plans 22 = .ok (.iload 6, 2) := by decide +kernel
theorem dX7_plans_24 : decode cX7_plans 24 = .ok (.iconst 1, 1) := by decide +kernel
theorem dX7_plans_25 : decode cX7_plans 25 = .ok (.iadd, 1) := by decide +kernel
theorem dX7_plans_26 : decode cX7_plans 26 = .ok (.iload_n 3, 1) := by decide +kernel
theorem dX7_plans_27 : decode cX7_plans 27 = .ok (.iastore, 1) := by decide +kernel
theorem dX7_plans_28 : decode cX7_plans 28 = .ok (.aload_n 0, 1) := by decide +kernel
theorem dX7_plans_29 : decode cX7_plans 29 = .ok (.getfield 9, 3) := by decide +kernel
theorem dX7_plans_32 : decode cX7_plans 32 = .ok (.iload 6, 2) := by decide +kernel
theorem dX7_plans_34 : decode cX7_plans 34 = .ok (.iconst 2, 1) := by decide +kernel
theorem dX7_plans_35 : decode cX7_plans 35 = .ok (.iadd, 1) := by decide +kernel
theorem dX7_plans_36 : decode cX7_plans 36 = .ok (.iload 4, 2) := by decide +kernel
theorem dX7_plans_38 : decode cX7_plans 38 = .ok (.iastore, 1) := by decide +kernel
theorem dX7_plans_39 : decode cX7_plans 39 = .ok (.aload_n 0, 1) := by decide +kernel
theorem dX7_plans_40 : decode cX7_plans 40 = .ok (.getfield 9, 3) := by decide +kernel
theorem dX7_plans_43 : decode cX7_plans 43 = .ok (.iload 6, 2) := by decide +kernel
theorem dX7_plans_45 : decode cX7_plans 45 = .ok (.iconst 3, 1) := by decide +kernel
theorem dX7_plans_46 : decode cX7_plans 46 = .ok (.iadd, 1) := by decide +kernel
theorem dX7_plans_47 : decode cX7_plans 47 = .ok (.iload 5, 2) := by decide +kernel
theorem dX7_plans_49 : decode cX7_plans 49 = .ok (.iastore, 1) := by decide +kernel
theorem dX7_plans_50 : decode cX7_plans 50 = .ok (.aload_n 0, 1) := by decide +kernel
theorem dX7_plans_51 : decode cX7_plans 51 = .ok (.getfield 9, 3) := by decide +kernel
theorem dX7_plans_54 : decode cX7_plans 54 = .ok (.iload 6, 2) := by decide +kernel
theorem dX7_plans_56 : decode cX7_plans 56 = .ok (.iconst 4, 1) := by decide +kernel
theorem dX7_plans_57 : decode cX7_plans 57 = .ok (.iadd, 1) := by decide +kernel
theorem dX7_plans_58 : decode cX7_plans 58 = .ok (.iconst 0, 1) := by decide +kernel
theorem dX7_plans_59 : decode cX7_plans 59 = .ok (.iastore, 1) := by decide +kernel
theorem dX7_plans_60 : decode cX7_plans 60 = .ok (.aload_n 0, 1) := by decide +kernel
theorem dX7_plans_61 : decode cX7_plans 61 = .ok (.getfield 9, 3) := by decide +kernel
theorem dX7_plans_64 : decode cX7_plans 64 = .ok (.iload 6, 2) := by decide +kernel
theorem dX7_plans_66 : decode cX7_plans 66 = .ok (.iconst 5, 1) := by decide +kernel
theorem dX7_plans_67 : decode cX7_plans 67 = .ok (.iadd, 1) := by decide +kernel
theorem dX7_plans_68 : decode cX7_plans 68 = .ok (.iconst 0, 1) := by decide +kernel
theorem dX7_plans_69 : decode cX7_plans 69 = .ok (.iastore, 1) := by decide +kernel
theorem dX7_plans_70 : decode cX7_plans 70 = .ok (.return_, 1) := by decide +kernel
theorem dX7_wide_0 : decode cX7_wide 0 = .ok (.aload_n 0, 1) := by decide +kernel
theorem dX7_wide_1 : decode cX7_wide 1 = .ok (.iload_n 1, 1) := by decide +kernel
theorem dX7_wide_2 : decode cX7_wide 2 = .ok (.invokevirtual 138, 3) := by decide +kernel
theorem dX7_wide_5 : decode cX7_wide 5 = .ok (.ifCond .ne 5, 3) := by decide +kernel
theorem dX7_wide_8 : decode cX7_wide 8 = .ok (.iconst (-1), 1) := by decide +kernel
theorem dX7_wide_9 : decode cX7_wide 9 = .ok (.ireturn, 1) := by decide +kernel
theorem dX7_wide_10 : decode cX7_wide 10 = .ok (.iload_n 2, 1) := by decide +kernel
theorem dX7_wide_11 : decode cX7_wide 11 = .ok (.iconst 0, 1) := by decide +kernel
theorem dX7_wide_12 : decode cX7_wide 12 = .ok (.bipush 9, 2) := by decide +kernel
theorem dX7_wide_14 : decode cX7_wide 14 = .ok (.invokestatic 41, 3) := by decide +kernel
theorem dX7_wide_17 : decode cX7_wide 17 = .ok (.ifCond .ne 6, 3) := by decide +kernel
theorem dX7_wide_20 : decode cX7_wide 20 = .ok (.bipush (-2), 2) := by decide +kernel
theorem dX7_wide_22 : decode cX7_wide 22 = .ok (.ireturn, 1) := by decide +kernel
theorem dX7_wide_23 : decode cX7_wide 23 = .ok (.aload_n 0, 1) := by decide +kernel
theorem dX7_wide_24 : decode cX7_wide 24 = .ok (.iload_n 1, 1) := by decide +kernel
theorem dX7_wide_25 : decode cX7_wide 25 = .ok (.invokevirtual 183, 3) := by decide +kernel
theorem dX7_wide_28 : decode cX7_wide 28 = .ok (.ifCond .ne 6, 3) := by decide +kernel
theorem dX7_wide_31 : decode cX7_wide 31 = .ok (.bipush (-3), 2) := by decide +kernel
theorem dX7_wide_33 : decode cX7_wide 33 = .ok (.ireturn, 1) := by decide +kernel
theorem dX7_wide_34 : decode cX7_wide 34 = .ok (.aload_n 0, 1) := by decide +kernel
theorem dX7_wide_35 : decode cX7_wide 35 = .ok (.invokevirtual 213, 3) := by decide +kernel
theorem dX7_wide_38 : decode cX7_wide 38 = .ok (.iconst 0, 1) := by decide +kernel
theorem dX7_wide_39 : decode cX7_wide 39 = .ok (.istore_n 3, 1) := by decide +kernel
theorem dX7_wide_40 : decode cX7_wide 40 = .ok (.iconst 0, 1) := by decide +kernel
theorem dX7_wide_41 : decode cX7_wide 41 = .ok (.istore 4, 2) := by decide +kernel
theorem dX7_wide_43 : decode cX7_wide 43 = .ok (.iload 4, 2) := by decide +kernel
theorem dX7_wide_45 : decode cX7_wide 45 = .ok (.sipush 800, 3) := by decide +kernel
theorem dX7_wide_48 : decode cX7_wide 48 = .ok (.iload_n 2, 1) := by decide +kernel
theorem dX7_wide_49 : decode cX7_wide 49 = .ok (.iconst 1, 1) := by decide +kernel
theorem dX7_wide_50 : decode cX7_wide 50 = .ok (.iadd, 1) := by decide +kernel
theorem dX7_wide_51 : decode cX7_wide 51 = .ok (.imul, 1) := by decide +kernel
theorem dX7_wide_52 : decode cX7_wide 52 = .ok (.if_icmp .ge 69, 3) := by decide +kernel
theorem dX7_wide_55 : decode cX7_wide 55 = .ok (.aload_n 0, 1) := by decide +kernel
theorem dX7_wide_56 : decode cX7_wide 56 = .ok (.iload_n 1, 1) := by decide +kernel
theorem dX7_wide_57 : decode cX7_wide 57 = .ok (.iload 4, 2) := by decide +kernel
theorem dX7_wide_59 : decode cX7_wide 59 = .ok (.bipush 100, 2) := by decide +kernel
theorem dX7_wide_61 : decode cX7_wide 61 = .ok (.idiv, 1) := by decide +kernel
theorem dX7_wide_62 : decode cX7_wide 62 = .ok (.bipush 8, 2) := by decide +kernel
theorem dX7_wide_64 : decode cX7_wide 64 = .ok (.irem, 1) := by decide +kernel
theorem dX7_wide_65 : decode cX7_wide 65 = .ok (.iload 4, 2) := by decide +kernel
theorem dX7_wide_67 : decode cX7_wide 67 = .ok (.bipush 10, 2) := by decide +kernel
theorem dX7_wide_69 : decode cX7_wide 69 = .ok (.idiv, 1) := by decide +kernel
theorem dX7_wide_70 : decode cX7_wide 70 = .ok (.bipush 10, 2) := by decide +kernel
theorem dX7_wide_72 : decode cX7_wide 72 = .ok (.irem, 1) := by decide +kernel
theorem dX7_wide_73 : decode cX7_wide 73 = .ok (.iload 4, 2) := by decide +kernel
theorem dX7_wide_75 : decode cX7_wide 75 = .ok (.bipush 10, 2) := by decide +kernel
theorem dX7_wide_77 : decode cX7_wide 77 = .ok (.irem, 1) := by decide +kernel
theorem dX7_wide_78 : decode cX7_wide 78 = .ok (.iload 4, 2) := by decide +kernel
theorem dX7_wide_80 : decode cX7_wide 80 = .ok (.sipush 800, 3) := by decide +kernel
theorem dX7_wide_83 : decode cX7_wide 83 = .ok (.idiv, 1) := by decide +kernel
theorem dX7_wide_84 : decode cX7_wide 84 = .ok (.invokevirtual 216, 3) := by decide +kernel
theorem dX7_wide_87 : decode cX7_wide 87 = .ok (.aload_n 0, 1) := by decide +kernel
theorem dX7_wide_88 : decode cX7_wide 88 = .ok (.iload_n 1, 1) := by decide +kernel
theorem dX7_wide_89 : decode cX7_wide 89 = .ok (.iconst (-1), 1) := by decide +kernel
theorem dX7_wide_90 : decode cX7_wide 90 = .ok (.invokevirtual 202, 3) := by decide +kernel
theorem dX7_wide_93 : decode cX7_wide 93 = .ok (.iload_n 3, 1) := by decide +kernel
theorem dX7_wide_94 : decode cX7_wide 94 = .ok (.aload_n 0, 1) := by decide +kernel
theorem dX7_wide_95 : decode cX7_wide 95 = .ok (.getfield 180, 3) := by decide +kernel
theorem dX7_wide_98 : decode cX7_wide 98 = .ok (.bipush (-5), 2) := by decide +kernel
theorem dX7_wide_100 : decode cX7_wide 100 = .ok (.if_icmp .ne 7, 3) := by decide +kernel
theorem dX7_wide_103 : decode cX7_wide 103 = .ok (.iconst 0, 1) := by decide +kernel
theorem dX7_wide_104 : decode cX7_wide 104 = .ok (.goto 9, 3) := by decide +kernel
theorem dX7_wide_107 : decode cX7_wide 107 = .ok (.iconst 1, 1) := by decide +kernel
theorem dX7_wide_108 : decode cX7_wide 108 = .ok (.aload_n 0, 1) := by decide +kernel
theorem dX7_wide_109 : decode cX7_wide 109 = .ok (.getfield 180, 3) := by decide +kernel
theorem dX7_wide_112 : decode cX7_wide 112 = .ok (.ishl, 1) := by decide +kernel
theorem dX7_wide_113 : decode cX7_wide 113 = .ok (.ior, 1) := by decide +kernel
theorem dX7_wide_114 : decode cX7_wide 114 = .ok (.istore_n 3, 1) := by decide +kernel
theorem dX7_wide_115 : decode cX7_wide 115 = .ok (.iinc 4 1, 3) := by decide +kernel
theorem dX7_wide_118 : decode cX7_wide 118 = .ok (.goto (-75), 3) := by decide +kernel
theorem dX7_wide_121 : decode cX7_wide 121 = .ok (.aload_n 0, 1) := by decide +kernel
theorem dX7_wide_122 : decode cX7_wide 122 = .ok (.invokevirtual 220, 3) := by decide +kernel
theorem dX7_wide_125 : decode cX7_wide 125 = .ok (.iload_n 3, 1) := by decide +kernel
theorem dX7_wide_126 : decode cX7_wide 126 = .ok (.ireturn, 1) := by decide +kernel
theorem dX7_least_0 : decode cX7_least 0 = .ok (.aload_n 0, 1) := by decide +kernel
theorem dX7_least_1 : decode cX7_least 1 = .ok (.iload_n 1, 1) := by decide +kernel
theorem dX7_least_2 : decode cX7_least 2 = .ok (.invokevirtual 138, 3) := by decide +kernel
theorem dX7_least_5 : decode cX7_least 5 = .ok (.ifCond .eq 10, 3) := by decide +kernel
theorem dX7_least_8 : decode cX7_least 8 = .ok (.iload_n 2, 1) := by decide +kernel
theorem dX7_least_9 : decode cX7_least 9 = .ok (.invokestatic 142, 3) := by decide +kernel
theorem dX7_least_12 : decode cX7_least 12 = .ok (.ifCond .ne 5, 3) := by decide +kernel
theorem dX7_least_15 : decode cX7_least 15 = .ok (.iconst (-1), 1) := by decide +kernel
theorem dX7_least_16 : decode cX7_least 16 = .ok (.ireturn, 1) := by decide +kernel
theorem dX7_least_17 : decode cX7_least 17 = .ok (.aload_n 0, 1) := by decide +kernel
theorem dX7_least_18 : decode cX7_least 18 = .ok (.iload_n 1, 1) := by decide +kernel
theorem dX7_least_19 : decode cX7_least 19 = .ok (.invokevirtual 183, 3) := by decide +kernel
theorem dX7_least_22 : decode cX7_least 22 = .ok (.ifCond .ne 6, 3) := by decide +kernel
theorem dX7_least_25 : decode cX7_least 25 = .ok (.bipush (-3), 2) := by decide +kernel
theorem dX7_least_27 : decode cX7_least 27 = .ok (.ireturn, 1) := by decide +kernel
theorem dX7_least_28 : decode cX7_least 28 = .ok (.aload_n 0, 1) := by decide +kernel
theorem dX7_least_29 : decode cX7_least 29 = .ok (.invokevirtual 213, 3) := by decide +kernel
theorem dX7_least_32 : decode cX7_least 32 = .ok (.bipush (-5), 2) := by decide +kernel
theorem dX7_least_34 : decode cX7_least 34 = .ok (.istore_n 3, 1) := by decide +kernel
theorem dX7_least_35 : decode cX7_least 35 = .ok (.iconst 0, 1) := by decide +kernel
theorem dX7_least_36 : decode cX7_least 36 = .ok (.istore 4, 2) := by decide +kernel
theorem dX7_least_38 : decode cX7_least 38 = .ok (.iload 4, 2) := by decide +kernel
theorem dX7_least_40 : decode cX7_least 40 = .ok (.sipush 1000, 3) := by decide +kernel
theorem dX7_least_43 : decode cX7_least 43 = .ok (.if_icmp .ge 59, 3) := by decide +kernel
theorem dX7_least_46 : decode cX7_least 46 = .ok (.iload_n 3, 1) := by decide +kernel
theorem dX7_least_47 : decode cX7_least 47 = .ok (.bipush (-5), 2) := by decide +kernel
theorem dX7_least_49 : decode cX7_least 49 = .ok (.if_icmp .ne 53, 3) := by decide +kernel
theorem dX7_least_52 : decode cX7_least 52 = .ok (.aload_n 0, 1) := by decide +kernel
theorem dX7_least_53 : decode cX7_least 53 = .ok (.iload_n 1, 1) := by decide +kernel
theorem dX7_least_54 : decode cX7_least 54 = .ok (.iload_n 2, 1) := by decide +kernel
theorem dX7_least_55 : decode cX7_least 55 = .ok (.iload 4, 2) := by decide +kernel
theorem dX7_least_57 : decode cX7_least 57 = .ok (.bipush 10, 2) := by decide +kernel
theorem dX7_least_59 : decode cX7_least 59 = .ok (.idiv, 1) := by decide +kernel
theorem dX7_least_60 : decode cX7_least 60 = .ok (.bipush 10, 2) := by decide +kernel
theorem dX7_least_62 : decode cX7_least 62 = .ok (.irem, 1) := by decide +kernel
theorem dX7_least_63 : decode cX7_least 63 = .ok (.iload 4, 2) := by decide +kernel
theorem dX7_least_65 : decode cX7_least 65 = .ok (.bipush 10, 2) := by decide +kernel
theorem dX7_least_67 : decode cX7_least 67 = .ok (.irem, 1) := by decide +kernel
theorem dX7_least_68 : decode cX7_least 68 = .ok (.iload 4, 2) := by decide +kernel
theorem dX7_least_70 : decode cX7_least 70 = .ok (.bipush 100, 2) := by decide +kernel
theorem dX7_least_72 : decode cX7_least 72 = .ok (.idiv, 1) := by decide +kernel
theorem dX7_least_73 : decode cX7_least 73 = .ok (.invokevirtual 216, 3) := by decide +kernel
theorem dX7_least_76 : decode cX7_least 76 = .ok (.aload_n 0, 1) := by decide +kernel
theorem dX7_least_77 : decode cX7_least 77 = .ok (.iload_n 1, 1) := by decide +kernel
theorem dX7_least_78 : decode cX7_least 78 = .ok (.iconst (-1), 1) := by decide +kernel
theorem dX7_least_79 : decode cX7_least 79 = .ok (.invokevirtual 202, 3) := by decide +kernel
theorem dX7_least_82 : decode cX7_least 82 = .ok (.aload_n 0, 1) := by decide +kernel
theorem dX7_least_83 : decode cX7_least 83 = .ok (.getfield 177, 3) := by decide +kernel
theorem dX7_least_86 : decode cX7_least 86 = .ok (.ifCond .ne 8, 3) := by decide +kernel
theorem dX7_least_89 : decode cX7_least 89 = .ok (.iload 4, 2) := by decide +kernel
theorem dX7_least_91 : decode cX7_least 91 = .ok (.goto 4, 3) := by decide +kernel
theorem dX7_least_94 : decode cX7_least 94 = .ok (.iload_n 3, 1) := by decide +kernel
theorem dX7_least_95 : decode cX7_least 95 = .ok (.istore_n 3, 1) := by decide +kernel
theorem dX7_least_96 : decode cX7_least 96 = .ok (.iinc 4 1, 3) := by decide +kernel
theorem dX7_least_99 : decode cX7_least 99 = .ok (.goto (-61), 3) := by decide +kernel
theorem dX7_least_102 : decode cX7_least 102 = .ok (.aload_n 0, 1) := by decide +kernel
theorem dX7_least_103 : decode cX7_least 103 = .ok (.invokevirtual 220, 3) := by decide +kernel
theorem dX7_least_106 : decode cX7_least 106 = .ok (.iload_n 3, 1) := by decide +kernel
theorem dX7_least_107 : decode cX7_least 107 = .ok (.ireturn, 1) := by decide +kernel
theorem dX7_gusts_0 : decode cX7_gusts 0 = .ok (.iload_n 1, 1) := by decide +kernel
theorem dX7_gusts_1 : decode cX7_gusts 1 = .ok (.iconst 0, 1) := by decide +kernel
theorem dX7_gusts_2 : decode cX7_gusts 2 = .ok (.bipush 10, 2) := by decide +kernel
theorem dX7_gusts_4 : decode cX7_gusts 4 = .ok (.invokestatic 41, 3) := by decide +kernel
theorem dX7_gusts_7 : decode cX7_gusts 7 = .ok (.ifCond .ne 6, 3) := by decide +kernel
theorem dX7_gusts_10 : decode cX7_gusts 10 = .ok (.bipush (-2), 2) := by decide +kernel
theorem dX7_gusts_12 : decode cX7_gusts 12 = .ok (.ireturn, 1) := by decide +kernel
theorem dX7_gusts_13 : decode cX7_gusts 13 = .ok (.aload_n 0, 1) := by decide +kernel
theorem dX7_gusts_14 : decode cX7_gusts 14 = .ok (.getfield 9, 3) := by decide +kernel
theorem dX7_gusts_17 : decode cX7_gusts 17 = .ok (.iconst 5, 1) := by decide +kernel
theorem dX7_gusts_18 : decode cX7_gusts 18 = .ok (.iaload, 1) := by decide +kernel
theorem dX7_gusts_19 : decode cX7_gusts 19 = .ok (.istore_n 2, 1) := by decide +kernel
theorem dX7_gusts_20 : decode cX7_gusts 20 = .ok (.aload_n 0, 1) := by decide +kernel
theorem dX7_gusts_21 : decode cX7_gusts 21 = .ok (.getfield 9, 3) := by decide +kernel
theorem dX7_gusts_24 : decode cX7_gusts 24 = .ok (.iconst 5, 1) := by decide +kernel
theorem dX7_gusts_25 : decode cX7_gusts 25 = .ok (.iload_n 1, 1) := by decide +kernel
theorem dX7_gusts_26 : decode cX7_gusts 26 = .ok (.iastore, 1) := by decide +kernel
theorem dX7_gusts_27 : decode cX7_gusts 27 = .ok (.iload_n 2, 1) := by decide +kernel
theorem dX7_gusts_28 : decode cX7_gusts 28 = .ok (.ireturn, 1) := by decide +kernel
theorem dX7_divisor_0 : decode cX7_divisor 0 = .ok (.iload_n 0, 1) := by decide +kernel
theorem dX7_divisor_1 : decode cX7_divisor 1 = .ok (.istore_n 2, 1) := by decide +kernel
theorem dX7_divisor_2 : decode cX7_divisor 2 = .ok (.iload_n 1, 1) := by decide +kernel
theorem dX7_divisor_3 : decode cX7_divisor 3 = .ok (.istore_n 3, 1) := by decide +kernel
theorem dX7_divisor_4 : decode cX7_divisor 4 = .ok (.iload_n 3, 1) := by decide +kernel
theorem dX7_divisor_5 : decode cX7_divisor 5 = .ok (.ifCond .eq 16, 3) := by decide +kernel
theorem dX7_divisor_8 : decode cX7_divisor 8 = .ok (.iload_n 2, 1) := by decide +kernel
theorem dX7_divisor_9 : decode cX7_divisor 9 = .ok (.iload_n 3, 1) := by decide +kernel
theorem dX7_divisor_10 : decode cX7_divisor 10 = .ok (.irem, 1) := by decide +kernel
theorem dX7_divisor_11 : decode cX7_divisor 11 = .ok (.istore 4, 2) := by decide +kernel
theorem dX7_divisor_13 : decode cX7_divisor 13 = .ok (.iload_n 3, 1) := by decide +kernel
theorem dX7_divisor_14 : decode cX7_divisor 14 = .ok (.istore_n 2, 1) := by decide +kernel
theorem dX7_divisor_15 : decode cX7_divisor 15 = .ok (.iload 4, 2) := by decide +kernel
theorem dX7_divisor_17 : decode cX7_divisor 17 = .ok (.istore_n 3, 1) := by decide +kernel
theorem dX7_divisor_18 : decode cX7_divisor 18 = .ok (.goto (-14), 3) := by decide +kernel
theorem dX7_divisor_21 : decode cX7_divisor 21 = .ok (.iload_n 2, 1) := by decide +kernel
theorem dX7_divisor_22 : decode cX7_divisor 22 = .ok (.ireturn, 1) := by decide +kernel
theorem dX7_oftenOf_0 : decode cX7_oftenOf 0 = .ok (.iload_n 1, 1) := by decide +kernel
theorem dX7_oftenOf_1 : decode cX7_oftenOf 1 = .ok (.iconst (-1), 1) := by decide +kernel
theorem dX7_oftenOf_2 : decode cX7_oftenOf 2 = .ok (.if_icmp .ne 18, 3) := by decide +kernel
theorem dX7_oftenOf_5 : decode cX7_oftenOf 5 = .ok (.bipush 8, 2) := by decide +kernel
theorem dX7_oftenOf_7 : decode cX7_oftenOf 7 = .ok (.bipush 10, 2) := by decide +kernel
theorem dX7_oftenOf_9 : decode cX7_oftenOf 9 = .ok (.aload_n 0, 1) := by decide +kernel
theorem dX7_oftenOf_10 : decode cX7_oftenOf 10 = .ok (.getfield 9, 3) := by decide +kernel
theorem dX7_oftenOf_13 : decode cX7_oftenOf 13 = .ok (.iconst 5, 1) := by decide +kernel
theorem dX7_oftenOf_14 : decode cX7_oftenOf 14 = .ok (.iaload, 1) := by decide +kernel
theorem dX7_oftenOf_15 : decode cX7_oftenOf 15 = .ok (.isub, 1) := by decide +kernel
theorem dX7_oftenOf_16 : decode cX7_oftenOf 16 = .ok (.imul, 1) := by decide +kernel
theorem dX7_oftenOf_17 : decode cX7_oftenOf 17 = .ok (.goto 9, 3) := by decide +kernel
theorem dX7_oftenOf_20 : decode cX7_oftenOf 20 = .ok (.aload_n 0, 1) := by decide +kernel
theorem dX7_oftenOf_21 : decode cX7_oftenOf 21 = .ok (.getfield 9, 3) := by decide +kernel
theorem dX7_oftenOf_24 : decode cX7_oftenOf 24 = .ok (.iconst 5, 1) := by decide +kernel
theorem dX7_oftenOf_25 : decode cX7_oftenOf 25 = .ok (.iaload, 1) := by decide +kernel
theorem dX7_oftenOf_26 : decode cX7_oftenOf 26 = .ok (.ireturn, 1) := by decide +kernel
theorem dX7_sure_0 : decode cX7_sure 0 = .ok (.aload_n 0, 1) := by decide +kernel
theorem dX7_sure_1 : decode cX7_sure 1 = .ok (.iload_n 1, 1) := by decide +kernel
theorem dX7_sure_2 : decode cX7_sure 2 = .ok (.invokevirtual 138, 3) := by decide +kernel
theorem dX7_sure_5 : decode cX7_sure 5 = .ok (.ifCond .eq 29, 3) := by decide +kernel
theorem dX7_sure_8 : decode cX7_sure 8 = .ok (.iload_n 2, 1) := by decide +kernel
theorem dX7_sure_9 : decode cX7_sure 9 = .ok (.iconst 0, 1) := by decide +kernel
theorem dX7_sure_10 : decode cX7_sure 10 = .ok (.iconst 1, 1) := by decide +kernel
theorem dX7_sure_11 : decode cX7_sure 11 = .ok (.invokestatic 41, 3) := by decide +kernel
theorem dX7_sure_14 : decode cX7_sure 14 = .ok (.ifCond .eq 20, 3) := by decide +kernel
theorem dX7_sure_17 : decode cX7_sure 17 = .ok (.iload_n 3, 1) := by decide +kernel
theorem dX7_sure_18 : decode cX7_sure 18 = .ok (.iconst 0, 1) := by decide +kernel
theorem dX7_sure_19 : decode cX7_sure 19 = .ok (.iconst 1, 1) := by decide +kernel
theorem dX7_sure_20 : decode cX7_sure 20 = .ok (.invokestatic 41, 3) := by decide +kernel
theorem dX7_sure_23 : decode cX7_sure 23 = .ok (.ifCond .eq 11, 3) := by decide +kernel
theorem dX7_sure_26 : decode cX7_sure 26 = .ok (.aload_n 0, 1) := by decide +kernel
theorem dX7_sure_27 : decode cX7_sure 27 = .ok (.iload_n 1, 1) := by decide +kernel
theorem dX7_sure_28 : decode cX7_sure 28 = .ok (.invokevirtual 183, 3) := by decide +kernel
theorem dX7_sure_31 : decode cX7_sure 31 = .ok (.ifCond .ne 7, 3) := by decide +kernel
theorem dX7_sure_34 : decode cX7_sure 34 = .ok (.ldc2_w 211, 3) := by decide +kernel
theorem dX7_sure_37 : decode cX7_sure 37 = .ok (.lreturn, 1) := by decide +kernel
theorem dX7_sure_38 : decode cX7_sure 38 = .ok (.iconst 0, 1) := by decide +kernel
theorem dX7_sure_39 : decode cX7_sure 39 = .ok (.istore 4, 2) := by decide +kernel
theorem dX7_sure_41 : decode cX7_sure 41 = .ok (.iconst (-1), 1) := by decide +kernel
theorem dX7_sure_42 : decode cX7_sure 42 = .ok (.istore 5, 2) := by decide +kernel
theorem dX7_sure_44 : decode cX7_sure 44 = .ok (.iload 5, 2) := by decide +kernel
theorem dX7_sure_46 : decode cX7_sure 46 = .ok (.bipush 8, 2) := by decide +kernel
theorem dX7_sure_48 : decode cX7_sure 48 = .ok (.if_icmp .ge 61, 3) := by decide +kernel
theorem dX7_sure_51 : decode cX7_sure 51 = .ok (.aload_n 0, 1) := by decide +kernel
theorem dX7_sure_52 : decode cX7_sure 52 = .ok (.iload_n 1, 1) := by decide +kernel
theorem dX7_sure_53 : decode cX7_sure 53 = .ok (.iload 5, 2) := by decide +kernel
theorem dX7_sure_55 : decode cX7_sure 55 = .ok (.invokevirtual 208, 3) := by decide +kernel
theorem dX7_sure_58 : decode cX7_sure 58 = .ok (.iload_n 2, 1) := by decide +kernel
theorem dX7_sure_59 : decode cX7_sure 59 = .ok (.ifCond .ne 18, 3) := by decide +kernel
theorem dX7_sure_62 : decode cX7_sure 62 = .ok (.aload_n 0, 1) := by decide +kernel
theorem dX7_sure_63 : decode cX7_sure 63 = .ok (.getfield 177, 3) := by decide +kernel
theorem dX7_sure_66 : decode cX7_sure 66 = .ok (.ifCond .ne 7, 3) := by decide +kernel
theorem dX7_sure_69 : decode cX7_sure 69 = .ok (.iconst 1, 1) := by decide +kernel
theorem dX7_sure_70 : decode cX7_sure 70 = .ok (.goto 11, 3) := by decide +kernel
theorem dX7_sure_73 : decode cX7_sure 73 = .ok (.iconst 0, 1) := by decide +kernel
theorem dX7_sure_74 : decode cX7_sure 74 = .ok (.goto 7, 3) := by decide +kernel
theorem dX7_sure_77 : decode cX7_sure 77 = .ok (.aload_n 0, 1) := by decide +kernel
theorem dX7_sure_78 : decode cX7_sure 78 = .ok (.invokevirtual 223, 3) := by decide +kernel
theorem dX7_sure_81 : decode cX7_sure 81 = .ok (.istore 6, 2) := by decide +kernel
theorem dX7_sure_83 : decode cX7_sure 83 = .ok (.iload 4, 2) := by decide +kernel
theorem dX7_sure_85 : decode cX7_sure 85 = .ok (.iload 6, 2) := by decide +kernel
theorem dX7_sure_87 : decode cX7_sure 87 = .ok (.ifCond .eq 12, 3) := by decide +kernel
theorem dX7_sure_90 : decode cX7_sure 90 = .ok (.aload_n 0, 1) := by decide +kernel
theorem dX7_sure_91 : decode cX7_sure 91 = .ok (.iload 5, 2) := by decide +kernel
theorem dX7_sure_93 : decode cX7_sure 93 = .ok (.invokevirtual 227, 3) := by decide +kernel
theorem dX7_sure_96 : decode cX7_sure 96 = .ok (.goto 4, 3) := by decide +kernel
theorem dX7_sure_99 : decode cX7_sure 99 = .ok (.iconst 0, 1) := by decide +kernel
theorem dX7_sure_100 : decode cX7_sure 100 = .ok (.iadd, 1) := by decide +kernel
theorem dX7_sure_101 : decode cX7_sure 101 = .ok (.istore 4, 2) := by decide +kernel
theorem dX7_sure_103 : decode cX7_sure 103 = .ok (.iinc 5 1, 3) := by decide +kernel
theorem dX7_sure_106 : decode cX7_sure 106 = .ok (.goto (-62), 3) := by decide +kernel
theorem dX7_sure_109 : decode cX7_sure 109 = .ok (.iload_n 3, 1) := by decide +kernel
theorem dX7_sure_110 : decode cX7_sure 110 = .ok (.ifCond .ne 8, 3) := by decide +kernel
theorem dX7_sure_113 : decode cX7_sure 113 = .ok (.iload 4, 2) := by decide +kernel
theorem dX7_sure_115 : decode cX7_sure 115 = .ok (.goto 5, 3) := by decide +kernel
theorem dX7_sure_118 : decode cX7_sure 118 = .ok (.bipush 80, 2) := by decide +kernel
theorem dX7_sure_120 : decode cX7_sure 120 = .ok (.iload 4, 2) := by decide +kernel
theorem dX7_sure_122 : decode cX7_sure 122 = .ok (.bipush 80, 2) := by decide +kernel
theorem dX7_sure_124 : decode cX7_sure 124 = .ok (.invokestatic 230, 3) := by decide +kernel
theorem dX7_sure_127 : decode cX7_sure 127 = .ok (.idiv, 1) := by decide +kernel
theorem dX7_sure_128 : decode cX7_sure 128 = .ok (.i2l, 1) := by decide +kernel
theorem dX7_sure_129 : decode cX7_sure 129 = .ok (.lreturn, 1) := by decide +kernel
theorem dX7_stand_0 : decode cX7_stand 0 = .ok (.aload_n 0, 1) := by decide +kernel
theorem dX7_stand_1 : decode cX7_stand 1 = .ok (.iload_n 1, 1) := by decide +kernel
theorem dX7_stand_2 : decode cX7_stand 2 = .ok (.invokevirtual 138, 3) := by decide +kernel
theorem dX7_stand_5 : decode cX7_stand 5 = .ok (.ifCond .eq 11, 3) := by decide +kernel
theorem dX7_stand_8 : decode cX7_stand 8 = .ok (.aload_n 0, 1) := by decide +kernel
theorem dX7_stand_9 : decode cX7_stand 9 = .ok (.iload_n 1, 1) := by decide +kernel
theorem dX7_stand_10 : decode cX7_stand 10 = .ok (.invokevirtual 183, 3) := by decide +kernel
theorem dX7_stand_13 : decode cX7_stand 13 = .ok (.ifCond .ne 7, 3) := by decide +kernel
theorem dX7_stand_16 : decode cX7_stand 16 = .ok (.ldc2_w 211, 3) := by decide +kernel
theorem dX7_stand_19 : decode cX7_stand 19 = .ok (.lreturn, 1) := by decide +kernel
theorem dX7_stand_20 : decode cX7_stand 20 = .ok (.lconst 0, 1) := by decide +kernel
theorem dX7_stand_21 : decode cX7_stand 21 = .ok (.lstore_n 2, 1) := by decide +kernel
theorem dX7_stand_22 : decode cX7_stand 22 = .ok (.iconst (-1), 1) := by decide +kernel
theorem dX7_stand_23 : decode cX7_stand 23 = .ok (.istore 4, 2) := by decide +kernel
theorem dX7_stand_25 : decode cX7_stand 25 = .ok (.iload 4, 2) := by decide +kernel
theorem dX7_stand_27 : decode cX7_stand 27 = .ok (.bipush 8, 2) := by decide +kernel
theorem dX7_stand_29 : decode cX7_stand 29 = .ok (.if_icmp .ge 36, 3) := by decide +kernel
theorem dX7_stand_32 : decode cX7_stand 32 = .ok (.aload_n 0, 1) := by decide +kernel
theorem dX7_stand_33 : decode cX7_stand 33 = .ok (.iload_n 1, 1) := by decide +kernel
theorem dX7_stand_34 : decode cX7_stand 34 = .ok (.iload 4, 2) := by decide +kernel
theorem dX7_stand_36 : decode cX7_stand 36 = .ok (.invokevirtual 208, 3) := by decide +kernel
theorem dX7_stand_39 : decode cX7_stand 39 = .ok (.lload_n 2, 1) := by decide +kernel
theorem dX7_stand_40 : decode cX7_stand 40 = .ok (.aload_n 0, 1) := by decide +kernel
theorem dX7_stand_41 : decode cX7_stand 41 = .ok (.iload 4, 2) := by decide +kernel
theorem dX7_stand_43 : decode cX7_stand 43 = .ok (.invokevirtual 227, 3) := by decide +kernel
theorem dX7_stand_46 : decode cX7_stand 46 = .ok (.ifCond .le 10, 3) := by decide +kernel
theorem dX7_stand_49 : decode cX7_stand 49 = .ok (.aload_n 0, 1) := by decide +kernel
theorem dX7_stand_50 : decode cX7_stand 50 = .ok (.getfield 186, 3) := by decide +kernel
theorem dX7_stand_53 : decode cX7_stand 53 = .ok (.goto 4, 3) := by decide +kernel
theorem dX7_stand_56 : decode cX7_stand 56 = .ok (.lconst 0, 1) := by decide +kernel
theorem dX7_stand_57 : decode cX7_stand 57 = .ok (.lor, 1) := by decide +kernel
theorem dX7_stand_58 : decode cX7_stand 58 = .ok (.lstore_n 2, 1) := by decide +kernel
theorem dX7_stand_59 : decode cX7_stand 59 = .ok (.iinc 4 1, 3) := by decide +kernel
theorem dX7_stand_62 : decode cX7_stand 62 = .ok (.goto (-37), 3) := by decide +kernel
theorem dX7_stand_65 : decode cX7_stand 65 = .ok (.lconst 0, 1) := by decide +kernel
theorem dX7_stand_66 : decode cX7_stand 66 = .ok (.lstore 4, 2) := by decide +kernel
theorem dX7_stand_68 : decode cX7_stand 68 = .ok (.aload_n 0, 1) := by decide +kernel
theorem dX7_stand_69 : decode cX7_stand 69 = .ok (.getfield 9, 3) := by decide +kernel
theorem dX7_stand_72 : decode cX7_stand 72 = .ok (.bipush 122, 2) := by decide +kernel
theorem dX7_stand_74 : decode cX7_stand 74 = .ok (.iload_n 1, 1) := by decide +kernel
theorem dX7_stand_75 : decode cX7_stand 75 = .ok (.iadd, 1) := by decide +kernel
theorem dX7_stand_76 : decode cX7_stand 76 = .ok (.iaload, 1) := by decide +kernel
theorem dX7_stand_77 : decode cX7_stand 77 = .ok (.istore 6, 2) := by decide +kernel
theorem dX7_stand_79 : decode cX7_stand 79 = .ok (.iconst 0, 1) := by decide +kernel
theorem dX7_stand_80 : decode cX7_stand 80 = .ok (.istore 7, 2) := by decide +kernel
theorem dX7_stand_82 : decode cX7_stand 82 = .ok (.iload 7, 2) := by decide +kernel
theorem dX7_stand_84 : decode cX7_stand 84 = .ok (.bipush 64, 2) := by decide +kernel
theorem dX7_stand_86 : decode cX7_stand 86 = .ok (.if_icmp .ge 92, 3) := by decide +kernel
theorem dX7_stand_89 : decode cX7_stand 89 = .ok (.iload 7, 2) := by decide +kernel
theorem dX7_stand_91 : decode cX7_stand 91 = .ok (.bipush 8, 2) := by decide +kernel
theorem dX7_stand_93 : decode cX7_stand 93 = .ok (.idiv, 1) := by decide +kernel
theorem dX7_stand_94 : decode cX7_stand 94 = .ok (.iload 6, 2) := by decide +kernel
theorem dX7_stand_96 : decode cX7_stand 96 = .ok (.bipush 8, 2) := by decide +kernel
theorem dX7_stand_98 : decode cX7_stand 98 = .ok (.idiv, 1) := by decide +kernel
theorem dX7_stand_99 : decode cX7_stand 99 = .ok (.isub, 1) := by decide +kernel
theorem dX7_stand_100 : decode cX7_stand 100 = .ok (.invokestatic 174, 3) := by decide +kernel
theorem dX7_stand_103 : decode cX7_stand 103 = .ok (.iconst 1, 1) := by decide +kernel
theorem dX7_stand_104 : decode cX7_stand 104 = .ok (.if_icmp .gt 25, 3) := by decide +kernel
theorem dX7_stand_107 : decode cX7_stand 107 = .ok (.iload 7, 2) := by decide +kernel
theorem dX7_stand_109 : decode cX7_stand 109 = .ok (.bipush 8, 2) := by decide +kernel
theorem dX7_stand_111 : decode cX7_stand 111 = .ok (.irem, 1) := by decide +kernel
theorem dX7_stand_112 : decode cX7_stand 112 = .ok (.iload 6, 2) := by decide +kernel
theorem dX7_stand_114 : decode cX7_stand 114 = .ok (.bipush 8, 2) := by decide +kernel
theorem dX7_stand_116 : decode cX7_stand 116 = .ok (.irem, 1) := by decide +kernel
theorem dX7_stand_117 : decode cX7_stand 117 = .ok (.isub, 1) := by decide +kernel
theorem dX7_stand_118 : decode cX7_stand 118 = .ok (.invokestatic 174, 3) := by decide +kernel
theorem dX7_stand_121 : decode cX7_stand 121 = .ok (.iconst 1, 1) := by decide +kernel
theorem dX7_stand_122 : decode cX7_stand 122 = .ok (.if_icmp .gt 7, 3) := by decide +kernel
theorem dX7_stand_125 : decode cX7_stand 125 = .ok (.iconst 1, 1) := by decide +kernel
theorem dX7_stand_126 : decode cX7_stand 126 = .ok (.goto 4, 3) := by decide +kernel
theorem dX7_stand_129 : decode cX7_stand 129 = .ok (.iconst 0, 1) := by decide +kernel
theorem dX7_stand_130 : decode cX7_stand 130 = .ok (.istore 8, 2) := by decide +kernel
theorem dX7_stand_132 : decode cX7_stand 132 = .ok (.lload 4, 2) := by decide +kernel
theorem dX7_stand_134 : decode cX7_stand 134 = .ok (.iload 8, 2) := by decide +kernel
theorem dX7_stand_136 : decode cX7_stand 136 = .ok (.ifCond .ne 32, 3) := by decide +kernel
theorem dX7_stand_139 : decode cX7_stand 139 = .ok (.aload_n 0, 1) := by decide +kernel
theorem dX7_stand_140 : decode cX7_stand 140 = .ok (.iload 7, 2) := by decide +kernel
theorem dX7_stand_142 : decode cX7_stand 142 = .ok (.iconst (-1), 1) := by decide +kernel
theorem dX7_stand_143 : decode cX7_stand 143 = .ok (.invokevirtual 199, 3) := by decide +kernel
theorem dX7_stand_146 : decode cX7_stand 146 = .ok (.iconst (-1), 1) := by decide +kernel
theorem dX7_stand_147 : decode cX7_stand 147 = .ok (.if_icmp .ne 21, 3) := by decide +kernel
theorem dX7_stand_150 : decode cX7_stand 150 = .ok (.lload_n 2, 1) := by decide +kernel
theorem dX7_stand_151 : decode cX7_stand 151 = .ok (.iload 7, 2) := by decide +kernel
theorem dX7_stand_153 : decode cX7_stand 153 = .ok (.lshr, 1) := by decide +kernel
theorem dX7_stand_154 : decode cX7_stand 154 = .ok (.lconst 1, 1) := by decide +kernel
theorem dX7_stand_155 : decode cX7_stand 155 = .ok (.land, 1) := by decide +kernel
theorem dX7_stand_156 : decode cX7_stand 156 = .ok (.lconst 0, 1) := by decide +kernel
theorem dX7_stand_157 : decode cX7_stand 157 = .ok (.lcmp, 1) := by decide +kernel
theorem dX7_stand_158 : decode cX7_stand 158 = .ok (.ifCond .ne 10, 3) := by decide +kernel
theorem dX7_stand_161 : decode cX7_stand 161 = .ok (.lconst 1, 1) := by decide +kernel
theorem dX7_stand_162 : decode cX7_stand 162 = .ok (.iload 7, 2) := by decide +kernel
theorem dX7_stand_164 : decode cX7_stand 164 = .ok (.lshl, 1) := by decide +kernel
theorem dX7_stand_165 : decode cX7_stand 165 = .ok (.goto 4, 3) := by decide +kernel
theorem dX7_stand_168 : decode cX7_stand 168 = .ok (.lconst 0, 1) := by decide +kernel
theorem dX7_stand_169 : decode cX7_stand 169 = .ok (.lor, 1) := by decide +kernel
theorem dX7_stand_170 : decode cX7_stand 170 = .ok (.lstore 4, 2) := by decide +kernel
theorem dX7_stand_172 : decode cX7_stand 172 = .ok (.iinc 7 1, 3) := by decide +kernel
theorem dX7_stand_175 : decode cX7_stand 175 = .ok (.goto (-93), 3) := by decide +kernel
theorem dX7_stand_178 : decode cX7_stand 178 = .ok (.lload 4, 2) := by decide +kernel
theorem dX7_stand_180 : decode cX7_stand 180 = .ok (.lreturn, 1) := by decide +kernel
theorem dX7_standingMany_0 : decode cX7_standingMany 0 = .ok (.iconst 0, 1) := by decide +kernel
theorem dX7_standingMany_1 : decode cX7_standingMany 1 = .ok (.istore_n 1, 1) := by decide +kernel
theorem dX7_standingMany_2 : decode cX7_standingMany 2 = .ok (.iconst 0, 1) := by decide +kernel
theorem dX7_standingMany_3 : decode cX7_standingMany 3 = .ok (.istore_n 2, 1) := by decide +kernel
theorem dX7_standingMany_4 : decode cX7_standingMany 4 = .ok (.iload_n 2, 1) := by decide +kernel
theorem dX7_standingMany_5 : decode cX7_standingMany 5 = .ok (.aload_n 0, 1) := by decide +kernel
theorem dX7_standingMany_6 : decode cX7_standingMany 6 = .ok (.getfield 9, 3) := by decide +kernel
theorem dX7_standingMany_9 : decode cX7_standingMany 9 = .ok (.iconst 0, 1) := by decide +kernel
theorem dX7_standingMany_10 : decode cX7_standingMany 10 = .ok (.iaload, 1) := by decide +kernel
theorem dX7_standingMany_11 : decode cX7_standingMany 11 = .ok (.if_icmp .ge 22, 3) := by decide +kernel
theorem dX7_standingMany_14 : decode cX7_standingMany 14 = .ok (.iload_n 1, 1) := by decide +kernel
theorem dX7_standingMany_15 : decode cX7_standingMany 15 = .ok (.aload_n 0, 1) := by decide +kernel
theorem dX7_standingMany_16 : decode cX7_standingMany 16 = .ok (.getfield 9, 3) := by decide +kernel
theorem dX7_standingMany_19 : decode cX7_standingMany 19 = .ok (.sipush 152, 3) := by decide +kernel
theorem dX7_standingMany_22 : decode cX7_standingMany 22 = .ok (.iload_n 2, 1) := by decide +kernel
theorem dX7_standingMany_23 : decode cX7_standingMany 23 = .ok (.iadd, 1) := by decide +kernel
theorem dX7_standingMany_24 : decode cX7_standingMany 24 = .ok (.iaload, 1) := by decide +kernel
theorem dX7_standingMany_25 : decode cX7_standingMany 25 = .ok (.iadd, 1) := by decide +kernel
theorem dX7_standingMany_26 : decode cX7_standingMany 26 = .ok (.istore_n 1, 1) := by decide +kernel
theorem dX7_standingMany_27 : decode cX7_standingMany 27 = .ok (.iinc 2 1, 3) := by decide +kernel
theorem dX7_standingMany_30 : decode cX7_standingMany 30 = .ok (.goto (-26), 3) := by decide +kernel
theorem dX7_standingMany_33 : decode cX7_standingMany 33 = .ok (.iload_n 1, 1) := by decide +kernel
theorem dX7_standingMany_34 : decode cX7_standingMany 34 = .ok (.ireturn, 1) := by decide +kernel
theorem dX7_rowsFrom_0 : decode cX7_rowsFrom 0 = .ok (.iload_n 1, 1) := by decide +kernel
theorem dX7_rowsFrom_1 : decode cX7_rowsFrom 1 = .ok (.iload_n 2, 1) := by decide +kernel
theorem dX7_rowsFrom_2 : decode cX7_rowsFrom 2 = .ok (.if_icmp .ne 5, 3) := by decide +kernel
theorem dX7_rowsFrom_5 : decode cX7_rowsFrom 5 = .ok (.iconst 1, 1) := by decide +kernel
theorem dX7_rowsFrom_6 : decode cX7_rowsFrom 6 = .ok (.ireturn, 1) := by decide +kernel
theorem dX7_rowsFrom_7 : decode cX7_rowsFrom 7 = .ok (.iconst 0, 1) := by decide +kernel
theorem dX7_rowsFrom_8 : decode cX7_rowsFrom 8 = .ok (.istore_n 3, 1) := by decide +kernel
theorem dX7_rowsFrom_9 : decode cX7_rowsFrom 9 = .ok (.iload_n 3, 1) := by decide +kernel
theorem dX7_rowsFrom_10 : decode cX7_rowsFrom 10 = .ok (.aload_n 0, 1) := by decide +kernel
theorem dX7_rowsFrom_11 : decode cX7_rowsFrom 11 = .ok (.getfield 9, 3) := by decide +kernel
theorem dX7_rowsFrom_14 : decode cX7_rowsFrom 14 = .ok (.iconst 0, 1) := by decide +kernel
theorem dX7_rowsFrom_15 : decode cX7_rowsFrom 15 = .ok (.iaload, 1) := by decide +kernel
theorem dX7_rowsFrom_16 : decode cX7_rowsFrom 16 = .ok (.if_icmp .ge 86, 3) := by decide +kernel
theorem dX7_rowsFrom_19 : decode cX7_rowsFrom 19 = .ok (.aload_n 0, 1) := by decide +kernel
theorem dX7_rowsFrom_20 : decode cX7_rowsFrom 20 = .ok (.iload_n 3, 1) := by decide +kernel
theorem dX7_rowsFrom_21 : decode cX7_rowsFrom 21 = .ok (.invokevirtual 183, 3) := by decide +kernel
theorem dX7_rowsFrom_24 : decode cX7_rowsFrom 24 = .ok (.ifCond .eq 72, 3) := by decide +kernel
theorem dX7_rowsFrom_27 : decode cX7_rowsFrom 27 = .ok (.aload_n 0, 1) := by decide +kernel
theorem dX7_rowsFrom_28 : decode cX7_rowsFrom 28 = .ok (.iload_n 3, 1) := by decide +kernel
theorem dX7_rowsFrom_29 : decode cX7_rowsFrom 29 = .ok (.iconst (-1), 1) := by decide +kernel
theorem dX7_rowsFrom_30 : decode cX7_rowsFrom 30 = .ok (.invokevirtual 208, 3) := by decide +kernel
theorem dX7_rowsFrom_33 : decode cX7_rowsFrom 33 = .ok (.aload_n 0, 1) := by decide +kernel
theorem dX7_rowsFrom_34 : decode cX7_rowsFrom 34 = .ok (.getfield 177, 3) := by decide +kernel
theorem dX7_rowsFrom_37 : decode cX7_rowsFrom 37 = .ok (.iconst 2, 1) := by decide +kernel
theorem dX7_rowsFrom_38 : decode cX7_rowsFrom 38 = .ok (.if_icmp .eq 58, 3) := by decide +kernel
theorem dX7_rowsFrom_41 : decode cX7_rowsFrom 41 = .ok (.aload_n 0, 1) := by decide +kernel
theorem dX7_rowsFrom_42 : decode cX7_rowsFrom 42 = .ok (.getfield 193, 3) := by decide +kernel
theorem dX7_rowsFrom_45 : decode cX7_rowsFrom 45 = .ok (.bipush (-5), 2) := by decide +kernel
theorem dX7_rowsFrom_47 : decode cX7_rowsFrom 47 = .ok (.if_icmp .ne 49, 3) := by decide +kernel
theorem dX7_rowsFrom_50 : decode cX7_rowsFrom 50 = .ok (.aload_n 0, 1) := by decide +kernel
theorem dX7_rowsFrom_51 : decode cX7_rowsFrom 51 = .ok (.getfield 28, 3) := by decide +kernel
theorem dX7_rowsFrom_54 : decode cX7_rowsFrom 54 = .ok (.iload_n 1, 1) := by decide +kernel
theorem dX7_rowsFrom_55 : decode cX7_rowsFrom 55 = .ok (.iload_n 3, 1) := by decide +kernel
theorem dX7_rowsFrom_56 : decode cX7_rowsFrom 56 = .ok (.iastore, 1) := by decide +kernel
theorem dX7_rowsFrom_57 : decode cX7_rowsFrom 57 = .ok (.aload_n 0, 1) := by decide +kernel
theorem dX7_rowsFrom_58 : decode cX7_rowsFrom 58 = .ok (.getfield 9, 3) := by decide +kernel
theorem dX7_rowsFrom_61 : decode cX7_rowsFrom 61 = .ok (.sipush 152, 3) := by decide +kernel
theorem dX7_rowsFrom_64 : decode cX7_rowsFrom 64 = .ok (.iload_n 3, 1) := by decide +kernel
theorem dX7_rowsFrom_65 : decode cX7_rowsFrom 65 = .ok (.iadd, 1) := by decide +kernel
theorem dX7_rowsFrom_66 : decode cX7_rowsFrom 66 = .ok (.iconst 0, 1) := by decide +kernel
theorem dX7_rowsFrom_67 : decode cX7_rowsFrom 67 = .ok (.iastore, 1) := by decide +kernel
theorem dX7_rowsFrom_68 : decode cX7_rowsFrom 68 = .ok (.aload_n 0, 1) := by decide +kernel
theorem dX7_rowsFrom_69 : decode cX7_rowsFrom 69 = .ok (.iload_n 1, 1) := by decide +kernel
theorem dX7_rowsFrom_70 : decode cX7_rowsFrom 70 = .ok (.iconst 1, 1) := by decide +kernel
theorem dX7_rowsFrom_71 : decode cX7_rowsFrom 71 = .ok (.iadd, 1) := by decide +kernel
theorem dX7_rowsFrom_72 : decode cX7_rowsFrom 72 = .ok (.iload_n 2, 1) := by decide +kernel
theorem dX7_rowsFrom_73 : decode cX7_rowsFrom 73 = .ok (.invokevirtual 233, 3) := by decide +kernel
theorem dX7_rowsFrom_76 : decode cX7_rowsFrom 76 = .ok (.istore 4, 2) := by decide +kernel
theorem dX7_rowsFrom_78 : decode cX7_rowsFrom 78 = .ok (.aload_n 0, 1) := by decide +kernel
theorem dX7_rowsFrom_79 : decode cX7_rowsFrom 79 = .ok (.getfield 9, 3) := by decide +kernel
theorem dX7_rowsFrom_82 : decode cX7_rowsFrom 82 = .ok (.sipush 152, 3) := by decide +kernel
theorem dX7_rowsFrom_85 : decode cX7_rowsFrom 85 = .ok (.iload_n 3, 1) := by decide +kernel
theorem dX7_rowsFrom_86 : decode cX7_rowsFrom 86 = .ok (.iadd, 1) := by decide +kernel
theorem dX7_rowsFrom_87 : decode cX7_rowsFrom 87 = .ok (.iconst 1, 1) := by decide +kernel
theorem dX7_rowsFrom_88 : decode cX7_rowsFrom 88 = .ok (.iastore, 1) := by decide +kernel
theorem dX7_rowsFrom_89 : decode cX7_rowsFrom 89 = .ok (.iload 4, 2) := by decide +kernel
theorem dX7_rowsFrom_91 : decode cX7_rowsFrom 91 = .ok (.ifCond .eq 5, 3) := by decide +kernel
theorem dX7_rowsFrom_94 : decode cX7_rowsFrom 94 = .ok (.iconst 1, 1) := by decide +kernel
theorem dX7_rowsFrom_95 : decode cX7_rowsFrom 95 = .ok (.ireturn, 1) := by decide +kernel
theorem dX7_rowsFrom_96 : decode cX7_rowsFrom 96 = .ok (.iinc 3 1, 3) := by decide +kernel
theorem dX7_rowsFrom_99 : decode cX7_rowsFrom 99 = .ok (.goto (-90), 3) := by decide +kernel
theorem dX7_rowsFrom_102 : decode cX7_rowsFrom 102 = .ok (.iconst 0, 1) := by decide +kernel
theorem dX7_rowsFrom_103 : decode cX7_rowsFrom 103 = .ok (.ireturn, 1) := by decide +kernel
theorem dX7_order_0 : decode cX7_order 0 = .ok (.iload_n 1, 1) := by decide +kernel
theorem dX7_order_1 : decode cX7_order 1 = .ok (.iconst 0, 1) := by decide +kernel
theorem dX7_order_2 : decode cX7_order 2 = .ok (.iconst 4, 1) := by decide +kernel
theorem dX7_order_3 : decode cX7_order 3 = .ok (.invokestatic 41, 3) := by decide +kernel
theorem dX7_order_6 : decode cX7_order 6 = .ok (.ifCond .ne 5, 3) := by decide +kernel
theorem dX7_order_9 : decode cX7_order 9 = .ok (.iconst (-1), 1) := by decide +kernel
theorem dX7_order_10 : decode cX7_order 10 = .ok (.ireturn, 1) := by decide +kernel
theorem dX7_order_11 : decode cX7_order 11 = .ok (.aload_n 0, 1) := by decide +kernel
theorem dX7_order_12 : decode cX7_order 12 = .ok (.invokevirtual 237, 3) := by decide +kernel
theorem dX7_order_15 : decode cX7_order 15 = .ok (.istore_n 2, 1) := by decide +kernel
theorem dX7_order_16 : decode cX7_order 16 = .ok (.iload_n 2, 1) := by decide +kernel
theorem dX7_order_17 : decode cX7_order 17 = .ok (.iconst 5, 1) := by decide +kernel
theorem dX7_order_18 : decode cX7_order 18 = .ok (.if_icmp .le 6, 3) := by decide +kernel
theorem dX7_order_21 : decode cX7_order 21 = .ok (.bipush (-9), 2) := by decide +kernel
theorem dX7_order_23 : decode cX7_order 23 = .ok (.ireturn, 1) := by decide +kernel
theorem dX7_order_24 : decode cX7_order 24 = .ok (.aload_n 0, 1) := by decide +kernel
theorem dX7_order_25 : decode cX7_order 25 = .ok (.iconst 0, 1) := by decide +kernel
theorem dX7_order_26 : decode cX7_order 26 = .ok (.iload_n 2, 1) := by decide +kernel
theorem dX7_order_27 : decode cX7_order 27 = .ok (.invokevirtual 233, 3) := by decide +kernel
theorem dX7_order_30 : decode cX7_order 30 = .ok (.ifCond .eq 17, 3) := by decide +kernel
theorem dX7_order_33 : decode cX7_order 33 = .ok (.iload_n 1, 1) := by decide +kernel
theorem dX7_order_34 : decode cX7_order 34 = .ok (.iload_n 2, 1) := by decide +kernel
theorem dX7_order_35 : decode cX7_order 35 = .ok (.if_icmp .ge 12, 3) := by decide +kernel
theorem dX7_order_38 : decode cX7_order 38 = .ok (.aload_n 0, 1) := by decide +kernel
theorem dX7_order_39 : decode cX7_order 39 = .ok (.getfield 28, 3) := by decide +kernel
theorem dX7_order_42 : decode cX7_order 42 = .ok (.iload_n 1, 1) := by decide +kernel
theorem dX7_order_43 : decode cX7_order 43 = .ok (.iaload, 1) := by decide +kernel
theorem dX7_order_44 : decode cX7_order 44 = .ok (.goto 5, 3) := by decide +kernel
theorem dX7_order_47 : decode cX7_order 47 = .ok (.bipush (-5), 2) := by decide +kernel
theorem dX7_order_49 : decode cX7_order 49 = .ok (.ireturn, 1) := by decide +kernel
theorem dX7_hung_0 : decode cX7_hung 0 = .ok (.iconst 0, 1) := by decide +kernel
theorem dX7_hung_1 : decode cX7_hung 1 = .ok (.istore_n 1, 1) := by decide +kernel
theorem dX7_hung_2 : decode cX7_hung 2 = .ok (.iconst 0, 1) := by decide +kernel
theorem dX7_hung_3 : decode cX7_hung 3 = .ok (.istore_n 2, 1) := by decide +kernel
theorem dX7_hung_4 : decode cX7_hung 4 = .ok (.iload_n 2, 1) := by decide +kernel
theorem dX7_hung_5 : decode cX7_hung 5 = .ok (.aload_n 0, 1) := by decide +kernel
theorem dX7_hung_6 : decode cX7_hung 6 = .ok (.getfield 9, 3) := by decide +kernel
theorem dX7_hung_9 : decode cX7_hung 9 = .ok (.iconst 0, 1) := by decide +kernel
theorem dX7_hung_10 : decode cX7_hung 10 = .ok (.iaload, 1) := by decide +kernel
theorem dX7_hung_11 : decode cX7_hung 11 = .ok (.if_icmp .ge 40, 3) := by decide +kernel
theorem dX7_hung_14 : decode cX7_hung 14 = .ok (.aload_n 0, 1) := by decide +kernel
theorem dX7_hung_15 : decode cX7_hung 15 = .ok (.iload_n 2, 1) := by decide +kernel
theorem dX7_hung_16 : decode cX7_hung 16 = .ok (.invokevirtual 183, 3) := by decide +kernel
theorem dX7_hung_19 : decode cX7_hung 19 = .ok (.ifCond .eq 26, 3) := by decide +kernel
theorem dX7_hung_22 : decode cX7_hung 22 = .ok (.aload_n 0, 1) := by decide +kernel
theorem dX7_hung_23 : decode cX7_hung 23 = .ok (.iload_n 2, 1) := by decide +kernel
theorem dX7_hung_24 : decode cX7_hung 24 = .ok (.iconst (-1), 1) := by decide +kernel
theorem dX7_hung_25 : decode cX7_hung 25 = .ok (.invokevirtual 208, 3) := by decide +kernel
theorem dX7_hung_28 : decode cX7_hung 28 = .ok (.iload_n 1, 1) := by decide +kernel
theorem dX7_hung_29 : decode cX7_hung 29 = .ok (.aload_n 0, 1) := by decide +kernel
theorem dX7_hung_30 : decode cX7_hung 30 = .ok (.getfield 193, 3) := by decide +kernel
theorem dX7_hung_33 : decode cX7_hung 33 = .ok (.bipush (-5), 2) := by decide +kernel
theorem dX7_hung_35 : decode cX7_hung 35 = .ok (.if_icmp .ne 7, 3) := by decide +kernel
theorem dX7_hung_38 : decode cX7_hung 38 = .ok (.iconst 0, 1) := by decide +kernel
theorem dX7_hung_39 : decode cX7_hung 39 = .ok (.goto 4, 3) := by decide +kernel
theorem dX7_hung_42 : decode cX7_hung 42 = .ok (.iconst 1, 1) := by decide +kernel
theorem dX7_hung_43 : decode cX7_hung 43 = .ok (.iadd, 1) := by decide +kernel
theorem dX7_hung_44 : decode cX7_hung 44 = .ok (.istore_n 1, 1) := by decide +kernel
theorem dX7_hung_45 : decode cX7_hung 45 = .ok (.iinc 2 1, 3) := by decide +kernel
theorem dX7_hung_48 : decode cX7_hung 48 = .ok (.goto (-44), 3) := by decide +kernel
theorem dX7_hung_51 : decode cX7_hung 51 = .ok (.iload_n 1, 1) := by decide +kernel
theorem dX7_hung_52 : decode cX7_hung 52 = .ok (.ireturn, 1) := by decide +kernel
theorem dX7_blame_0 : decode cX7_blame 0 = .ok (.aload_n 0, 1) := by decide +kernel
theorem dX7_blame_1 : decode cX7_blame 1 = .ok (.iload_n 1, 1) := by decide +kernel
theorem dX7_blame_2 : decode cX7_blame 2 = .ok (.invokevirtual 138, 3) := by decide +kernel
theorem dX7_blame_5 : decode cX7_blame 5 = .ok (.ifCond .eq 10, 3) := by decide +kernel
theorem dX7_blame_8 : decode cX7_blame 8 = .ok (.iload_n 2, 1) := by decide +kernel
theorem dX7_blame_9 : decode cX7_blame 9 = .ok (.invokestatic 142, 3) := by decide +kernel
theorem dX7_blame_12 : decode cX7_blame 12 = .ok (.ifCond .ne 5, 3) := by decide +kernel
theorem dX7_blame_15 : decode cX7_blame 15 = .ok (.iconst (-1), 1) := by decide +kernel
theorem dX7_blame_16 : decode cX7_blame 16 = .ok (.ireturn, 1) := by decide +kernel
theorem dX7_blame_17 : decode cX7_blame 17 = .ok (.aload_n 0, 1) := by decide +kernel
theorem dX7_blame_18 : decode cX7_blame 18 = .ok (.iload_n 1, 1) := by decide +kernel
theorem dX7_blame_19 : decode cX7_blame 19 = .ok (.invokevirtual 183, 3) := by decide +kernel
theorem dX7_blame_22 : decode cX7_blame 22 = .ok (.ifCond .ne 6, 3) := by decide +kernel
theorem dX7_blame_25 : decode cX7_blame 25 = .ok (.bipush (-3), 2) := by decide +kernel
theorem dX7_blame_27 : decode cX7_blame 27 = .ok (.ireturn, 1) := by decide +kernel
theorem dX7_blame_28 : decode cX7_blame 28 = .ok (.iconst 0, 1) := by decide +kernel
theorem dX7_blame_29 : decode cX7_blame 29 = .ok (.istore_n 3, 1) := by decide +kernel
theorem dX7_blame_30 : decode cX7_blame 30 = .ok (.iconst (-1), 1) := by decide +kernel
theorem dX7_blame_31 : decode cX7_blame 31 = .ok (.istore 4, 2) := by decide +kernel
theorem dX7_blame_33 : decode cX7_blame 33 = .ok (.iload 4, 2) := by decide +kernel
theorem dX7_blame_35 : decode cX7_blame 35 = .ok (.bipush 8, 2) := by decide +kernel
theorem dX7_blame_37 : decode cX7_blame 37 = .ok (.if_icmp .ge 46, 3) := by decide +kernel
theorem dX7_blame_40 : decode cX7_blame 40 = .ok (.aload_n 0, 1) := by decide +kernel
theorem dX7_blame_41 : decode cX7_blame 41 = .ok (.iload_n 1, 1) := by decide +kernel
theorem dX7_blame_42 : decode cX7_blame 42 = .ok (.iload 4, 2) := by decide +kernel
theorem dX7_blame_44 : decode cX7_blame 44 = .ok (.invokevirtual 202, 3) := by decide +kernel
theorem dX7_blame_47 : decode cX7_blame 47 = .ok (.iload_n 3, 1) := by decide +kernel
theorem dX7_blame_48 : decode cX7_blame 48 = .ok (.aload_n 0, 1) := by decide +kernel
theorem dX7_blame_49 : decode cX7_blame 49 = .ok (.getfield 180, 3) := by decide +kernel
theorem dX7_blame_52 : decode cX7_blame 52 = .ok (.iload_n 2, 1) := by decide +kernel
theorem dX7_blame_53 : decode cX7_blame 53 = .ok (.if_icmp .ne 21, 3) := by decide +kernel
theorem dX7_blame_56 : decode cX7_blame 56 = .ok (.aload_n 0, 1) := by decide +kernel
theorem dX7_blame_57 : decode cX7_blame 57 = .ok (.iload 4, 2) := by decide +kernel
theorem dX7_blame_59 : decode cX7_blame 59 = .ok (.invokevirtual 227, 3) := by decide +kernel
theorem dX7_blame_62 : decode cX7_blame 62 = .ok (.ifCond .le 12, 3) := by decide +kernel
theorem dX7_blame_65 : decode cX7_blame 65 = .ok (.iconst 1, 1) := by decide +kernel
theorem dX7_blame_66 : decode cX7_blame 66 = .ok (.aload_n 0, 1) := by decide +kernel
theorem dX7_blame_67 : decode cX7_blame 67 = .ok (.getfield 177, 3) := by decide +kernel
theorem dX7_blame_70 : decode cX7_blame 70 = .ok (.ishl, 1) := by decide +kernel
theorem dX7_blame_71 : decode cX7_blame 71 = .ok (.goto 4, 3) := by decide +kernel
theorem dX7_blame_74 : decode cX7_blame 74 = .ok (.iconst 0, 1) := by decide +kernel
theorem dX7_blame_75 : decode cX7_blame 75 = .ok (.ior, 1) := by decide +kernel
theorem dX7_blame_76 : decode cX7_blame 76 = .ok (.istore_n 3, 1) := by decide +kernel
theorem dX7_blame_77 : decode cX7_blame 77 = .ok (.iinc 4 1, 3) := by decide +kernel
theorem dX7_blame_80 : decode cX7_blame 80 = .ok (.goto (-47), 3) := by decide +kernel
theorem dX7_blame_83 : decode cX7_blame 83 = .ok (.iload_n 3, 1) := by decide +kernel
theorem dX7_blame_84 : decode cX7_blame 84 = .ok (.ireturn, 1) := by decide +kernel
theorem dX7_knock_0 : decode cX7_knock 0 = .ok (.aload_n 0, 1) := by decide +kernel
theorem dX7_knock_1 : decode cX7_knock 1 = .ok (.iload_n 1, 1) := by decide +kernel
theorem dX7_knock_2 : decode cX7_knock 2 = .ok (.invokevirtual 138, 3) := by decide +kernel
theorem dX7_knock_5 : decode cX7_knock 5 = .ok (.ifCond .eq 12, 3) := by decide +kernel
theorem dX7_knock_8 : decode cX7_knock 8 = .ok (.iload_n 2, 1) := by decide +kernel
theorem dX7_knock_9 : decode cX7_knock 9 = .ok (.iconst 0, 1) := by decide +kernel
theorem dX7_knock_10 : decode cX7_knock 10 = .ok (.iconst 4, 1) := by decide +kernel
theorem dX7_knock_11 : decode cX7_knock 11 = .ok (.invokestatic 41, 3) := by decide +kernel
theorem dX7_knock_14 : decode cX7_knock 14 = .ok (.ifCond .ne 5, 3) := by decide +kernel
theorem dX7_knock_17 : decode cX7_knock 17 = .ok (.iconst (-1), 1) := by decide +kernel
theorem dX7_knock_18 : decode cX7_knock 18 = .ok (.ireturn, 1) := by decide +kernel
theorem dX7_knock_19 : decode cX7_knock 19 = .ok (.aload_n 0, 1) := by decide +kernel
theorem dX7_knock_20 : decode cX7_knock 20 = .ok (.iload_n 1, 1) := by decide +kernel
theorem dX7_knock_21 : decode cX7_knock 21 = .ok (.invokevirtual 183, 3) := by decide +kernel
theorem dX7_knock_24 : decode cX7_knock 24 = .ok (.ifCond .ne 6, 3) := by decide +kernel
theorem dX7_knock_27 : decode cX7_knock 27 = .ok (.bipush (-3), 2) := by decide +kernel
theorem dX7_knock_29 : decode cX7_knock 29 = .ok (.ireturn, 1) := by decide +kernel
theorem dX7_knock_30 : decode cX7_knock 30 = .ok (.aload_n 0, 1) := by decide +kernel
theorem dX7_knock_31 : decode cX7_knock 31 = .ok (.getfield 9, 3) := by decide +kernel
theorem dX7_knock_34 : decode cX7_knock 34 = .ok (.sipush 146, 3) := by decide +kernel
theorem dX7_knock_37 : decode cX7_knock 37 = .ok (.iload_n 1, 1) := by decide +kernel
theorem dX7_knock_38 : decode cX7_knock 38 = .ok (.iadd, 1) := by decide +kernel
theorem dX7_knock_39 : decode cX7_knock 39 = .ok (.iaload, 1) := by decide +kernel
theorem dX7_knock_40 : decode cX7_knock 40 = .ok (.istore_n 3, 1) := by decide +kernel
theorem dX7_knock_41 : decode cX7_knock 41 = .ok (.iconst 0, 1) := by decide +kernel
theorem dX7_knock_42 : decode cX7_knock 42 = .ok (.istore 4, 2) := by decide +kernel
theorem dX7_knock_44 : decode cX7_knock 44 = .ok (.iconst 0, 1) := by decide +kernel
theorem dX7_knock_45 : decode cX7_knock 45 = .ok (.istore 5, 2) := by decide +kernel
theorem dX7_knock_47 : decode cX7_knock 47 = .ok (.iload 5, 2) := by decide +kernel
theorem dX7_knock_49 : decode cX7_knock 49 = .ok (.bipush 10, 2) := by decide +kernel
theorem dX7_knock_51 : decode cX7_knock 51 = .ok (.if_icmp .ge 48, 3) := by decide +kernel
theorem dX7_knock_54 : decode cX7_knock 54 = .ok (.aload_n 0, 1) := by decide +kernel
theorem dX7_knock_55 : decode cX7_knock 55 = .ok (.getfield 9, 3) := by decide +kernel
theorem dX7_knock_58 : decode cX7_knock 58 = .ok (.sipush 146, 3) := by decide +kernel
theorem dX7_knock_61 : decode cX7_knock 61 = .ok (.iload_n 1, 1) := by decide +kernel
theorem dX7_knock_62 : decode cX7_knock 62 = .ok (.iadd, 1) := by decide +kernel
theorem dX7_knock_63 : decode cX7_knock 63 = .ok (.iload 5, 2) := by decide +kernel
theorem dX7_knock_65 : decode cX7_knock 65 = .ok (.iastore, 1) := by decide +kernel
theorem dX7_knock_66 : decode cX7_knock 66 = .ok (.aload_n 0, 1) := by decide +kernel
theorem dX7_knock_67 : decode cX7_knock 67 = .ok (.iload_n 1, 1) := by decide +kernel
theorem dX7_knock_68 : decode cX7_knock 68 = .ok (.iconst (-1), 1) := by decide +kernel
theorem dX7_knock_69 : decode cX7_knock 69 = .ok (.invokevirtual 202, 3) := by decide +kernel
theorem dX7_knock_72 : decode cX7_knock 72 = .ok (.iload 4, 2) := by decide +kernel
theorem dX7_knock_74 : decode cX7_knock 74 = .ok (.aload_n 0, 1) := by decide +kernel
theorem dX7_knock_75 : decode cX7_knock 75 = .ok (.getfield 177, 3) := by decide +kernel
theorem dX7_knock_78 : decode cX7_knock 78 = .ok (.iload_n 2, 1) := by decide +kernel
theorem dX7_knock_79 : decode cX7_knock 79 = .ok (.if_icmp .ne 10, 3) := by decide +kernel
theorem dX7_knock_82 : decode cX7_knock 82 = .ok (.iconst 1, 1) := by decide +kernel
theorem dX7_knock_83 : decode cX7_knock 83 = .ok (.iload 5, 2) := by decide +kernel
theorem dX7_knock_85 : decode cX7_knock 85 = .ok (.ishl, 1) := by decide +kernel
theorem dX7_knock_86 : decode cX7_knock 86 = .ok (.goto 4, 3) := by decide +kernel
theorem dX7_knock_89 : decode cX7_knock 89 = .ok (.iconst 0, 1) := by decide +kernel
theorem dX7_knock_90 : decode cX7_knock 90 = .ok (.ior, 1) := by decide +kernel
theorem dX7_knock_91 : decode cX7_knock 91 = .ok (.istore 4, 2) := by decide +kernel
theorem dX7_knock_93 : decode cX7_knock 93 = .ok (.iinc 5 1, 3) := by decide +kernel
theorem dX7_knock_96 : decode cX7_knock 96 = .ok (.goto (-49), 3) := by decide +kernel
theorem dX7_knock_99 : decode cX7_knock 99 = .ok (.aload_n 0, 1) := by decide +kernel
theorem dX7_knock_100 : decode cX7_knock 100 = .ok (.getfield 9, 3) := by decide +kernel
theorem dX7_knock_103 : decode cX7_knock 103 = .ok (.sipush 146, 3) := by decide +kernel
theorem dX7_knock_106 : decode cX7_knock 106 = .ok (.iload_n 1, 1) := by decide +kernel
theorem dX7_knock_107 : decode cX7_knock 107 = .ok (.iadd, 1) := by decide +kernel
theorem dX7_knock_108 : decode cX7_knock 108 = .ok (.iload_n 3, 1) := by decide +kernel
theorem dX7_knock_109 : decode cX7_knock 109 = .ok (.iastore, 1) := by decide +kernel
theorem dX7_knock_110 : decode cX7_knock 110 = .ok (.iload 4, 2) := by decide +kernel
theorem dX7_knock_112 : decode cX7_knock 112 = .ok (.ireturn, 1) := by decide +kernel
theorem dX7_limbs_0 : decode cX7_limbs 0 = .ok (.aload_n 0, 1) := by decide +kernel
theorem dX7_limbs_1 : decode cX7_limbs 1 = .ok (.iload_n 1, 1) := by decide +kernel
theorem dX7_limbs_2 : decode cX7_limbs 2 = .ok (.invokevirtual 138, 3) := by decide +kernel
theorem dX7_limbs_5 : decode cX7_limbs 5 = .ok (.ifCond .ne 5, 3) := by decide +kernel
theorem dX7_limbs_8 : decode cX7_limbs 8 = .ok (.iconst (-1), 1) := by decide +kernel
theorem dX7_limbs_9 : decode cX7_limbs 9 = .ok (.ireturn, 1) := by decide +kernel
theorem dX7_limbs_10 : decode cX7_limbs 10 = .ok (.aload_n 0, 1) := by decide +kernel
theorem dX7_limbs_11 : decode cX7_limbs 11 = .ok (.iload_n 1, 1) := by decide +kernel
theorem dX7_limbs_12 : decode cX7_limbs 12 = .ok (.invokevirtual 183, 3) := by decide +kernel
theorem dX7_limbs_15 : decode cX7_limbs 15 = .ok (.ifCond .ne 6, 3) := by decide +kernel
theorem dX7_limbs_18 : decode cX7_limbs 18 = .ok (.bipush (-3), 2) := by decide +kernel
theorem dX7_limbs_20 : decode cX7_limbs 20 = .ok (.ireturn, 1) := by decide +kernel
theorem dX7_limbs_21 : decode cX7_limbs 21 = .ok (.aload_n 0, 1) := by decide +kernel
theorem dX7_limbs_22 : decode cX7_limbs 22 = .ok (.getfield 9, 3) := by decide +kernel
theorem dX7_limbs_25 : decode cX7_limbs 25 = .ok (.sipush 134, 3) := by decide +kernel
theorem dX7_limbs_28 : decode cX7_limbs 28 = .ok (.iload_n 1, 1) := by decide +kernel
theorem dX7_limbs_29 : decode cX7_limbs 29 = .ok (.iadd, 1) := by decide +kernel
theorem dX7_limbs_30 : decode cX7_limbs 30 = .ok (.iaload, 1) := by decide +kernel
theorem dX7_limbs_31 : decode cX7_limbs 31 = .ok (.istore_n 2, 1) := by decide +kernel
theorem dX7_limbs_32 : decode cX7_limbs 32 = .ok (.bipush (-5), 2) := by decide +kernel
theorem dX7_limbs_34 : decode cX7_limbs 34 = .ok (.istore_n 3, 1) := by decide +kernel
theorem dX7_limbs_35 : decode cX7_limbs 35 = .ok (.iconst 0, 1) := by decide +kernel
theorem dX7_limbs_36 : decode cX7_limbs 36 = .ok (.istore 4, 2) := by decide +kernel
theorem dX7_limbs_38 : decode cX7_limbs 38 = .ok (.iload 4, 2) := by decide +kernel
theorem dX7_limbs_40 : decode cX7_limbs 40 = .ok (.iload_n 2, 1) := by decide +kernel
theorem dX7_limbs_41 : decode cX7_limbs 41 = .ok (.if_icmp .gt 49, 3) := by decide +kernel
theorem dX7_limbs_44 : decode cX7_limbs 44 = .ok (.iload_n 3, 1) := by decide +kernel
theorem dX7_limbs_45 : decode cX7_limbs 45 = .ok (.bipush (-5), 2) := by decide +kernel
theorem dX7_limbs_47 : decode cX7_limbs 47 = .ok (.if_icmp .ne 43, 3) := by decide +kernel
theorem dX7_limbs_50 : decode cX7_limbs 50 = .ok (.aload_n 0, 1) := by decide +kernel
theorem dX7_limbs_51 : decode cX7_limbs 51 = .ok (.getfield 9, 3) := by decide +kernel
theorem dX7_limbs_54 : decode cX7_limbs 54 = .ok (.sipush 134, 3) := by decide +kernel
theorem dX7_limbs_57 : decode cX7_limbs 57 = .ok (.iload_n 1, 1) := by decide +kernel
theorem dX7_limbs_58 : decode cX7_limbs 58 = .ok (.iadd, 1) := by decide +kernel
theorem dX7_limbs_59 : decode cX7_limbs 59 = .ok (.iload_n 2, 1) := by decide +kernel
theorem dX7_limbs_60 : decode cX7_limbs 60 = .ok (.iload 4, 2) := by decide +kernel
theorem dX7_limbs_62 : decode cX7_limbs 62 = .ok (.isub, 1) := by decide +kernel
theorem dX7_limbs_63 : decode cX7_limbs 63 = .ok (.iastore, 1) := by decide +kernel
theorem dX7_limbs_64 : decode cX7_limbs 64 = .ok (.aload_n 0, 1) := by decide +kernel
theorem dX7_limbs_65 : decode cX7_limbs 65 = .ok (.iload_n 1, 1) := by decide +kernel
theorem dX7_limbs_66 : decode cX7_limbs 66 = .ok (.iconst (-1), 1) := by decide +kernel
theorem dX7_limbs_67 : decode cX7_limbs 67 = .ok (.invokevirtual 202, 3) := by decide +kernel
theorem dX7_limbs_70 : decode cX7_limbs 70 = .ok (.aload_n 0, 1) := by decide +kernel
theorem dX7_limbs_71 : decode cX7_limbs 71 = .ok (.getfield 177, 3) := by decide +kernel
theorem dX7_limbs_74 : decode cX7_limbs 74 = .ok (.ifCond .ne 8, 3) := by decide +kernel
theorem dX7_limbs_77 : decode cX7_limbs 77 = .ok (.iload 4, 2) := by decide +kernel
theorem dX7_limbs_79 : decode cX7_limbs 79 = .ok (.goto 4, 3) := by decide +kernel
theorem dX7_limbs_82 : decode cX7_limbs 82 = .ok (.iload_n 3, 1) := by decide +kernel
theorem dX7_limbs_83 : decode cX7_limbs 83 = .ok (.istore_n 3, 1) := by decide +kernel
theorem dX7_limbs_84 : decode cX7_limbs 84 = .ok (.iinc 4 1, 3) := by decide +kernel
theorem dX7_limbs_87 : decode cX7_limbs 87 = .ok (.goto (-49), 3) := by decide +kernel
theorem dX7_limbs_90 : decode cX7_limbs 90 = .ok (.aload_n 0, 1) := by decide +kernel
theorem dX7_limbs_91 : decode cX7_limbs 91 = .ok (.getfield 9, 3) := by decide +kernel
theorem dX7_limbs_94 : decode cX7_limbs 94 = .ok (.sipush 134, 3) := by decide +kernel
theorem dX7_limbs_97 : decode cX7_limbs 97 = .ok (.iload_n 1, 1) := by decide +kernel
theorem dX7_limbs_98 : decode cX7_limbs 98 = .ok (.iadd, 1) := by decide +kernel
theorem dX7_limbs_99 : decode cX7_limbs 99 = .ok (.iload_n 2, 1) := by decide +kernel
theorem dX7_limbs_100 : decode cX7_limbs 100 = .ok (.iastore, 1) := by decide +kernel
theorem dX7_limbs_101 : decode cX7_limbs 101 = .ok (.iload_n 3, 1) := by decide +kernel
theorem dX7_limbs_102 : decode cX7_limbs 102 = .ok (.ireturn, 1) := by decide +kernel
theorem dX7_book_0 : decode cX7_book 0 = .ok (.iload_n 1, 1) := by decide +kernel
theorem dX7_book_1 : decode cX7_book 1 = .ok (.iconst (-1), 1) := by decide +kernel
theorem dX7_book_2 : decode cX7_book 2 = .ok (.if_icmp .ne 12, 3) := by decide +kernel
theorem dX7_book_5 : decode cX7_book 5 = .ok (.aload_n 0, 1) := by decide +kernel
theorem dX7_book_6 : decode cX7_book 6 = .ok (.getfield 9, 3) := by decide +kernel
theorem dX7_book_9 : decode cX7_book 9 = .ok (.iconst 2, 1) := by decide +kernel
theorem dX7_book_10 : decode cX7_book 10 = .ok (.iconst 0, 1) := by decide +kernel
theorem dX7_book_11 : decode cX7_book 11 = .ok (.iastore, 1) := by decide +kernel
theorem dX7_book_12 : decode cX7_book 12 = .ok (.iconst 0, 1) := by decide +kernel
theorem dX7_book_13 : decode cX7_book 13 = .ok (.ireturn, 1) := by decide +kernel
theorem dX7_book_14 : decode cX7_book 14 = .ok (.iload_n 1, 1) := by decide +kernel
theorem dX7_book_15 : decode cX7_book 15 = .ok (.invokestatic 142, 3) := by decide +kernel
theorem dX7_book_18 : decode cX7_book 18 = .ok (.ifCond .ne 5, 3) := by decide +kernel
theorem dX7_book_21 : decode cX7_book 21 = .ok (.iconst (-1), 1) := by decide +kernel
theorem dX7_book_22 : decode cX7_book 22 = .ok (.ireturn, 1) := by decide +kernel
theorem dX7_book_23 : decode cX7_book 23 = .ok (.aload_n 0, 1) := by decide +kernel
theorem dX7_book_24 : decode cX7_book 24 = .ok (.getfield 9, 3) := by decide +kernel
theorem dX7_book_27 : decode cX7_book 27 = .ok (.iconst 2, 1) := by decide +kernel
theorem dX7_book_28 : decode cX7_book 28 = .ok (.iaload, 1) := by decide +kernel
theorem dX7_book_29 : decode cX7_book 29 = .ok (.bipush 6, 2) := by decide +kernel
theorem dX7_book_31 : decode cX7_book 31 = .ok (.if_icmp .ne 6, 3) := by decide +kernel
theorem dX7_book_34 : decode cX7_book 34 = .ok (.bipush (-4), 2) := by decide +kernel
theorem dX7_book_36 : decode cX7_book 36 = .ok (.ireturn, 1) := by decide +kernel
theorem dX7_book_37 : decode cX7_book 37 = .ok (.aload_n 0, 1) := by decide +kernel
theorem dX7_book_38 : decode cX7_book 38 = .ok (.getfield 9, 3) := by decide +kernel
theorem dX7_book_41 : decode cX7_book 41 = .ok (.sipush 194, 3) := by decide +kernel
theorem dX7_book_44 : decode cX7_book 44 = .ok (.aload_n 0, 1) := by decide +kernel
theorem dX7_book_45 : decode cX7_book 45 = .ok (.getfield 9, 3) := by decide +kernel
theorem dX7_book_48 : decode cX7_book 48 = .ok (.iconst 2, 1) := by decide +kernel
theorem dX7_book_49 : decode cX7_book 49 = .ok (.iaload, 1) := by decide +kernel
theorem dX7_book_50 : decode cX7_book 50 = .ok (.iadd, 1) := by decide +kernel
theorem dX7_book_51 : decode cX7_book 51 = .ok (.iload_n 1, 1) := by decide +kernel
theorem dX7_book_52 : decode cX7_book 52 = .ok (.iastore, 1) := by decide +kernel
theorem dX7_book_53 : decode cX7_book 53 = .ok (.aload_n 0, 1) := by decide +kernel
theorem dX7_book_54 : decode cX7_book 54 = .ok (.getfield 9, 3) := by decide +kernel
theorem dX7_book_57 : decode cX7_book 57 = .ok (.iconst 2, 1) := by decide +kernel
theorem dX7_book_58 : decode cX7_book 58 = .ok (.dup2, 1) := by decide +kernel
theorem dX7_book_59 : decode cX7_book 59 = .ok (.iaload, 1) := by decide +kernel
theorem dX7_book_60 : decode cX7_book 60 = .ok (.iconst 1, 1) := by decide +kernel
theorem dX7_book_61 : decode cX7_book 61 = .ok (.iadd, 1) := by decide +kernel
theorem dX7_book_62 : decode cX7_book 62 = .ok (.iastore, 1) := by decide +kernel
theorem dX7_book_63 : decode cX7_book 63 = .ok (.aload_n 0, 1) := by decide +kernel
theorem dX7_book_64 : decode cX7_book 64 = .ok (.getfield 9, 3) := by decide +kernel
theorem dX7_book_67 : decode cX7_book 67 = .ok (.iconst 2, 1) := by decide +kernel
theorem dX7_book_68 : decode cX7_book 68 = .ok (.iaload, 1) := by decide +kernel
theorem dX7_book_69 : decode cX7_book 69 = .ok (.ireturn, 1) := by decide +kernel
theorem dX7_judged_0 : decode cX7_judged 0 = .ok (.iload_n 1, 1) := by decide +kernel
theorem dX7_judged_1 : decode cX7_judged 1 = .ok (.iconst 0, 1) := by decide +kernel
theorem dX7_judged_2 : decode cX7_judged 2 = .ok (.iconst 1, 1) := by decide +kernel
theorem dX7_judged_3 : decode cX7_judged 3 = .ok (.invokestatic 41, 3) := by decide +kernel
theorem dX7_judged_6 : decode cX7_judged 6 = .ok (.ifCond .ne 5, 3) := by decide +kernel
theorem dX7_judged_9 : decode cX7_judged 9 = .ok (.iconst (-1), 1) := by decide +kernel
theorem dX7_judged_10 : decode cX7_judged 10 = .ok (.ireturn, 1) := by decide +kernel
theorem dX7_judged_11 : decode cX7_judged 11 = .ok (.iconst 0, 1) := by decide +kernel
theorem dX7_judged_12 : decode cX7_judged 12 = .ok (.istore_n 2, 1) := by decide +kernel
theorem dX7_judged_13 : decode cX7_judged 13 = .ok (.bipush (-5), 2) := by decide +kernel
theorem dX7_judged_15 : decode cX7_judged 15 = .ok (.istore_n 3, 1) := by decide +kernel
theorem dX7_judged_16 : decode cX7_judged 16 = .ok (.iconst 0, 1) := by decide +kernel
theorem dX7_judged_17 : decode cX7_judged 17 = .ok (.istore 4, 2) := by decide +kernel
theorem dX7_judged_19 : decode cX7_judged 19 = .ok (.iload 4, 2) := by decide +kernel
theorem dX7_judged_21 : decode cX7_judged 21 = .ok (.aload_n 0, 1) := by decide +kernel
theorem dX7_judged_22 : decode cX7_judged 22 = .ok (.getfield 9, 3) := by decide +kernel
theorem dX7_judged_25 : decode cX7_judged 25 = .ok (.iconst 0, 1) := by decide +kernel
theorem dX7_judged_26 : decode cX7_judged 26 = .ok (.iaload, 1) := by decide +kernel
theorem dX7_judged_27 : decode cX7_judged 27 = .ok (.if_icmp .ge 93, 3) := by decide +kernel
theorem dX7_judged_30 : decode cX7_judged 30 = .ok (.iload 4, 2) := by decide +kernel
theorem dX7_judged_32 : decode cX7_judged 32 = .ok (.aload_n 0, 1) := by decide +kernel
theorem dX7_judged_33 : decode cX7_judged 33 = .ok (.getfield 9, 3) := by decide +kernel
theorem dX7_judged_36 : decode cX7_judged 36 = .ok (.iconst 2, 1) := by decide +kernel
theorem dX7_judged_37 : decode cX7_judged 37 = .ok (.iaload, 1) := by decide +kernel
theorem dX7_judged_38 : decode cX7_judged 38 = .ok (.if_icmp .ge 82, 3) := by decide +kernel
theorem dX7_judged_41 : decode cX7_judged 41 = .ok (.aload_n 0, 1) := by decide +kernel
theorem dX7_judged_42 : decode cX7_judged 42 = .ok (.iload 4, 2) := by decide +kernel
theorem dX7_judged_44 : decode cX7_judged 44 = .ok (.invokevirtual 183, 3) := by decide +kernel
theorem dX7_judged_47 : decode cX7_judged 47 = .ok (.ifCond .eq 67, 3) := by decide +kernel
theorem dX7_judged_50 : decode cX7_judged 50 = .ok (.aload_n 0, 1) := by decide +kernel
theorem dX7_judged_51 : decode cX7_judged 51 = .ok (.iload 4, 2) := by decide +kernel
theorem dX7_judged_53 : decode cX7_judged 53 = .ok (.iconst (-1), 1) := by decide +kernel
theorem dX7_judged_54 : decode cX7_judged 54 = .ok (.invokevirtual 202, 3) := by decide +kernel
theorem dX7_judged_57 : decode cX7_judged 57 = .ok (.iload_n 2, 1) := by decide +kernel
theorem dX7_judged_58 : decode cX7_judged 58 = .ok (.aload_n 0, 1) := by decide +kernel
theorem dX7_judged_59 : decode cX7_judged 59 = .ok (.getfield 180, 3) := by decide +kernel
theorem dX7_judged_62 : decode cX7_judged 62 = .ok (.aload_n 0, 1) := by decide +kernel
theorem dX7_judged_63 : decode cX7_judged 63 = .ok (.getfield 9, 3) := by decide +kernel
theorem dX7_judged_66 : decode cX7_judged 66 = .ok (.sipush 194, 3) := by decide +kernel
theorem dX7_judged_69 : decode cX7_judged 69 = .ok (.iload 4, 2) := by decide +kernel
theorem dX7_judged_71 : decode cX7_judged 71 = .ok (.iadd, 1) := by decide +kernel
theorem dX7_judged_72 : decode cX7_judged 72 = .ok (.iaload, 1) := by decide +kernel
theorem dX7_judged_73 : decode cX7_judged 73 = .ok (.if_icmp .ne 7, 3) := by decide +kernel
theorem dX7_judged_76 : decode cX7_judged 76 = .ok (.iconst 1, 1) := by decide +kernel
theorem dX7_judged_77 : decode cX7_judged 77 = .ok (.goto 4, 3) := by decide +kernel
theorem dX7_judged_80 : decode cX7_judged 80 = .ok (.iconst 0, 1) := by decide +kernel
theorem dX7_judged_81 : decode cX7_judged 81 = .ok (.iadd, 1) := by decide +kernel
theorem dX7_judged_82 : decode cX7_judged 82 = .ok (.istore_n 2, 1) := by decide +kernel
theorem dX7_judged_83 : decode cX7_judged 83 = .ok (.aload_n 0, 1) := by decide +kernel
theorem dX7_judged_84 : decode cX7_judged 84 = .ok (.getfield 180, 3) := by decide +kernel
theorem dX7_judged_87 : decode cX7_judged 87 = .ok (.aload_n 0, 1) := by decide +kernel
theorem dX7_judged_88 : decode cX7_judged 88 = .ok (.getfield 9, 3) := by decide +kernel
theorem dX7_judged_91 : decode cX7_judged 91 = .ok (.sipush 194, 3) := by decide +kernel
theorem dX7_judged_94 : decode cX7_judged 94 = .ok (.iload 4, 2) := by decide +kernel
theorem dX7_judged_96 : decode cX7_judged 96 = .ok (.iadd, 1) := by decide +kernel
theorem dX7_judged_97 : decode cX7_judged 97 = .ok (.iaload, 1) := by decide +kernel
theorem dX7_judged_98 : decode cX7_judged 98 = .ok (.if_icmp .eq 14, 3) := by decide +kernel
theorem dX7_judged_101 : decode cX7_judged 101 = .ok (.iload_n 3, 1) := by decide +kernel
theorem dX7_judged_102 : decode cX7_judged 102 = .ok (.bipush (-5), 2) := by decide +kernel
theorem dX7_judged_104 : decode cX7_judged 104 = .ok (.if_icmp .ne 8, 3) := by decide +kernel
theorem dX7_judged_107 : decode cX7_judged 107 = .ok (.iload 4, 2) := by decide +kernel
theorem dX7_judged_109 : decode cX7_judged 109 = .ok (.goto 4, 3) := by decide +kernel
theorem dX7_judged_112 : decode cX7_judged 112 = .ok (.iload_n 3, 1) := by decide +kernel
theorem dX7_judged_113 : decode cX7_judged 113 = .ok (.istore_n 3, 1) := by decide +kernel
theorem dX7_judged_114 : decode cX7_judged 114 = .ok (.iinc 4 1, 3) := by decide +kernel
theorem dX7_judged_117 : decode cX7_judged 117 = .ok (.goto (-98), 3) := by decide +kernel
theorem dX7_judged_120 : decode cX7_judged 120 = .ok (.iload_n 1, 1) := by decide +kernel
theorem dX7_judged_121 : decode cX7_judged 121 = .ok (.ifCond .ne 7, 3) := by decide +kernel
theorem dX7_judged_124 : decode cX7_judged 124 = .ok (.iload_n 2, 1) := by decide +kernel
theorem dX7_judged_125 : decode cX7_judged 125 = .ok (.goto 4, 3) := by decide +kernel
theorem dX7_judged_128 : decode cX7_judged 128 = .ok (.iload_n 3, 1) := by decide +kernel
theorem dX7_judged_129 : decode cX7_judged 129 = .ok (.ireturn, 1) := by decide +kernel
theorem dX7_runs_0 : decode cX7_runs 0 = .ok (.aload_n 0, 1) := by decide +kernel
theorem dX7_runs_1 : decode cX7_runs 1 = .ok (.getfield 240, 3) := by decide +kernel
theorem dX7_runs_4 : decode cX7_runs 4 = .ok (.bipush 20, 2) := by decide +kernel
theorem dX7_runs_6 : decode cX7_runs 6 = .ok (.if_icmp .ge 13, 3) := by decide +kernel
theorem dX7_runs_9 : decode cX7_runs 9 = .ok (.aload_n 0, 1) := by decide +kernel
theorem dX7_runs_10 : decode cX7_runs 10 = .ok (.getfield 34, 3) := by decide +kernel
theorem dX7_runs_13 : decode cX7_runs 13 = .ok (.aload_n 0, 1) := by decide +kernel
theorem dX7_runs_14 : decode cX7_runs 14 = .ok (.getfield 240, 3) := by decide +kernel
theorem dX7_runs_17 : decode cX7_runs 17 = .ok (.iload_n 1, 1) := by decide +kernel
theorem dX7_runs_18 : decode cX7_runs 18 = .ok (.iastore, 1) := by decide +kernel
theorem dX7_runs_19 : decode cX7_runs 19 = .ok (.aload_n 0, 1) := by decide +kernel
theorem dX7_runs_20 : decode cX7_runs 20 = .ok (.dup, 1) := by decide +kernel
theorem dX7_runs_21 : decode cX7_runs 21 = .ok (.getfield 240, 3) := by decide +kernel
theorem dX7_runs_24 : decode cX7_runs 24 = .ok (.iconst 1, 1) := by decide +kernel
theorem dX7_runs_25 : decode cX7_runs 25 = .ok (.iadd, 1) := by decide +kernel
theorem dX7_runs_26 : decode cX7_runs 26 = .ok (.putfield 240, 3) := by decide +kernel
theorem dX7_runs_29 : decode cX7_runs 29 = .ok (.return_, 1) := by decide +kernel
theorem dX7_isUnder_0 : decode cX7_isUnder 0 = .ok (.iload_n 1, 1) := by decide +kernel
theorem dX7_isUnder_1 : decode cX7_isUnder 1 = .ok (.ifCond .eq 24, 3) := by decide +kernel
theorem dX7_isUnder_4 : decode cX7_isUnder 4 = .ok (.iload_n 1, 1) := by decide +kernel
theorem dX7_isUnder_5 : decode cX7_isUnder 5 = .ok (.iload_n 0, 1) := by decide +kernel
theorem dX7_isUnder_6 : decode cX7_isUnder 6 = .ok (.if_icmp .eq 19, 3) := by decide +kernel
theorem dX7_isUnder_9 : decode cX7_isUnder 9 = .ok (.iload_n 1, 1) := by decide +kernel
theorem dX7_isUnder_10 : decode cX7_isUnder 10 = .ok (.ifCond .le 19, 3) := by decide +kernel
theorem dX7_isUnder_13 : decode cX7_isUnder 13 = .ok (.iload_n 1, 1) := by decide +kernel
theorem dX7_isUnder_14 : decode cX7_isUnder 14 = .ok (.iconst 4, 1) := by decide +kernel
theorem dX7_isUnder_15 : decode cX7_isUnder 15 = .ok (.if_icmp .ge 14, 3) := by decide +kernel
theorem dX7_isUnder_18 : decode cX7_isUnder 18 = .ok (.iload_n 0, 1) := by decide +kernel
theorem dX7_isUnder_19 : decode cX7_isUnder 19 = .ok (.iload_n 1, 1) := by decide +kernel
theorem dX7_isUnder_20 : decode cX7_isUnder 20 = .ok (.iconst 3, 1) := by decide +kernel
theorem dX7_isUnder_21 : decode cX7_isUnder 21 = .ok (.iadd, 1) := by decide +kernel
theorem dX7_isUnder_22 : decode cX7_isUnder 22 = .ok (.if_icmp .ne 7, 3) := by decide +kernel
theorem dX7_isUnder_25 : decode cX7_isUnder 25 = .ok (.iconst 1, 1) := by decide +kernel
theorem dX7_isUnder_26 : decode cX7_isUnder 26 = .ok (.goto 4, 3) := by decide +kernel
theorem dX7_isUnder_29 : decode cX7_isUnder 29 = .ok (.iconst 0, 1) := by decide +kernel
theorem dX7_isUnder_30 : decode cX7_isUnder 30 = .ok (.ireturn, 1) := by decide +kernel
theorem dX7_plainLeans_0 : decode cX7_plainLeans 0 = .ok (.aload_n 0, 1) := by decide +kernel
theorem dX7_plainLeans_1 : decode cX7_plainLeans 1 = .ok (.iconst 1, 1) := by decide +kernel
theorem dX7_plainLeans_2 : decode cX7_plainLeans 2 = .ok (.invokevirtual 243, 3) := by decide +kernel
theorem dX7_plainLeans_5 : decode cX7_plainLeans 5 = .ok (.iload_n 1, 1) := by decide +kernel
theorem dX7_plainLeans_6 : decode cX7_plainLeans 6 = .ok (.aload_n 0, 1) := by decide +kernel
theorem dX7_plainLeans_7 : decode cX7_plainLeans 7 = .ok (.getfield 246, 3) := by decide +kernel
theorem dX7_plainLeans_10 : decode cX7_plainLeans 10 = .ok (.iadd, 1) := by decide +kernel
theorem dX7_plainLeans_11 : decode cX7_plainLeans 11 = .ok (.ireturn, 1) := by decide +kernel
theorem dX7_leansActs_0 : decode cX7_leansActs 0 = .ok (.aload_n 0, 1) := by decide +kernel
theorem dX7_leansActs_1 : decode cX7_leansActs 1 = .ok (.getfield 249, 3) := by decide +kernel
theorem dX7_leansActs_4 : decode cX7_leansActs 4 = .ok (.iconst 1, 1) := by decide +kernel
theorem dX7_leansActs_5 : decode cX7_leansActs 5 = .ok (.invokestatic 252, 3) := by decide +kernel
theorem dX7_leansActs_8 : decode cX7_leansActs 8 = .ok (.ifCond .eq 17, 3) := by decide +kernel
theorem dX7_leansActs_11 : decode cX7_leansActs 11 = .ok (.aload_n 0, 1) := by decide +kernel
theorem dX7_leansActs_12 : decode cX7_leansActs 12 = .ok (.bipush 11, 2) := by decide +kernel
theorem dX7_leansActs_14 : decode cX7_leansActs 14 = .ok (.invokevirtual 243, 3) := by decide +kernel
theorem dX7_leansActs_17 : decode cX7_leansActs 17 = .ok (.aload_n 0, 1) := by decide +kernel
theorem dX7_leansActs_18 : decode cX7_leansActs 18 = .ok (.iload_n 1, 1) := by decide +kernel
theorem dX7_leansActs_19 : decode cX7_leansActs 19 = .ok (.iconst 3, 1) := by decide +kernel
theorem dX7_leansActs_20 : decode cX7_leansActs 20 = .ok (.imul, 1) := by decide +kernel
theorem dX7_leansActs_21 : decode cX7_leansActs 21 = .ok (.invokevirtual 255, 3) := by decide +kernel
theorem dX7_leansActs_24 : decode cX7_leansActs 24 = .ok (.ireturn, 1) := by decide +kernel
theorem dX7_leansActs_25 : decode cX7_leansActs 25 = .ok (.aload_n 0, 1) := by decide +kernel
theorem dX7_leansActs_26 : decode cX7_leansActs 26 = .ok (.getfield 249, 3) := by decide +kernel
theorem dX7_leansActs_29 : decode cX7_leansActs 29 = .ok (.iconst 5, 1) := by decide +kernel
theorem dX7_leansActs_30 : decode cX7_leansActs 30 = .ok (.if_icmp .ne 20, 3) := by decide +kernel
theorem dX7_leansActs_33 : decode cX7_leansActs 33 = .ok (.aload_n 0, 1) := by decide +kernel
theorem dX7_leansActs_34 : decode cX7_leansActs 34 = .ok (.bipush 51, 2) := by decide +kernel
theorem dX7_leansActs_36 : decode cX7_leansActs 36 = .ok (.invokevirtual 243, 3) := by decide +kernel
theorem dX7_leansActs_39 : decode cX7_leansActs 39 = .ok (.aload_n 0, 1) := by decide +kernel
theorem dX7_leansActs_40 : decode cX7_leansActs 40 = .ok (.iload_n 1, 1) := by decide +kernel
theorem dX7_leansActs_41 : decode cX7_leansActs 41 = .ok (.invokevirtual 255, 3) := by decide +kernel
theorem dX7_leansActs_44 : decode cX7_leansActs 44 = .ok (.aload_n 0, 1) := by decide +kernel
theorem dX7_leansActs_45 : decode cX7_leansActs 45 = .ok (.getfield 246, 3) := by decide +kernel
theorem dX7_leansActs_48 : decode cX7_leansActs 48 = .ok (.ixor, 1) := by decide +kernel
theorem dX7_leansActs_49 : decode cX7_leansActs 49 = .ok (.ireturn, 1) := by decide +kernel
theorem dX7_leansActs_50 : decode cX7_leansActs 50 = .ok (.aload_n 0, 1) := by decide +kernel
theorem dX7_leansActs_51 : decode cX7_leansActs 51 = .ok (.iload_n 1, 1) := by decide +kernel
theorem dX7_leansActs_52 : decode cX7_leansActs 52 = .ok (.invokevirtual 255, 3) := by decide +kernel
theorem dX7_leansActs_55 : decode cX7_leansActs 55 = .ok (.ireturn, 1) := by decide +kernel
theorem dX7_plainHolds_0 : decode cX7_plainHolds 0 = .ok (.aload_n 0, 1) := by decide +kernel
theorem dX7_plainHolds_1 : decode cX7_plainHolds 1 = .ok (.iconst 2, 1) := by decide +kernel
theorem dX7_plainHolds_2 : decode cX7_plainHolds 2 = .ok (.invokevirtual 243, 3) := by decide +kernel
theorem dX7_plainHolds_5 : decode cX7_plainHolds 5 = .ok (.aload_n 0, 1) := by decide +kernel
theorem dX7_plainHolds_6 : decode cX7_plainHolds 6 = .ok (.iload_n 1, 1) := by decide +kernel
theorem dX7_plainHolds_7 : decode cX7_plainHolds 7 = .ok (.invokevirtual 258, 3) := by decide +kernel
theorem dX7_plainHolds_10 : decode cX7_plainHolds 10 = .ok (.aload_n 0, 1) := by decide +kernel
theorem dX7_plainHolds_11 : decode cX7_plainHolds 11 = .ok (.getfield 261, 3) := by decide +kernel
theorem dX7_plainHolds_14 : decode cX7_plainHolds 14 = .ok (.isub, 1) := by decide +kernel
theorem dX7_plainHolds_15 : decode cX7_plainHolds 15 = .ok (.ireturn, 1) := by decide +kernel
theorem dX7_holdsActs_0 : decode cX7_holdsActs 0 = .ok (.aload_n 0, 1) := by decide +kernel
theorem dX7_holdsActs_1 : decode cX7_holdsActs 1 = .ok (.getfield 249, 3) := by decide +kernel
theorem dX7_holdsActs_4 : decode cX7_holdsActs 4 = .ok (.iconst 2, 1) := by decide +kernel
theorem dX7_holdsActs_5 : decode cX7_holdsActs 5 = .ok (.invokestatic 252, 3) := by decide +kernel
theorem dX7_holdsActs_8 : decode cX7_holdsActs 8 = .ok (.ifCond .eq 16, 3) := by decide +kernel
theorem dX7_holdsActs_11 : decode cX7_holdsActs 11 = .ok (.aload_n 0, 1) := by decide +kernel
theorem dX7_holdsActs_12 : decode cX7_holdsActs 12 = .ok (.bipush 21, 2) := by decide +kernel
theorem dX7_holdsActs_14 : decode cX7_holdsActs 14 = .ok (.invokevirtual 243, 3) := by decide +kernel
theorem dX7_holdsActs_17 : decode cX7_holdsActs 17 = .ok (.aload_n 0, 1) := by decide +kernel
theorem dX7_holdsActs_18 : decode cX7_holdsActs 18 = .ok (.iload_n 1, 1) := by decide +kernel
theorem dX7_holdsActs_19 : decode cX7_holdsActs 19 = .ok (.invokevirtual 264, 3) := by decide +kernel
theorem dX7_holdsActs_22 : decode cX7_holdsActs 22 = .ok (.ineg, 1) := by decide +kernel
theorem dX7_holdsActs_23 : decode cX7_holdsActs 23 = .ok (.ireturn, 1) := by decide +kernel
theorem dX7_holdsActs_24 : decode cX7_holdsActs 24 = .ok (.aload_n 0, 1) := by decide +kernel
theorem dX7_holdsActs_25 : decode cX7_holdsActs 25 = .ok (.getfield 249, 3) := by decide +kernel
theorem dX7_holdsActs_28 : decode cX7_holdsActs 28 = .ok (.bipush 6, 2) := by decide +kernel
theorem dX7_holdsActs_30 : decode cX7_holdsActs 30 = .ok (.if_icmp .ne 20, 3) := by decide +kernel
theorem dX7_holdsActs_33 : decode cX7_holdsActs 33 = .ok (.aload_n 0, 1) := by decide +kernel
theorem dX7_holdsActs_34 : decode cX7_holdsActs 34 = .ok (.bipush 61, 2) := by decide +kernel
theorem dX7_holdsActs_36 : decode cX7_holdsActs 36 = .ok (.invokevirtual 243, 3) := by decide +kernel
theorem dX7_holdsActs_39 : decode cX7_holdsActs 39 = .ok (.aload_n 0, 1) := by decide +kernel
theorem dX7_holdsActs_40 : decode cX7_holdsActs 40 = .ok (.iload_n 1, 1) := by decide +kernel
theorem dX7_holdsActs_41 : decode cX7_holdsActs 41 = .ok (.invokevirtual 264, 3) := by decide +kernel
theorem dX7_holdsActs_44 : decode cX7_holdsActs 44 = .ok (.aload_n 0, 1) := by decide +kernel
theorem dX7_holdsActs_45 : decode cX7_holdsActs 45 = .ok (.getfield 261, 3) := by decide +kernel
theorem dX7_holdsActs_48 : decode cX7_holdsActs 48 = .ok (.iadd, 1) := by decide +kernel
theorem dX7_holdsActs_49 : decode cX7_holdsActs 49 = .ok (.ireturn, 1) := by decide +kernel
theorem dX7_holdsActs_50 : decode cX7_holdsActs 50 = .ok (.aload_n 0, 1) := by decide +kernel
theorem dX7_holdsActs_51 : decode cX7_holdsActs 51 = .ok (.iload_n 1, 1) := by decide +kernel
theorem dX7_holdsActs_52 : decode cX7_holdsActs 52 = .ok (.invokevirtual 264, 3) := by decide +kernel
theorem dX7_holdsActs_55 : decode cX7_holdsActs 55 = .ok (.ireturn, 1) := by decide +kernel
theorem dX7_plainTells_0 : decode cX7_plainTells 0 = .ok (.aload_n 0, 1) := by decide +kernel
theorem dX7_plainTells_1 : decode cX7_plainTells 1 = .ok (.iconst 3, 1) := by decide +kernel
theorem dX7_plainTells_2 : decode cX7_plainTells 2 = .ok (.invokevirtual 243, 3) := by decide +kernel
theorem dX7_plainTells_5 : decode cX7_plainTells 5 = .ok (.aload_n 0, 1) := by decide +kernel
theorem dX7_plainTells_6 : decode cX7_plainTells 6 = .ok (.iload_n 1, 1) := by decide +kernel
theorem dX7_plainTells_7 : decode cX7_plainTells 7 = .ok (.invokevirtual 267, 3) := by decide +kernel
theorem dX7_plainTells_10 : decode cX7_plainTells 10 = .ok (.iconst 2, 1) := by decide +kernel
theorem dX7_plainTells_11 : decode cX7_plainTells 11 = .ok (.imul, 1) := by decide +kernel
theorem dX7_plainTells_12 : decode cX7_plainTells 12 = .ok (.ireturn, 1) := by decide +kernel
theorem dX7_tellsActs_0 : decode cX7_tellsActs 0 = .ok (.aload_n 0, 1) := by decide +kernel
theorem dX7_tellsActs_1 : decode cX7_tellsActs 1 = .ok (.getfield 249, 3) := by decide +kernel
theorem dX7_tellsActs_4 : decode cX7_tellsActs 4 = .ok (.iconst 3, 1) := by decide +kernel
theorem dX7_tellsActs_5 : decode cX7_tellsActs 5 = .ok (.invokestatic 252, 3) := by decide +kernel
theorem dX7_tellsActs_8 : decode cX7_tellsActs 8 = .ok (.ifCond .eq 18, 3) := by decide +kernel
theorem dX7_tellsActs_11 : decode cX7_tellsActs 11 = .ok (.aload_n 0, 1) := by decide +kernel
theorem dX7_tellsActs_12 : decode cX7_tellsActs 12 = .ok (.bipush 31, 2) := by decide +kernel
theorem dX7_tellsActs_14 : decode cX7_tellsActs 14 = .ok (.invokevirtual 243, 3) := by decide +kernel
theorem dX7_tellsActs_17 : decode cX7_tellsActs 17 = .ok (.aload_n 0, 1) := by decide +kernel
theorem dX7_tellsActs_18 : decode cX7_tellsActs 18 = .ok (.iload_n 1, 1) := by decide +kernel
theorem dX7_tellsActs_19 : decode cX7_tellsActs 19 = .ok (.invokevirtual 270, 3) := by decide +kernel
theorem dX7_tellsActs_22 : decode cX7_tellsActs 22 = .ok (.bipush 7, 2) := by decide +kernel
theorem dX7_tellsActs_24 : decode cX7_tellsActs 24 = .ok (.ixor, 1) := by decide +kernel
theorem dX7_tellsActs_25 : decode cX7_tellsActs 25 = .ok (.ireturn, 1) := by decide +kernel
theorem dX7_tellsActs_26 : decode cX7_tellsActs 26 = .ok (.aload_n 0, 1) := by decide +kernel
theorem dX7_tellsActs_27 : decode cX7_tellsActs 27 = .ok (.getfield 249, 3) := by decide +kernel
theorem dX7_tellsActs_30 : decode cX7_tellsActs 30 = .ok (.iconst 4, 1) := by decide +kernel
theorem dX7_tellsActs_31 : decode cX7_tellsActs 31 = .ok (.if_icmp .ne 25, 3) := by decide +kernel
theorem dX7_tellsActs_34 : decode cX7_tellsActs 34 = .ok (.aload_n 0, 1) := by decide +kernel
theorem dX7_tellsActs_35 : decode cX7_tellsActs 35 = .ok (.bipush 41, 2) := by decide +kernel
theorem dX7_tellsActs_37 : decode cX7_tellsActs 37 = .ok (.invokevirtual 243, 3) := by decide +kernel
theorem dX7_tellsActs_40 : decode cX7_tellsActs 40 = .ok (.aload_n 0, 1) := by decide +kernel
theorem dX7_tellsActs_41 : decode cX7_tellsActs 41 = .ok (.iload_n 1, 1) := by decide +kernel
theorem dX7_tellsActs_42 : decode cX7_tellsActs 42 = .ok (.iconst 1, 1) := by decide +kernel
theorem dX7_tellsActs_43 : decode cX7_tellsActs 43 = .ok (.isub, 1) := by decide +kernel
theorem dX7_tellsActs_44 : decode cX7_tellsActs 44 = .ok (.invokevirtual 270, 3) := by decide +kernel
theorem dX7_tellsActs_47 : decode cX7_tellsActs 47 = .ok (.istore_n 2, 1) := by decide +kernel
theorem dX7_tellsActs_48 : decode cX7_tellsActs 48 = .ok (.iload_n 2, 1) := by decide +kernel
theorem dX7_tellsActs_49 : decode cX7_tellsActs 49 = .ok (.aload_n 0, 1) := by decide +kernel
theorem dX7_tellsActs_50 : decode cX7_tellsActs 50 = .ok (.iconst 2, 1) := by decide +kernel
theorem dX7_tellsActs_51 : decode cX7_tellsActs 51 = .ok (.invokevirtual 258, 3) := by decide +kernel
theorem dX7_tellsActs_54 : decode cX7_tellsActs 54 = .ok (.iadd, 1) := by decide +kernel
theorem dX7_tellsActs_55 : decode cX7_tellsActs 55 = .ok (.ireturn, 1) := by decide +kernel
theorem dX7_tellsActs_56 : decode cX7_tellsActs 56 = .ok (.aload_n 0, 1) := by decide +kernel
theorem dX7_tellsActs_57 : decode cX7_tellsActs 57 = .ok (.iload_n 1, 1) := by decide +kernel
theorem dX7_tellsActs_58 : decode cX7_tellsActs 58 = .ok (.invokevirtual 270, 3) := by decide +kernel
theorem dX7_tellsActs_61 : decode cX7_tellsActs 61 = .ok (.ireturn, 1) := by decide +kernel
theorem dX7_act_0 : decode cX7_act 0 = .ok (.aload_n 0, 1) := by decide +kernel
theorem dX7_act_1 : decode cX7_act 1 = .ok (.iconst 0, 1) := by decide +kernel
theorem dX7_act_2 : decode cX7_act 2 = .ok (.putfield 240, 3) := by decide +kernel
theorem dX7_act_5 : decode cX7_act 5 = .ok (.aload_n 0, 1) := by decide +kernel
theorem dX7_act_6 : decode cX7_act 6 = .ok (.iload_n 1, 1) := by decide +kernel
theorem dX7_act_7 : decode cX7_act 7 = .ok (.invokevirtual 138, 3) := by decide +kernel
theorem dX7_act_10 : decode cX7_act 10 = .ok (.ifCond .eq 12, 3) := by decide +kernel
theorem dX7_act_13 : decode cX7_act 13 = .ok (.iload_n 2, 1) := by decide +kernel
theorem dX7_act_14 : decode cX7_act 14 = .ok (.iconst 0, 1) := by decide +kernel
theorem dX7_act_15 : decode cX7_act 15 = .ok (.iconst 2, 1) := by decide +kernel
theorem dX7_act_16 : decode cX7_act 16 = .ok (.invokestatic 41, 3) := by decide +kernel
theorem dX7_act_19 : decode cX7_act 19 = .ok (.ifCond .ne 5, 3) := by decide +kernel
theorem dX7_act_22 : decode cX7_act 22 = .ok (.iconst 0, 1) := by decide +kernel
theorem dX7_act_23 : decode cX7_act 23 = .ok (.ireturn, 1) := by decide +kernel
theorem dX7_act_24 : decode cX7_act 24 = .ok (.aload_n 0, 1) := by decide +kernel
theorem dX7_act_25 : decode cX7_act 25 = .ok (.aload_n 0, 1) := by decide +kernel
theorem dX7_act_26 : decode cX7_act 26 = .ok (.getfield 9, 3) := by decide +kernel
theorem dX7_act_29 : decode cX7_act 29 = .ok (.bipush 110, 2) := by decide +kernel
theorem dX7_act_31 : decode cX7_act 31 = .ok (.iload_n 1, 1) := by decide +kernel
theorem dX7_act_32 : decode cX7_act 32 = .ok (.iadd, 1) := by decide +kernel
theorem dX7_act_33 : decode cX7_act 33 = .ok (.iaload, 1) := by decide +kernel
theorem dX7_act_34 : decode cX7_act 34 = .ok (.putfield 249, 3) := by decide +kernel
theorem dX7_act_37 : decode cX7_act 37 = .ok (.aload_n 0, 1) := by decide +kernel
theorem dX7_act_38 : decode cX7_act 38 = .ok (.iload_n 1, 1) := by decide +kernel
theorem dX7_act_39 : decode cX7_act 39 = .ok (.putfield 246, 3) := by decide +kernel
theorem dX7_act_42 : decode cX7_act 42 = .ok (.aload_n 0, 1) := by decide +kernel
theorem dX7_act_43 : decode cX7_act 43 = .ok (.aload_n 0, 1) := by decide +kernel
theorem dX7_act_44 : decode cX7_act 44 = .ok (.getfield 9, 3) := by decide +kernel
theorem dX7_act_47 : decode cX7_act 47 = .ok (.bipush 116, 2) := by decide +kernel
theorem dX7_act_49 : decode cX7_act 49 = .ok (.iload_n 1, 1) := by decide +kernel
theorem dX7_act_50 : decode cX7_act 50 = .ok (.iadd, 1) := by decide +kernel
theorem dX7_act_51 : decode cX7_act 51 = .ok (.iaload, 1) := by decide +kernel
theorem dX7_act_52 : decode cX7_act 52 = .ok (.putfield 261, 3) := by decide +kernel
theorem dX7_act_55 : decode cX7_act 55 = .ok (.iload_n 2, 1) := by decide +kernel
theorem dX7_act_56 : decode cX7_act 56 = .ok (.ifCond .ne 11, 3) := by decide +kernel
theorem dX7_act_59 : decode cX7_act 59 = .ok (.aload_n 0, 1) := by decide +kernel
theorem dX7_act_60 : decode cX7_act 60 = .ok (.iload_n 3, 1) := by decide +kernel
theorem dX7_act_61 : decode cX7_act 61 = .ok (.invokevirtual 258, 3) := by decide +kernel
theorem dX7_act_64 : decode cX7_act 64 = .ok (.goto 21, 3) := by decide +kernel
theorem dX7_act_67 : decode cX7_act 67 = .ok (.iload_n 2, 1) := by decide +kernel
theorem dX7_act_68 : decode cX7_act 68 = .ok (.iconst 1, 1) := by decide +kernel
theorem dX7_act_69 : decode cX7_act 69 = .ok (.if_icmp .ne 11, 3) := by decide +kernel
theorem dX7_act_72 : decode cX7_act 72 = .ok (.aload_n 0, 1) := by decide +kernel
theorem dX7_act_73 : decode cX7_act 73 = .ok (.iload_n 3, 1) := by decide +kernel
theorem dX7_act_74 : decode cX7_act 74 = .ok (.invokevirtual 267, 3) := by decide +kernel
theorem dX7_act_77 : decode cX7_act 77 = .ok (.goto 8, 3) := by decide +kernel
theorem dX7_act_80 : decode cX7_act 80 = .ok (.aload_n 0, 1) := by decide +kernel
theorem dX7_act_81 : decode cX7_act 81 = .ok (.iload_n 3, 1) := by decide +kernel
theorem dX7_act_82 : decode cX7_act 82 = .ok (.invokevirtual 273, 3) := by decide +kernel
theorem dX7_act_85 : decode cX7_act 85 = .ok (.ireturn, 1) := by decide +kernel
theorem dX7_trace_0 : decode cX7_trace 0 = .ok (.iload_n 1, 1) := by decide +kernel
theorem dX7_trace_1 : decode cX7_trace 1 = .ok (.iconst 0, 1) := by decide +kernel
theorem dX7_trace_2 : decode cX7_trace 2 = .ok (.aload_n 0, 1) := by decide +kernel
theorem dX7_trace_3 : decode cX7_trace 3 = .ok (.getfield 240, 3) := by decide +kernel
theorem dX7_trace_6 : decode cX7_trace 6 = .ok (.bipush 20, 2) := by decide +kernel
theorem dX7_trace_8 : decode cX7_trace 8 = .ok (.if_icmp .ge 10, 3) := by decide +kernel
theorem dX7_trace_11 : decode cX7_trace 11 = .ok (.aload_n 0, 1) := by decide +kernel
theorem dX7_trace_12 : decode cX7_trace 12 = .ok (.getfield 240, 3) := by decide +kernel
theorem dX7_trace_15 : decode cX7_trace 15 = .ok (.goto 5, 3) := by decide +kernel
theorem dX7_trace_18 : decode cX7_trace 18 = .ok (.bipush 20, 2) := by decide +kernel
theorem dX7_trace_20 : decode cX7_trace 20 = .ok (.iconst 1, 1) := by decide +kernel
theorem dX7_trace_21 : decode cX7_trace 21 = .ok (.isub, 1) := by decide +kernel
theorem dX7_trace_22 : decode cX7_trace 22 = .ok (.invokestatic 41, 3) := by decide +kernel
theorem dX7_trace_25 : decode cX7_trace 25 = .ok (.ifCond .eq 12, 3) := by decide +kernel
theorem dX7_trace_28 : decode cX7_trace 28 = .ok (.aload_n 0, 1) := by decide +kernel
theorem dX7_trace_29 : decode cX7_trace 29 = .ok (.getfield 34, 3) := by decide +kernel
theorem dX7_trace_32 : decode cX7_trace 32 = .ok (.iload_n 1, 1) := by decide +kernel
theorem dX7_trace_33 : decode cX7_trace 33 = .ok (.iaload, 1) := by decide +kernel
theorem dX7_trace_34 : decode cX7_trace 34 = .ok (.goto 4, 3) := by decide +kernel
theorem dX7_trace_37 : decode cX7_trace 37 = .ok (.iconst (-1), 1) := by decide +kernel
theorem dX7_trace_38 : decode cX7_trace 38 = .ok (.ireturn, 1) := by decide +kernel
theorem dX7_as_0 : decode cX7_as 0 = .ok (.aload_n 0, 1) := by decide +kernel
theorem dX7_as_1 : decode cX7_as 1 = .ok (.iload_n 1, 1) := by decide +kernel
theorem dX7_as_2 : decode cX7_as 2 = .ok (.invokevirtual 138, 3) := by decide +kernel
theorem dX7_as_5 : decode cX7_as 5 = .ok (.ifCond .eq 13, 3) := by decide +kernel
theorem dX7_as_8 : decode cX7_as 8 = .ok (.iload_n 2, 1) := by decide +kernel
theorem dX7_as_9 : decode cX7_as 9 = .ok (.iconst 0, 1) := by decide +kernel
theorem dX7_as_10 : decode cX7_as 10 = .ok (.bipush 6, 2) := by decide +kernel
theorem dX7_as_12 : decode cX7_as 12 = .ok (.invokestatic 41, 3) := by decide +kernel
theorem dX7_as_15 : decode cX7_as 15 = .ok (.ifCond .ne 5, 3) := by decide +kernel
theorem dX7_as_18 : decode cX7_as 18 = .ok (.iconst (-1), 1) := by decide +kernel
theorem dX7_as_19 : decode cX7_as 19 = .ok (.ireturn, 1) := by decide +kernel
theorem dX7_as_20 : decode cX7_as 20 = .ok (.aload_n 0, 1) := by decide +kernel
theorem dX7_as_21 : decode cX7_as 21 = .ok (.getfield 9, 3) := by decide +kernel
theorem dX7_as_24 : decode cX7_as 24 = .ok (.bipush 110, 2) := by decide +kernel
theorem dX7_as_26 : decode cX7_as 26 = .ok (.iload_n 1, 1) := by decide +kernel
theorem dX7_as_27 : decode cX7_as 27 = .ok (.iadd, 1) := by decide +kernel
theorem dX7_as_28 : decode cX7_as 28 = .ok (.iaload, 1) := by decide +kernel
theorem dX7_as_29 : decode cX7_as 29 = .ok (.iload_n 2, 1) := by decide +kernel
theorem dX7_as_30 : decode cX7_as 30 = .ok (.invokestatic 252, 3) := by decide +kernel
theorem dX7_as_33 : decode cX7_as 33 = .ok (.ifCond .eq 15, 3) := by decide +kernel
theorem dX7_as_36 : decode cX7_as 36 = .ok (.aload_n 0, 1) := by decide +kernel
theorem dX7_as_37 : decode cX7_as 37 = .ok (.getfield 9, 3) := by decide +kernel
theorem dX7_as_40 : decode cX7_as 40 = .ok (.bipush 116, 2) := by decide +kernel
theorem dX7_as_42 : decode cX7_as 42 = .ok (.iload_n 1, 1) := by decide +kernel
theorem dX7_as_43 : decode cX7_as 43 = .ok (.iadd, 1) := by decide +kernel
theorem dX7_as_44 : decode cX7_as 44 = .ok (.iaload, 1) := by decide +kernel
theorem dX7_as_45 : decode cX7_as 45 = .ok (.goto 5, 3) := by decide +kernel
theorem dX7_as_48 : decode cX7_as 48 = .ok (.bipush (-6), 2) := by decide +kernel
theorem dX7_as_50 : decode cX7_as 50 = .ok (.ireturn, 1) := by decide +kernel
theorem dX7_image_0 : decode cX7_image 0 = .ok (.iconst 0, 1) := by decide +kernel
theorem dX7_image_1 : decode cX7_image 1 = .ok (.istore_n 1, 1) := by decide +kernel
theorem dX7_image_2 : decode cX7_image 2 = .ok (.iload_n 1, 1) := by decide +kernel
theorem dX7_image_3 : decode cX7_image 3 = .ok (.sipush 979, 3) := by decide +kernel
theorem dX7_image_6 : decode cX7_image 6 = .ok (.if_icmp .ge 21, 3) := by decide +kernel
theorem dX7_image_9 : decode cX7_image 9 = .ok (.aload_n 0, 1) := by decide +kernel
theorem dX7_image_10 : decode cX7_image 10 = .ok (.getfield 15, 3) := by decide +kernel
theorem dX7_image_13 : decode cX7_image 13 = .ok (.iload_n 1, 1) := by decide +kernel
theorem dX7_image_14 : decode cX7_image 14 = .ok (.aload_n 0, 1) := by decide +kernel
theorem dX7_image_15 : decode cX7_image 15 = .ok (.getfield 9, 3) := by decide +kernel
theorem dX7_image_18 : decode cX7_image 18 = .ok (.iload_n 1, 1) := by decide +kernel
theorem dX7_image_19 : decode cX7_image 19 = .ok (.iaload, 1) := by decide +kernel
theorem dX7_image_20 : decode cX7_image 20 = .ok (.iastore, 1) := by decide +kernel
theorem dX7_image_21 : decode cX7_image 21 = .ok (.iinc 1 1, 3) := by decide +kernel
theorem dX7_image_24 : decode cX7_image 24 = .ok (.goto (-22), 3) := by decide +kernel
theorem dX7_image_27 : decode cX7_image 27 = .ok (.aload_n 0, 1) := by decide +kernel
theorem dX7_image_28 : decode cX7_image 28 = .ok (.iconst 1, 1) := by decide +kernel
theorem dX7_image_29 : decode cX7_image 29 = .ok (.putfield 276, 3) := by decide +kernel
theorem dX7_image_32 : decode cX7_image 32 = .ok (.aload_n 0, 1) := by decide +kernel
theorem dX7_image_33 : decode cX7_image 33 = .ok (.getfield 9, 3) := by decide +kernel
theorem dX7_image_36 : decode cX7_image 36 = .ok (.iconst 0, 1) := by decide +kernel
theorem dX7_image_37 : decode cX7_image 37 = .ok (.iaload, 1) := by decide +kernel
theorem dX7_image_38 : decode cX7_image 38 = .ok (.ireturn, 1) := by decide +kernel
theorem dX7_undo_0 : decode cX7_undo 0 = .ok (.aload_n 0, 1) := by decide +kernel
theorem dX7_undo_1 : decode cX7_undo 1 = .ok (.getfield 276, 3) := by decide +kernel
theorem dX7_undo_4 : decode cX7_undo 4 = .ok (.ifCond .ne 6, 3) := by decide +kernel
theorem dX7_undo_7 : decode cX7_undo 7 = .ok (.bipush (-3), 2) := by decide +kernel
theorem dX7_undo_9 : decode cX7_undo 9 = .ok (.ireturn, 1) := by decide +kernel
theorem dX7_undo_10 : decode cX7_undo 10 = .ok (.iconst 0, 1) := by decide +kernel
theorem dX7_undo_11 : decode cX7_undo 11 = .ok (.istore_n 1, 1) := by decide +kernel
theorem dX7_undo_12 : decode cX7_undo 12 = .ok (.iload_n 1, 1) := by decide +kernel
theorem dX7_undo_13 : decode cX7_undo 13 = .ok (.sipush 979, 3) := by decide +kernel
theorem dX7_undo_16 : decode cX7_undo 16 = .ok (.if_icmp .ge 21, 3) := by decide +kernel
theorem dX7_undo_19 : decode cX7_undo 19 = .ok (.aload_n 0, 1) := by decide +kernel
theorem dX7_undo_20 : decode cX7_undo 20 = .ok (.getfield 9, 3) := by decide +kernel
theorem dX7_undo_23 : decode cX7_undo 23 = .ok (.iload_n 1, 1) := by decide +kernel
theorem dX7_undo_24 : decode cX7_undo 24 = .ok (.aload_n 0, 1) := by decide +kernel
theorem dX7_undo_25 : decode cX7_undo 25 = .ok (.getfield 15, 3) := by decide +kernel
theorem dX7_undo_28 : decode cX7_undo 28 = .ok (.iload_n 1, 1) := by decide +kernel
theorem dX7_undo_29 : decode cX7_undo 29 = .ok (.iaload, 1) := by decide +kernel
theorem dX7_undo_30 : decode cX7_undo 30 = .ok (.iastore, 1) := by decide +kernel
theorem dX7_undo_31 : decode cX7_undo 31 = .ok (.iinc 1 1, 3) := by decide +kernel
theorem dX7_undo_34 : decode cX7_undo 34 = .ok (.goto (-22), 3) := by decide +kernel
theorem dX7_undo_37 : decode cX7_undo 37 = .ok (.aload_n 0, 1) := by decide +kernel
theorem dX7_undo_38 : decode cX7_undo 38 = .ok (.getfield 9, 3) := by decide +kernel
theorem dX7_undo_41 : decode cX7_undo 41 = .ok (.iconst 0, 1) := by decide +kernel
theorem dX7_undo_42 : decode cX7_undo 42 = .ok (.iaload, 1) := by decide +kernel
theorem dX7_undo_43 : decode cX7_undo 43 = .ok (.ireturn, 1) := by decide +kernel
theorem dX7_count_0 : decode cX7_count 0 = .ok (.iload_n 1, 1) := by decide +kernel
theorem dX7_count_1 : decode cX7_count 1 = .ok (.tableswitch 77 0 5 #[39, 46, 53, 60, 67, 72], 39) := by decide +kernel
theorem dX7_count_40 : decode cX7_count 40 = .ok (.aload_n 0, 1) := by decide +kernel
theorem dX7_count_41 : decode cX7_count 41 = .ok (.getfield 9, 3) := by decide +kernel
theorem dX7_count_44 : decode cX7_count 44 = .ok (.iconst 0, 1) := by decide +kernel
theorem dX7_count_45 : decode cX7_count 45 = .ok (.iaload, 1) := by decide +kernel
theorem dX7_count_46 : decode cX7_count 46 = .ok (.ireturn, 1) := by decide +kernel
theorem dX7_count_47 : decode cX7_count 47 = .ok (.aload_n 0, 1) := by decide +kernel
theorem dX7_count_48 : decode cX7_count 48 = .ok (.getfield 9, 3) := by decide +kernel
theorem dX7_count_51 : decode cX7_count 51 = .ok (.iconst 1, 1) := by decide +kernel
theorem dX7_count_52 : decode cX7_count 52 = .ok (.iaload, 1) := by decide +kernel
theorem dX7_count_53 : decode cX7_count 53 = .ok (.ireturn, 1) := by decide +kernel
theorem dX7_count_54 : decode cX7_count 54 = .ok (.aload_n 0, 1) := by decide +kernel
theorem dX7_count_55 : decode cX7_count 55 = .ok (.getfield 9, 3) := by decide +kernel
theorem dX7_count_58 : decode cX7_count 58 = .ok (.iconst 2, 1) := by decide +kernel
theorem dX7_count_59 : decode cX7_count 59 = .ok (.iaload, 1) := by decide +kernel
theorem dX7_count_60 : decode cX7_count 60 = .ok (.ireturn, 1) := by decide +kernel
theorem dX7_count_61 : decode cX7_count 61 = .ok (.aload_n 0, 1) := by decide +kernel
theorem dX7_count_62 : decode cX7_count 62 = .ok (.getfield 9, 3) := by decide +kernel
theorem dX7_count_65 : decode cX7_count 65 = .ok (.iconst 3, 1) := by decide +kernel
theorem dX7_count_66 : decode cX7_count 66 = .ok (.iaload, 1) := by decide +kernel
theorem dX7_count_67 : decode cX7_count 67 = .ok (.ireturn, 1) := by decide +kernel
theorem dX7_count_68 : decode cX7_count 68 = .ok (.aload_n 0, 1) := by decide +kernel
theorem dX7_count_69 : decode cX7_count 69 = .ok (.getfield 240, 3) := by decide +kernel
theorem dX7_count_72 : decode cX7_count 72 = .ok (.ireturn, 1) := by decide +kernel
theorem dX7_count_73 : decode cX7_count 73 = .ok (.aload_n 0, 1) := by decide +kernel
theorem dX7_count_74 : decode cX7_count 74 = .ok (.invokevirtual 237, 3) := by decide +kernel
theorem dX7_count_77 : decode cX7_count 77 = .ok (.ireturn, 1) := by decide +kernel
theorem dX7_count_78 : decode cX7_count 78 = .ok (.iconst (-1), 1) := by decide +kernel
theorem dX7_count_79 : decode cX7_count 79 = .ok (.ireturn, 1) := by decide +kernel
