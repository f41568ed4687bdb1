theorem dX5_next_59 : decode cX5_next 59 = .ok (.aload_n 0, 1) := by decide +kernel
theorem dX5_next_60 : decode cX5_next 60 = .ok (.getfield 44, 3) := by decide +kernel
theorem dX5_next_63 : decode cX5_next 63 = .ok (.iload_n 1, 1) := by decide +kernel
theorem dX5_next_64 : decode cX5_next 64 = .ok (.aload_n 0, 1) := by decide +kernel
theorem dX5_next_65 : decode cX5_next 65 = .ok (.iload_n 1, 1) := by decide +kernel
theorem dX5_next_66 : decode cX5_next 66 = .ok (.invokevirtual 116, 3) := by decide +kernel
theorem dX5_next_69 : decode cX5_next 69 = .ok (.ifCond .eq 15, 3) := by decide +kernel
theorem dX5_next_72 : decode cX5_next 72 = .ok (.aload_n 0, 1) := by decide +kernel
theorem dX5_next_73 : decode cX5_next 73 = .ok (.getfield 41, 3) := by decide +kernel
theorem dX5_next_76 : decode cX5_next 76 = .ok (.iload_n 1, 1) := by decide +kernel
theorem dX5_next_77 : decode cX5_next 77 = .ok (.iaload, 1) := by decide +kernel
theorem dX5_next_78 : decode cX5_next 78 = .ok (.invokestatic 132, 3) := by decide +kernel
theorem dX5_next_81 : decode cX5_next 81 = .ok (.goto 4, 3) := by decide +kernel
theorem dX5_next_84 : decode cX5_next 84 = .ok (.iconst 0, 1) := by decide +kernel
theorem dX5_next_85 : decode cX5_next 85 = .ok (.iastore, 1) := by decide +kernel
theorem dX5_next_86 : decode cX5_next 86 = .ok (.iinc 1 (-1), 3) := by decide +kernel
theorem dX5_next_89 : decode cX5_next 89 = .ok (.goto (-87), 3) := by decide +kernel
theorem dX5_next_92 : decode cX5_next 92 = .ok (.iconst 0, 1) := by decide +kernel
theorem dX5_next_93 : decode cX5_next 93 = .ok (.ireturn, 1) := by decide +kernel
theorem dX5_layBest_0 : decode cX5_layBest 0 = .ok (.iconst 0, 1) := by decide +kernel
theorem dX5_layBest_1 : decode cX5_layBest 1 = .ok (.istore_n 2, 1) := by decide +kernel
theorem dX5_layBest_2 : decode cX5_layBest 2 = .ok (.aload_n 0, 1) := by decide +kernel
theorem dX5_layBest_3 : decode cX5_layBest 3 = .ok (.invokevirtual 135, 3) := by decide +kernel
theorem dX5_layBest_6 : decode cX5_layBest 6 = .ok (.iconst 1, 1) := by decide +kernel
theorem dX5_layBest_7 : decode cX5_layBest 7 = .ok (.istore_n 3, 1) := by decide +kernel
theorem dX5_layBest_8 : decode cX5_layBest 8 = .ok (.iload_n 3, 1) := by decide +kernel
theorem dX5_layBest_9 : decode cX5_layBest 9 = .ok (.ifCond .eq 119, 3) := by decide +kernel
theorem dX5_layBest_12 : decode cX5_layBest 12 = .ok (.aload_n 0, 1) := by decide +kernel
theorem dX5_layBest_13 : decode cX5_layBest 13 = .ok (.invokevirtual 122, 3) := by decide +kernel
theorem dX5_layBest_16 : decode cX5_layBest 16 = .ok (.istore 4, 2) := by decide +kernel
theorem dX5_layBest_18 : decode cX5_layBest 18 = .ok (.aload_n 0, 1) := by decide +kernel
theorem dX5_layBest_19 : decode cX5_layBest 19 = .ok (.invokevirtual 125, 3) := by decide +kernel
theorem dX5_layBest_22 : decode cX5_layBest 22 = .ok (.iload_n 1, 1) := by decide +kernel
theorem dX5_layBest_23 : decode cX5_layBest 23 = .ok (.invokestatic 128, 3) := by decide +kernel
theorem dX5_layBest_26 : decode cX5_layBest 26 = .ok (.istore 5, 2) := by decide +kernel
theorem dX5_layBest_28 : decode cX5_layBest 28 = .ok (.iload 4, 2) := by decide +kernel
theorem dX5_layBest_30 : decode cX5_layBest 30 = .ok (.ifCond .eq 90, 3) := by decide +kernel
theorem dX5_layBest_33 : decode cX5_layBest 33 = .ok (.iload_n 2, 1) := by decide +kernel
theorem dX5_layBest_34 : decode cX5_layBest 34 = .ok (.ifCond .eq 42, 3) := by decide +kernel
theorem dX5_layBest_37 : decode cX5_layBest 37 = .ok (.iload 5, 2) := by decide +kernel
theorem dX5_layBest_39 : decode cX5_layBest 39 = .ok (.invokestatic 138, 3) := by decide +kernel
theorem dX5_layBest_42 : decode cX5_layBest 42 = .ok (.aload_n 0, 1) := by decide +kernel
theorem dX5_layBest_43 : decode cX5_layBest 43 = .ok (.getfield 141, 3) := by decide +kernel
theorem dX5_layBest_46 : decode cX5_layBest 46 = .ok (.invokestatic 138, 3) := by decide +kernel
theorem dX5_layBest_49 : decode cX5_layBest 49 = .ok (.if_icmp .lt 27, 3) := by decide +kernel
theorem dX5_layBest_52 : decode cX5_layBest 52 = .ok (.iload 5, 2) := by decide +kernel
theorem dX5_layBest_54 : decode cX5_layBest 54 = .ok (.invokestatic 138, 3) := by decide +kernel
theorem dX5_layBest_57 : decode cX5_layBest 57 = .ok (.aload_n 0, 1) := by decide +kernel
theorem dX5_layBest_58 : decode cX5_layBest 58 = .ok (.getfield 141, 3) := by decide +kernel
theorem dX5_layBest_61 : decode cX5_layBest 61 = .ok (.invokestatic 138, 3) := by decide +kernel
theorem dX5_layBest_64 : decode cX5_layBest 64 = .ok (.if_icmp .ne 56, 3) := by decide +kernel
theorem dX5_layBest_67 : decode cX5_layBest 67 = .ok (.iload 5, 2) := by decide +kernel
theorem dX5_layBest_69 : decode cX5_layBest 69 = .ok (.aload_n 0, 1) := by decide +kernel
theorem dX5_layBest_70 : decode cX5_layBest 70 = .ok (.getfield 141, 3) := by decide +kernel
theorem dX5_layBest_73 : decode cX5_layBest 73 = .ok (.if_icmp .ge 47, 3) := by decide +kernel
theorem dX5_layBest_76 : decode cX5_layBest 76 = .ok (.iconst 1, 1) := by decide +kernel
theorem dX5_layBest_77 : decode cX5_layBest 77 = .ok (.istore_n 2, 1) := by decide +kernel
theorem dX5_layBest_78 : decode cX5_layBest 78 = .ok (.aload_n 0, 1) := by decide +kernel
theorem dX5_layBest_79 : decode cX5_layBest 79 = .ok (.iload 5, 2) := by decide +kernel
theorem dX5_layBest_81 : decode cX5_layBest 81 = .ok (.putfield 141, 3) := by decide +kernel
theorem dX5_layBest_84 : decode cX5_layBest 84 = .ok (.aload_n 0, 1) := by decide +kernel
theorem dX5_layBest_85 : decode cX5_layBest 85 = .ok (.iload 4, 2) := by decide +kernel
theorem dX5_layBest_87 : decode cX5_layBest 87 = .ok (.putfield 144, 3) := by decide +kernel
theorem dX5_layBest_90 : decode cX5_layBest 90 = .ok (.iconst 0, 1) := by decide +kernel
theorem dX5_layBest_91 : decode cX5_layBest 91 = .ok (.istore 6, 2) := by decide +kernel
theorem dX5_layBest_93 : decode cX5_layBest 93 = .ok (.iload 6, 2) := by decide +kernel
theorem dX5_layBest_95 : decode cX5_layBest 95 = .ok (.bipush 6, 2) := by decide +kernel
theorem dX5_layBest_97 : decode cX5_layBest 97 = .ok (.if_icmp .ge 23, 3) := by decide +kernel
theorem dX5_layBest_100 : decode cX5_layBest 100 = .ok (.aload_n 0, 1) := by decide +kernel
theorem dX5_layBest_101 : decode cX5_layBest 101 = .ok (.getfield 47, 3) := by decide +kernel
theorem dX5_layBest_104 : decode cX5_layBest 104 = .ok (.iload 6, 2) := by decide +kernel
theorem dX5_layBest_106 : decode cX5_layBest 106 = .ok (.aload_n 0, 1) := by decide +kernel
theorem dX5_layBest_107 : decode cX5_layBest 107 = .ok (.getfield 44, 3) := by decide +kernel
theorem dX5_layBest_110 : decode cX5_layBest 110 = .ok (.iload 6, 2) := by decide +kernel
theorem dX5_layBest_112 : decode cX5_layBest 112 = .ok (.iaload, 1) := by decide +kernel
theorem dX5_layBest_113 : decode cX5_layBest 113 = .ok (.iastore, 1) := by decide +kernel
theorem dX5_layBest_114 : decode cX5_layBest 114 = .ok (.iinc 6 1, 3) := by decide +kernel
theorem dX5_layBest_117 : decode cX5_layBest 117 = .ok (.goto (-24), 3) := by decide +kernel
theorem dX5_layBest_120 : decode cX5_layBest 120 = .ok (.aload_n 0, 1) := by decide +kernel
theorem dX5_layBest_121 : decode cX5_layBest 121 = .ok (.invokevirtual 147, 3) := by decide +kernel
theorem dX5_layBest_124 : decode cX5_layBest 124 = .ok (.istore_n 3, 1) := by decide +kernel
theorem dX5_layBest_125 : decode cX5_layBest 125 = .ok (.goto (-117), 3) := by decide +kernel
theorem dX5_layBest_128 : decode cX5_layBest 128 = .ok (.iload_n 2, 1) := by decide +kernel
theorem dX5_layBest_129 : decode cX5_layBest 129 = .ok (.ireturn, 1) := by decide +kernel
theorem dX5_best_0 : decode cX5_best 0 = .ok (.iload_n 2, 1) := by decide +kernel
theorem dX5_best_1 : decode cX5_best 1 = .ok (.bipush (-2), 2) := by decide +kernel
theorem dX5_best_3 : decode cX5_best 3 = .ok (.iconst 5, 1) := by decide +kernel
theorem dX5_best_4 : decode cX5_best 4 = .ok (.invokestatic 69, 3) := by decide +kernel
theorem dX5_best_7 : decode cX5_best 7 = .ok (.ifCond .ne 5, 3) := by decide +kernel
theorem dX5_best_10 : decode cX5_best 10 = .ok (.iconst (-1), 1) := by decide +kernel
theorem dX5_best_11 : decode cX5_best 11 = .ok (.ireturn, 1) := by decide +kernel
theorem dX5_best_12 : decode cX5_best 12 = .ok (.iload_n 1, 1) := by decide +kernel
theorem dX5_best_13 : decode cX5_best 13 = .ok (.iconst 0, 1) := by decide +kernel
theorem dX5_best_14 : decode cX5_best 14 = .ok (.iconst 2, 1) := by decide +kernel
theorem dX5_best_15 : decode cX5_best 15 = .ok (.invokestatic 69, 3) := by decide +kernel
theorem dX5_best_18 : decode cX5_best 18 = .ok (.ifCond .ne 6, 3) := by decide +kernel
theorem dX5_best_21 : decode cX5_best 21 = .ok (.bipush (-2), 2) := by decide +kernel
theorem dX5_best_23 : decode cX5_best 23 = .ok (.ireturn, 1) := by decide +kernel
theorem dX5_best_24 : decode cX5_best 24 = .ok (.aload_n 0, 1) := by decide +kernel
theorem dX5_best_25 : decode cX5_best 25 = .ok (.invokevirtual 113, 3) := by decide +kernel
theorem dX5_best_28 : decode cX5_best 28 = .ok (.aload_n 0, 1) := by decide +kernel
theorem dX5_best_29 : decode cX5_best 29 = .ok (.iload_n 1, 1) := by decide +kernel
theorem dX5_best_30 : decode cX5_best 30 = .ok (.invokevirtual 151, 3) := by decide +kernel
theorem dX5_best_33 : decode cX5_best 33 = .ok (.ifCond .ne 6, 3) := by decide +kernel
theorem dX5_best_36 : decode cX5_best 36 = .ok (.bipush (-6), 2) := by decide +kernel
theorem dX5_best_38 : decode cX5_best 38 = .ok (.ireturn, 1) := by decide +kernel
theorem dX5_best_39 : decode cX5_best 39 = .ok (.iload_n 2, 1) := by decide +kernel
theorem dX5_best_40 : decode cX5_best 40 = .ok (.iconst (-1), 1) := by decide +kernel
theorem dX5_best_41 : decode cX5_best 41 = .ok (.if_icmp .ne 10, 3) := by decide +kernel
theorem dX5_best_44 : decode cX5_best 44 = .ok (.aload_n 0, 1) := by decide +kernel
theorem dX5_best_45 : decode cX5_best 45 = .ok (.getfield 141, 3) := by decide +kernel
theorem dX5_best_48 : decode cX5_best 48 = .ok (.goto 35, 3) := by decide +kernel
theorem dX5_best_51 : decode cX5_best 51 = .ok (.iload_n 2, 1) := by decide +kernel
theorem dX5_best_52 : decode cX5_best 52 = .ok (.bipush (-2), 2) := by decide +kernel
theorem dX5_best_54 : decode cX5_best 54 = .ok (.if_icmp .ne 10, 3) := by decide +kernel
theorem dX5_best_57 : decode cX5_best 57 = .ok (.aload_n 0, 1) := by decide +kernel
theorem dX5_best_58 : decode cX5_best 58 = .ok (.getfield 144, 3) := by decide +kernel
theorem dX5_best_61 : decode cX5_best 61 = .ok (.goto 22, 3) := by decide +kernel
theorem dX5_best_64 : decode cX5_best 64 = .ok (.aload_n 0, 1) := by decide +kernel
theorem dX5_best_65 : decode cX5_best 65 = .ok (.iload_n 2, 1) := by decide +kernel
theorem dX5_best_66 : decode cX5_best 66 = .ok (.invokevirtual 116, 3) := by decide +kernel
theorem dX5_best_69 : decode cX5_best 69 = .ok (.ifCond .eq 12, 3) := by decide +kernel
theorem dX5_best_72 : decode cX5_best 72 = .ok (.aload_n 0, 1) := by decide +kernel
theorem dX5_best_73 : decode cX5_best 73 = .ok (.getfield 47, 3) := by decide +kernel
theorem dX5_best_76 : decode cX5_best 76 = .ok (.iload_n 2, 1) := by decide +kernel
theorem dX5_best_77 : decode cX5_best 77 = .ok (.iaload, 1) := by decide +kernel
theorem dX5_best_78 : decode cX5_best 78 = .ok (.goto 5, 3) := by decide +kernel
theorem dX5_best_81 : decode cX5_best 81 = .ok (.bipush (-6), 2) := by decide +kernel
theorem dX5_best_83 : decode cX5_best 83 = .ok (.ireturn, 1) := by decide +kernel
theorem dX5_good_0 : decode cX5_good 0 = .ok (.aload_n 0, 1) := by decide +kernel
theorem dX5_good_1 : decode cX5_good 1 = .ok (.invokevirtual 113, 3) := by decide +kernel
theorem dX5_good_4 : decode cX5_good 4 = .ok (.iconst 0, 1) := by decide +kernel
theorem dX5_good_5 : decode cX5_good 5 = .ok (.istore_n 1, 1) := by decide +kernel
theorem dX5_good_6 : decode cX5_good 6 = .ok (.aload_n 0, 1) := by decide +kernel
theorem dX5_good_7 : decode cX5_good 7 = .ok (.invokevirtual 135, 3) := by decide +kernel
theorem dX5_good_10 : decode cX5_good 10 = .ok (.iconst 1, 1) := by decide +kernel
theorem dX5_good_11 : decode cX5_good 11 = .ok (.istore_n 2, 1) := by decide +kernel
theorem dX5_good_12 : decode cX5_good 12 = .ok (.iload_n 2, 1) := by decide +kernel
theorem dX5_good_13 : decode cX5_good 13 = .ok (.ifCond .eq 26, 3) := by decide +kernel
theorem dX5_good_16 : decode cX5_good 16 = .ok (.iload_n 1, 1) := by decide +kernel
theorem dX5_good_17 : decode cX5_good 17 = .ok (.aload_n 0, 1) := by decide +kernel
theorem dX5_good_18 : decode cX5_good 18 = .ok (.invokevirtual 122, 3) := by decide +kernel
theorem dX5_good_21 : decode cX5_good 21 = .ok (.ifCond .eq 7, 3) := by decide +kernel
theorem dX5_good_24 : decode cX5_good 24 = .ok (.iconst 1, 1) := by decide +kernel
theorem dX5_good_25 : decode cX5_good 25 = .ok (.goto 4, 3) := by decide +kernel
theorem dX5_good_28 : decode cX5_good 28 = .ok (.iconst 0, 1) := by decide +kernel
theorem dX5_good_29 : decode cX5_good 29 = .ok (.iadd, 1) := by decide +kernel
theorem dX5_good_30 : decode cX5_good 30 = .ok (.istore_n 1, 1) := by decide +kernel
theorem dX5_good_31 : decode cX5_good 31 = .ok (.aload_n 0, 1) := by decide +kernel
theorem dX5_good_32 : decode cX5_good 32 = .ok (.invokevirtual 147, 3) := by decide +kernel
theorem dX5_good_35 : decode cX5_good 35 = .ok (.istore_n 2, 1) := by decide +kernel
theorem dX5_good_36 : decode cX5_good 36 = .ok (.goto (-24), 3) := by decide +kernel
theorem dX5_good_39 : decode cX5_good 39 = .ok (.iload_n 1, 1) := by decide +kernel
theorem dX5_good_40 : decode cX5_good 40 = .ok (.ireturn, 1) := by decide +kernel
theorem dX5_someGood_0 : decode cX5_someGood 0 = .ok (.aload_n 0, 1) := by decide +kernel
theorem dX5_someGood_1 : decode cX5_someGood 1 = .ok (.invokevirtual 135, 3) := by decide +kernel
theorem dX5_someGood_4 : decode cX5_someGood 4 = .ok (.iconst 1, 1) := by decide +kernel
theorem dX5_someGood_5 : decode cX5_someGood 5 = .ok (.istore_n 1, 1) := by decide +kernel
theorem dX5_someGood_6 : decode cX5_someGood 6 = .ok (.iconst 0, 1) := by decide +kernel
theorem dX5_someGood_7 : decode cX5_someGood 7 = .ok (.istore_n 2, 1) := by decide +kernel
theorem dX5_someGood_8 : decode cX5_someGood 8 = .ok (.iload_n 1, 1) := by decide +kernel
theorem dX5_someGood_9 : decode cX5_someGood 9 = .ok (.ifCond .eq 28, 3) := by decide +kernel
theorem dX5_someGood_12 : decode cX5_someGood 12 = .ok (.iload_n 2, 1) := by decide +kernel
theorem dX5_someGood_13 : decode cX5_someGood 13 = .ok (.ifCond .ne 24, 3) := by decide +kernel
theorem dX5_someGood_16 : decode cX5_someGood 16 = .ok (.aload_n 0, 1) := by decide +kernel
theorem dX5_someGood_17 : decode cX5_someGood 17 = .ok (.invokevirtual 122, 3) := by decide +kernel
theorem dX5_someGood_20 : decode cX5_someGood 20 = .ok (.ifCond .eq 7, 3) := by decide +kernel
theorem dX5_someGood_23 : decode cX5_someGood 23 = .ok (.iconst 1, 1) := by decide +kernel
theorem dX5_someGood_24 : decode cX5_someGood 24 = .ok (.goto 4, 3) := by decide +kernel
theorem dX5_someGood_27 : decode cX5_someGood 27 = .ok (.iconst 0, 1) := by decide +kernel
theorem dX5_someGood_28 : decode cX5_someGood 28 = .ok (.istore_n 2, 1) := by decide +kernel
theorem dX5_someGood_29 : decode cX5_someGood 29 = .ok (.aload_n 0, 1) := by decide +kernel
theorem dX5_someGood_30 : decode cX5_someGood 30 = .ok (.invokevirtual 147, 3) := by decide +kernel
theorem dX5_someGood_33 : decode cX5_someGood 33 = .ok (.istore_n 1, 1) := by decide +kernel
theorem dX5_someGood_34 : decode cX5_someGood 34 = .ok (.goto (-26), 3) := by decide +kernel
theorem dX5_someGood_37 : decode cX5_someGood 37 = .ok (.iload_n 2, 1) := by decide +kernel
theorem dX5_someGood_38 : decode cX5_someGood 38 = .ok (.ireturn, 1) := by decide +kernel
theorem dX5_inside_0 : decode cX5_inside 0 = .ok (.aload_n 0, 1) := by decide +kernel
theorem dX5_inside_1 : decode cX5_inside 1 = .ok (.getfield 38, 3) := by decide +kernel
theorem dX5_inside_4 : decode cX5_inside 4 = .ok (.iconst 3, 1) := by decide +kernel
theorem dX5_inside_5 : decode cX5_inside 5 = .ok (.iaload, 1) := by decide +kernel
theorem dX5_inside_6 : decode cX5_inside 6 = .ok (.iconst 1, 1) := by decide +kernel
theorem dX5_inside_7 : decode cX5_inside 7 = .ok (.aload_n 0, 1) := by decide +kernel
theorem dX5_inside_8 : decode cX5_inside 8 = .ok (.getfield 31, 3) := by decide +kernel
theorem dX5_inside_11 : decode cX5_inside 11 = .ok (.ishl, 1) := by decide +kernel
theorem dX5_inside_12 : decode cX5_inside 12 = .ok (.iconst (-1), 1) := by decide +kernel
theorem dX5_inside_13 : decode cX5_inside 13 = .ok (.ixor, 1) := by decide +kernel
theorem dX5_inside_14 : decode cX5_inside 14 = .ok (.iand, 1) := by decide +kernel
theorem dX5_inside_15 : decode cX5_inside 15 = .ok (.ireturn, 1) := by decide +kernel
theorem dX5_bar_0 : decode cX5_bar 0 = .ok (.aload_n 0, 1) := by decide +kernel
theorem dX5_bar_1 : decode cX5_bar 1 = .ok (.invokevirtual 113, 3) := by decide +kernel
theorem dX5_bar_4 : decode cX5_bar 4 = .ok (.aload_n 0, 1) := by decide +kernel
theorem dX5_bar_5 : decode cX5_bar 5 = .ok (.invokevirtual 154, 3) := by decide +kernel
theorem dX5_bar_8 : decode cX5_bar 8 = .ok (.ifCond .eq 6, 3) := by decide +kernel
theorem dX5_bar_11 : decode cX5_bar 11 = .ok (.bipush (-3), 2) := by decide +kernel
theorem dX5_bar_13 : decode cX5_bar 13 = .ok (.ireturn, 1) := by decide +kernel
theorem dX5_bar_14 : decode cX5_bar 14 = .ok (.bipush (-6), 2) := by decide +kernel
theorem dX5_bar_16 : decode cX5_bar 16 = .ok (.istore_n 1, 1) := by decide +kernel
theorem dX5_bar_17 : decode cX5_bar 17 = .ok (.iconst 1, 1) := by decide +kernel
theorem dX5_bar_18 : decode cX5_bar 18 = .ok (.istore_n 2, 1) := by decide +kernel
theorem dX5_bar_19 : decode cX5_bar 19 = .ok (.iload_n 2, 1) := by decide +kernel
theorem dX5_bar_20 : decode cX5_bar 20 = .ok (.bipush 64, 2) := by decide +kernel
theorem dX5_bar_22 : decode cX5_bar 22 = .ok (.if_icmp .ge 58, 3) := by decide +kernel
theorem dX5_bar_25 : decode cX5_bar 25 = .ok (.iload_n 2, 1) := by decide +kernel
theorem dX5_bar_26 : decode cX5_bar 26 = .ok (.aload_n 0, 1) := by decide +kernel
theorem dX5_bar_27 : decode cX5_bar 27 = .ok (.invokevirtual 157, 3) := by decide +kernel
theorem dX5_bar_30 : decode cX5_bar 30 = .ok (.iconst (-1), 1) := by decide +kernel
theorem dX5_bar_31 : decode cX5_bar 31 = .ok (.ixor, 1) := by decide +kernel
theorem dX5_bar_32 : decode cX5_bar 32 = .ok (.iand, 1) := by decide +kernel
theorem dX5_bar_33 : decode cX5_bar 33 = .ok (.ifCond .ne 41, 3) := by decide +kernel
theorem dX5_bar_36 : decode cX5_bar 36 = .ok (.iload_n 1, 1) := by decide +kernel
theorem dX5_bar_37 : decode cX5_bar 37 = .ok (.ifCond .lt 14, 3) := by decide +kernel
theorem dX5_bar_40 : decode cX5_bar 40 = .ok (.iload_n 2, 1) := by decide +kernel
theorem dX5_bar_41 : decode cX5_bar 41 = .ok (.invokestatic 138, 3) := by decide +kernel
theorem dX5_bar_44 : decode cX5_bar 44 = .ok (.iload_n 1, 1) := by decide +kernel
theorem dX5_bar_45 : decode cX5_bar 45 = .ok (.invokestatic 138, 3) := by decide +kernel
theorem dX5_bar_48 : decode cX5_bar 48 = .ok (.if_icmp .ge 26, 3) := by decide +kernel
theorem dX5_bar_51 : decode cX5_bar 51 = .ok (.aload_n 0, 1) := by decide +kernel
theorem dX5_bar_52 : decode cX5_bar 52 = .ok (.bipush 63, 2) := by decide +kernel
theorem dX5_bar_54 : decode cX5_bar 54 = .ok (.iload_n 2, 1) := by decide +kernel
theorem dX5_bar_55 : decode cX5_bar 55 = .ok (.iconst (-1), 1) := by decide +kernel
theorem dX5_bar_56 : decode cX5_bar 56 = .ok (.ixor, 1) := by decide +kernel
theorem dX5_bar_57 : decode cX5_bar 57 = .ok (.iand, 1) := by decide +kernel
theorem dX5_bar_58 : decode cX5_bar 58 = .ok (.putfield 110, 3) := by decide +kernel
theorem dX5_bar_61 : decode cX5_bar 61 = .ok (.aload_n 0, 1) := by decide +kernel
theorem dX5_bar_62 : decode cX5_bar 62 = .ok (.invokevirtual 154, 3) := by decide +kernel
theorem dX5_bar_65 : decode cX5_bar 65 = .ok (.ifCond .eq 7, 3) := by decide +kernel
theorem dX5_bar_68 : decode cX5_bar 68 = .ok (.iload_n 1, 1) := by decide +kernel
theorem dX5_bar_69 : decode cX5_bar 69 = .ok (.goto 4, 3) := by decide +kernel
theorem dX5_bar_72 : decode cX5_bar 72 = .ok (.iload_n 2, 1) := by decide +kernel
theorem dX5_bar_73 : decode cX5_bar 73 = .ok (.istore_n 1, 1) := by decide +kernel
theorem dX5_bar_74 : decode cX5_bar 74 = .ok (.iinc 2 1, 3) := by decide +kernel
theorem dX5_bar_77 : decode cX5_bar 77 = .ok (.goto (-58), 3) := by decide +kernel
theorem dX5_bar_80 : decode cX5_bar 80 = .ok (.iload_n 1, 1) := by decide +kernel
theorem dX5_bar_81 : decode cX5_bar 81 = .ok (.ireturn, 1) := by decide +kernel
theorem dX5_coinOf_0 : decode cX5_coinOf 0 = .ok (.iconst 0, 1) := by decide +kernel
theorem dX5_coinOf_1 : decode cX5_coinOf 1 = .ok (.istore_n 2, 1) := by decide +kernel
theorem dX5_coinOf_2 : decode cX5_coinOf 2 = .ok (.iconst 0, 1) := by decide +kernel
theorem dX5_coinOf_3 : decode cX5_coinOf 3 = .ok (.istore_n 3, 1) := by decide +kernel
theorem dX5_coinOf_4 : decode cX5_coinOf 4 = .ok (.iload_n 3, 1) := by decide +kernel
theorem dX5_coinOf_5 : decode cX5_coinOf 5 = .ok (.bipush 6, 2) := by decide +kernel
theorem dX5_coinOf_7 : decode cX5_coinOf 7 = .ok (.if_icmp .ge 34, 3) := by decide +kernel
theorem dX5_coinOf_10 : decode cX5_coinOf 10 = .ok (.iload_n 2, 1) := by decide +kernel
theorem dX5_coinOf_11 : decode cX5_coinOf 11 = .ok (.iload_n 1, 1) := by decide +kernel
theorem dX5_coinOf_12 : decode cX5_coinOf 12 = .ok (.iload_n 3, 1) := by decide +kernel
theorem dX5_coinOf_13 : decode cX5_coinOf 13 = .ok (.invokestatic 103, 3) := by decide +kernel
theorem dX5_coinOf_16 : decode cX5_coinOf 16 = .ok (.ifCond .eq 16, 3) := by decide +kernel
theorem dX5_coinOf_19 : decode cX5_coinOf 19 = .ok (.aload_n 0, 1) := by decide +kernel
theorem dX5_coinOf_20 : decode cX5_coinOf 20 = .ok (.getfield 25, 3) := by decide +kernel
theorem dX5_coinOf_23 : decode cX5_coinOf 23 = .ok (.iconst 4, 1) := by decide +kernel
theorem dX5_coinOf_24 : decode cX5_coinOf 24 = .ok (.iload_n 3, 1) := by decide +kernel
theorem dX5_coinOf_25 : decode cX5_coinOf 25 = .ok (.imul, 1) := by decide +kernel
theorem dX5_coinOf_26 : decode cX5_coinOf 26 = .ok (.iconst 3, 1) := by decide +kernel
theorem dX5_coinOf_27 : decode cX5_coinOf 27 = .ok (.iadd, 1) := by decide +kernel
theorem dX5_coinOf_28 : decode cX5_coinOf 28 = .ok (.iaload, 1) := by decide +kernel
theorem dX5_coinOf_29 : decode cX5_coinOf 29 = .ok (.goto 4, 3) := by decide +kernel
theorem dX5_coinOf_32 : decode cX5_coinOf 32 = .ok (.iconst 0, 1) := by decide +kernel
theorem dX5_coinOf_33 : decode cX5_coinOf 33 = .ok (.iadd, 1) := by decide +kernel
theorem dX5_coinOf_34 : decode cX5_coinOf 34 = .ok (.istore_n 2, 1) := by decide +kernel
theorem dX5_coinOf_35 : decode cX5_coinOf 35 = .ok (.iinc 3 1, 3) := by decide +kernel
theorem dX5_coinOf_38 : decode cX5_coinOf 38 = .ok (.goto (-34), 3) := by decide +kernel
theorem dX5_coinOf_41 : decode cX5_coinOf 41 = .ok (.iload_n 2, 1) := by decide +kernel
theorem dX5_coinOf_42 : decode cX5_coinOf 42 = .ok (.ireturn, 1) := by decide +kernel
theorem dX5_anew_0 : decode cX5_anew 0 = .ok (.iload_n 1, 1) := by decide +kernel
theorem dX5_anew_1 : decode cX5_anew 1 = .ok (.iconst 0, 1) := by decide +kernel
theorem dX5_anew_2 : decode cX5_anew 2 = .ok (.iconst 1, 1) := by decide +kernel
theorem dX5_anew_3 : decode cX5_anew 3 = .ok (.invokestatic 69, 3) := by decide +kernel
theorem dX5_anew_6 : decode cX5_anew 6 = .ok (.ifCond .ne 6, 3) := by decide +kernel
theorem dX5_anew_9 : decode cX5_anew 9 = .ok (.bipush (-2), 2) := by decide +kernel
theorem dX5_anew_11 : decode cX5_anew 11 = .ok (.ireturn, 1) := by decide +kernel
theorem dX5_anew_12 : decode cX5_anew 12 = .ok (.aload_n 0, 1) := by decide +kernel
theorem dX5_anew_13 : decode cX5_anew 13 = .ok (.invokevirtual 113, 3) := by decide +kernel
theorem dX5_anew_16 : decode cX5_anew 16 = .ok (.bipush (-6), 2) := by decide +kernel
theorem dX5_anew_18 : decode cX5_anew 18 = .ok (.istore_n 2, 1) := by decide +kernel
theorem dX5_anew_19 : decode cX5_anew 19 = .ok (.iconst 0, 1) := by decide +kernel
theorem dX5_anew_20 : decode cX5_anew 20 = .ok (.istore_n 3, 1) := by decide +kernel
theorem dX5_anew_21 : decode cX5_anew 21 = .ok (.iload_n 3, 1) := by decide +kernel
theorem dX5_anew_22 : decode cX5_anew 22 = .ok (.bipush 64, 2) := by decide +kernel
theorem dX5_anew_24 : decode cX5_anew 24 = .ok (.if_icmp .ge 91, 3) := by decide +kernel
theorem dX5_anew_27 : decode cX5_anew 27 = .ok (.iload_n 3, 1) := by decide +kernel
theorem dX5_anew_28 : decode cX5_anew 28 = .ok (.aload_n 0, 1) := by decide +kernel
theorem dX5_anew_29 : decode cX5_anew 29 = .ok (.invokevirtual 157, 3) := by decide +kernel
theorem dX5_anew_32 : decode cX5_anew 32 = .ok (.iconst (-1), 1) := by decide +kernel
theorem dX5_anew_33 : decode cX5_anew 33 = .ok (.ixor, 1) := by decide +kernel
theorem dX5_anew_34 : decode cX5_anew 34 = .ok (.iand, 1) := by decide +kernel
theorem dX5_anew_35 : decode cX5_anew 35 = .ok (.ifCond .ne 74, 3) := by decide +kernel
theorem dX5_anew_38 : decode cX5_anew 38 = .ok (.iload_n 2, 1) := by decide +kernel
theorem dX5_anew_39 : decode cX5_anew 39 = .ok (.ifCond .lt 40, 3) := by decide +kernel
theorem dX5_anew_42 : decode cX5_anew 42 = .ok (.aload_n 0, 1) := by decide +kernel
theorem dX5_anew_43 : decode cX5_anew 43 = .ok (.iload_n 3, 1) := by decide +kernel
theorem dX5_anew_44 : decode cX5_anew 44 = .ok (.invokevirtual 160, 3) := by decide +kernel
theorem dX5_anew_47 : decode cX5_anew 47 = .ok (.aload_n 0, 1) := by decide +kernel
theorem dX5_anew_48 : decode cX5_anew 48 = .ok (.iload_n 2, 1) := by decide +kernel
theorem dX5_anew_49 : decode cX5_anew 49 = .ok (.invokevirtual 160, 3) := by decide +kernel
theorem dX5_anew_52 : decode cX5_anew 52 = .ok (.if_icmp .lt 27, 3) := by decide +kernel
theorem dX5_anew_55 : decode cX5_anew 55 = .ok (.aload_n 0, 1) := by decide +kernel
theorem dX5_anew_56 : decode cX5_anew 56 = .ok (.iload_n 3, 1) := by decide +kernel
theorem dX5_anew_57 : decode cX5_anew 57 = .ok (.invokevirtual 160, 3) := by decide +kernel
theorem dX5_anew_60 : decode cX5_anew 60 = .ok (.aload_n 0, 1) := by decide +kernel
theorem dX5_anew_61 : decode cX5_anew 61 = .ok (.iload_n 2, 1) := by decide +kernel
theorem dX5_anew_62 : decode cX5_anew 62 = .ok (.invokevirtual 160, 3) := by decide +kernel
theorem dX5_anew_65 : decode cX5_anew 65 = .ok (.if_icmp .ne 18, 3) := by decide +kernel
theorem dX5_anew_68 : decode cX5_anew 68 = .ok (.iload_n 3, 1) := by decide +kernel
theorem dX5_anew_69 : decode cX5_anew 69 = .ok (.invokestatic 138, 3) := by decide +kernel
theorem dX5_anew_72 : decode cX5_anew 72 = .ok (.iload_n 2, 1) := by decide +kernel
theorem dX5_anew_73 : decode cX5_anew 73 = .ok (.invokestatic 138, 3) := by decide +kernel
theorem dX5_anew_76 : decode cX5_anew 76 = .ok (.if_icmp .ge 7, 3) := by decide +kernel
theorem dX5_anew_79 : decode cX5_anew 79 = .ok (.iconst 1, 1) := by decide +kernel
theorem dX5_anew_80 : decode cX5_anew 80 = .ok (.goto 4, 3) := by decide +kernel
theorem dX5_anew_83 : decode cX5_anew 83 = .ok (.iconst 0, 1) := by decide +kernel
theorem dX5_anew_84 : decode cX5_anew 84 = .ok (.istore 4, 2) := by decide +kernel
theorem dX5_anew_86 : decode cX5_anew 86 = .ok (.aload_n 0, 1) := by decide +kernel
theorem dX5_anew_87 : decode cX5_anew 87 = .ok (.iload_n 3, 1) := by decide +kernel
theorem dX5_anew_88 : decode cX5_anew 88 = .ok (.putfield 110, 3) := by decide +kernel
theorem dX5_anew_91 : decode cX5_anew 91 = .ok (.iload 4, 2) := by decide +kernel
theorem dX5_anew_93 : decode cX5_anew 93 = .ok (.ifCond .eq 14, 3) := by decide +kernel
theorem dX5_anew_96 : decode cX5_anew 96 = .ok (.aload_n 0, 1) := by decide +kernel
theorem dX5_anew_97 : decode cX5_anew 97 = .ok (.invokevirtual 154, 3) := by decide +kernel
theorem dX5_anew_100 : decode cX5_anew 100 = .ok (.ifCond .eq 7, 3) := by decide +kernel
theorem dX5_anew_103 : decode cX5_anew 103 = .ok (.iload_n 3, 1) := by decide +kernel
theorem dX5_anew_104 : decode cX5_anew 104 = .ok (.goto 4, 3) := by decide +kernel
theorem dX5_anew_107 : decode cX5_anew 107 = .ok (.iload_n 2, 1) := by decide +kernel
theorem dX5_anew_108 : decode cX5_anew 108 = .ok (.istore_n 2, 1) := by decide +kernel
theorem dX5_anew_109 : decode cX5_anew 109 = .ok (.iinc 3 1, 3) := by decide +kernel
theorem dX5_anew_112 : decode cX5_anew 112 = .ok (.goto (-91), 3) := by decide +kernel
theorem dX5_anew_115 : decode cX5_anew 115 = .ok (.iload_n 1, 1) := by decide +kernel
theorem dX5_anew_116 : decode cX5_anew 116 = .ok (.ifCond .ne 7, 3) := by decide +kernel
theorem dX5_anew_119 : decode cX5_anew 119 = .ok (.iload_n 2, 1) := by decide +kernel
theorem dX5_anew_120 : decode cX5_anew 120 = .ok (.goto 8, 3) := by decide +kernel
theorem dX5_anew_123 : decode cX5_anew 123 = .ok (.aload_n 0, 1) := by decide +kernel
theorem dX5_anew_124 : decode cX5_anew 124 = .ok (.iload_n 2, 1) := by decide +kernel
theorem dX5_anew_125 : decode cX5_anew 125 = .ok (.invokevirtual 160, 3) := by decide +kernel
theorem dX5_anew_128 : decode cX5_anew 128 = .ok (.ireturn, 1) := by decide +kernel
theorem dX5_usesOf_0 : decode cX5_usesOf 0 = .ok (.iconst 0, 1) := by decide +kernel
theorem dX5_usesOf_1 : decode cX5_usesOf 1 = .ok (.istore_n 2, 1) := by decide +kernel
theorem dX5_usesOf_2 : decode cX5_usesOf 2 = .ok (.iconst 0, 1) := by decide +kernel
theorem dX5_usesOf_3 : decode cX5_usesOf 3 = .ok (.istore_n 3, 1) := by decide +kernel
theorem dX5_usesOf_4 : decode cX5_usesOf 4 = .ok (.iload_n 3, 1) := by decide +kernel
theorem dX5_usesOf_5 : decode cX5_usesOf 5 = .ok (.bipush 6, 2) := by decide +kernel
theorem dX5_usesOf_7 : decode cX5_usesOf 7 = .ok (.if_icmp .ge 61, 3) := by decide +kernel
theorem dX5_usesOf_10 : decode cX5_usesOf 10 = .ok (.iconst 0, 1) := by decide +kernel
theorem dX5_usesOf_11 : decode cX5_usesOf 11 = .ok (.istore 4, 2) := by decide +kernel
theorem dX5_usesOf_13 : decode cX5_usesOf 13 = .ok (.iload 4, 2) := by decide +kernel
theorem dX5_usesOf_15 : decode cX5_usesOf 15 = .ok (.iload_n 3, 1) := by decide +kernel
theorem dX5_usesOf_16 : decode cX5_usesOf 16 = .ok (.if_icmp .ge 46, 3) := by decide +kernel
theorem dX5_usesOf_19 : decode cX5_usesOf 19 = .ok (.aload_n 0, 1) := by decide +kernel
theorem dX5_usesOf_20 : decode cX5_usesOf 20 = .ok (.getfield 38, 3) := by decide +kernel
theorem dX5_usesOf_23 : decode cX5_usesOf 23 = .ok (.iconst 3, 1) := by decide +kernel
theorem dX5_usesOf_24 : decode cX5_usesOf 24 = .ok (.iaload, 1) := by decide +kernel
theorem dX5_usesOf_25 : decode cX5_usesOf 25 = .ok (.iload_n 3, 1) := by decide +kernel
theorem dX5_usesOf_26 : decode cX5_usesOf 26 = .ok (.invokestatic 103, 3) := by decide +kernel
theorem dX5_usesOf_29 : decode cX5_usesOf 29 = .ok (.ifCond .eq 33, 3) := by decide +kernel
theorem dX5_usesOf_32 : decode cX5_usesOf 32 = .ok (.iload_n 2, 1) := by decide +kernel
theorem dX5_usesOf_33 : decode cX5_usesOf 33 = .ok (.aload_n 0, 1) := by decide +kernel
theorem dX5_usesOf_34 : decode cX5_usesOf 34 = .ok (.getfield 28, 3) := by decide +kernel
theorem dX5_usesOf_37 : decode cX5_usesOf 37 = .ok (.bipush 6, 2) := by decide +kernel
theorem dX5_usesOf_39 : decode cX5_usesOf 39 = .ok (.iload_n 3, 1) := by decide +kernel
theorem dX5_usesOf_40 : decode cX5_usesOf 40 = .ok (.imul, 1) := by decide +kernel
theorem dX5_usesOf_41 : decode cX5_usesOf 41 = .ok (.iload 4, 2) := by decide +kernel
theorem dX5_usesOf_43 : decode cX5_usesOf 43 = .ok (.iadd, 1) := by decide +kernel
theorem dX5_usesOf_44 : decode cX5_usesOf 44 = .ok (.iaload, 1) := by decide +kernel
theorem dX5_usesOf_45 : decode cX5_usesOf 45 = .ok (.iload_n 1, 1) := by decide +kernel
theorem dX5_usesOf_46 : decode cX5_usesOf 46 = .ok (.if_icmp .ne 7, 3) := by decide +kernel
theorem dX5_usesOf_49 : decode cX5_usesOf 49 = .ok (.iconst 1, 1) := by decide +kernel
theorem dX5_usesOf_50 : decode cX5_usesOf 50 = .ok (.goto 4, 3) := by decide +kernel
theorem dX5_usesOf_53 : decode cX5_usesOf 53 = .ok (.iconst 0, 1) := by decide +kernel
theorem dX5_usesOf_54 : decode cX5_usesOf 54 = .ok (.iadd, 1) := by decide +kernel
theorem dX5_usesOf_55 : decode cX5_usesOf 55 = .ok (.istore_n 2, 1) := by decide +kernel
theorem dX5_usesOf_56 : decode cX5_usesOf 56 = .ok (.iinc 4 1, 3) := by decide +kernel
theorem dX5_usesOf_59 : decode cX5_usesOf 59 = .ok (.goto (-46), 3) := by decide +kernel
theorem dX5_usesOf_62 : decode cX5_usesOf 62 = .ok (.iinc 3 1, 3) := by decide +kernel
theorem dX5_usesOf_65 : decode cX5_usesOf 65 = .ok (.goto (-61), 3) := by decide +kernel
theorem dX5_usesOf_68 : decode cX5_usesOf 68 = .ok (.iload_n 2, 1) := by decide +kernel
theorem dX5_usesOf_69 : decode cX5_usesOf 69 = .ok (.ireturn, 1) := by decide +kernel
theorem dX5_loosen_0 : decode cX5_loosen 0 = .ok (.aload_n 0, 1) := by decide +kernel
theorem dX5_loosen_1 : decode cX5_loosen 1 = .ok (.getfield 38, 3) := by decide +kernel
theorem dX5_loosen_4 : decode cX5_loosen 4 = .ok (.iconst 3, 1) := by decide +kernel
theorem dX5_loosen_5 : decode cX5_loosen 5 = .ok (.iaload, 1) := by decide +kernel
theorem dX5_loosen_6 : decode cX5_loosen 6 = .ok (.istore_n 3, 1) := by decide +kernel
theorem dX5_loosen_7 : decode cX5_loosen 7 = .ok (.iconst 0, 1) := by decide +kernel
theorem dX5_loosen_8 : decode cX5_loosen 8 = .ok (.istore 4, 2) := by decide +kernel
theorem dX5_loosen_10 : decode cX5_loosen 10 = .ok (.iload 4, 2) := by decide +kernel
theorem dX5_loosen_12 : decode cX5_loosen 12 = .ok (.bipush 6, 2) := by decide +kernel
theorem dX5_loosen_14 : decode cX5_loosen 14 = .ok (.if_icmp .ge 81, 3) := by decide +kernel
theorem dX5_loosen_17 : decode cX5_loosen 17 = .ok (.iconst 0, 1) := by decide +kernel
theorem dX5_loosen_18 : decode cX5_loosen 18 = .ok (.istore 5, 2) := by decide +kernel
theorem dX5_loosen_20 : decode cX5_loosen 20 = .ok (.iload 5, 2) := by decide +kernel
theorem dX5_loosen_22 : decode cX5_loosen 22 = .ok (.iload 4, 2) := by decide +kernel
theorem dX5_loosen_24 : decode cX5_loosen 24 = .ok (.if_icmp .ge 65, 3) := by decide +kernel
theorem dX5_loosen_27 : decode cX5_loosen 27 = .ok (.iload_n 3, 1) := by decide +kernel
theorem dX5_loosen_28 : decode cX5_loosen 28 = .ok (.iload 4, 2) := by decide +kernel
theorem dX5_loosen_30 : decode cX5_loosen 30 = .ok (.invokestatic 103, 3) := by decide +kernel
theorem dX5_loosen_33 : decode cX5_loosen 33 = .ok (.ifCond .eq 56, 3) := by decide +kernel
theorem dX5_loosen_36 : decode cX5_loosen 36 = .ok (.aload_n 0, 1) := by decide +kernel
theorem dX5_loosen_37 : decode cX5_loosen 37 = .ok (.getfield 28, 3) := by decide +kernel
theorem dX5_loosen_40 : decode cX5_loosen 40 = .ok (.bipush 6, 2) := by decide +kernel
theorem dX5_loosen_42 : decode cX5_loosen 42 = .ok (.iload 4, 2) := by decide +kernel
theorem dX5_loosen_44 : decode cX5_loosen 44 = .ok (.imul, 1) := by decide +kernel
theorem dX5_loosen_45 : decode cX5_loosen 45 = .ok (.iload 5, 2) := by decide +kernel
theorem dX5_loosen_47 : decode cX5_loosen 47 = .ok (.iadd, 1) := by decide +kernel
theorem dX5_loosen_48 : decode cX5_loosen 48 = .ok (.aload_n 0, 1) := by decide +kernel
theorem dX5_loosen_49 : decode cX5_loosen 49 = .ok (.getfield 28, 3) := by decide +kernel
theorem dX5_loosen_52 : decode cX5_loosen 52 = .ok (.bipush 6, 2) := by decide +kernel
theorem dX5_loosen_54 : decode cX5_loosen 54 = .ok (.iload 4, 2) := by decide +kernel
theorem dX5_loosen_56 : decode cX5_loosen 56 = .ok (.imul, 1) := by decide +kernel
theorem dX5_loosen_57 : decode cX5_loosen 57 = .ok (.iload 5, 2) := by decide +kernel
theorem dX5_loosen_59 : decode cX5_loosen 59 = .ok (.iadd, 1) := by decide +kernel
theorem dX5_loosen_60 : decode cX5_loosen 60 = .ok (.iaload, 1) := by decide +kernel
theorem dX5_loosen_61 : decode cX5_loosen 61 = .ok (.iload_n 1, 1) := by decide +kernel
theorem dX5_loosen_62 : decode cX5_loosen 62 = .ok (.if_icmp .ne 7, 3) := by decide +kernel
theorem dX5_loosen_65 : decode cX5_loosen 65 = .ok (.iload_n 2, 1) := by decide +kernel
theorem dX5_loosen_66 : decode cX5_loosen 66 = .ok (.goto 16, 3) := by decide +kernel
theorem dX5_loosen_69 : decode cX5_loosen 69 = .ok (.aload_n 0, 1) := by decide +kernel
theorem dX5_loosen_70 : decode cX5_loosen 70 = .ok (.getfield 28, 3) := by decide +kernel
theorem dX5_loosen_73 : decode cX5_loosen 73 = .ok (.bipush 6, 2) := by decide +kernel
theorem dX5_loosen_75 : decode cX5_loosen 75 = .ok (.iload 4, 2) := by decide +kernel
theorem dX5_loosen_77 : decode cX5_loosen 77 = .ok (.imul, 1) := by decide +kernel
theorem dX5_loosen_78 : decode cX5_loosen 78 = .ok (.iload 5, 2) := by decide +kernel
theorem dX5_loosen_80 : decode cX5_loosen 80 = .ok (.iadd, 1) := by decide +kernel
theorem dX5_loosen_81 : decode cX5_loosen 81 = .ok (.iaload, 1) := by decide +kernel
theorem dX5_loosen_82 : decode cX5_loosen 82 = .ok (.iastore, 1) := by decide +kernel
theorem dX5_loosen_83 : decode cX5_loosen 83 = .ok (.iinc 5 1, 3) := by decide +kernel
theorem dX5_loosen_86 : decode cX5_loosen 86 = .ok (.goto (-66), 3) := by decide +kernel
theorem dX5_loosen_89 : decode cX5_loosen 89 = .ok (.iinc 4 1, 3) := by decide +kernel
theorem dX5_loosen_92 : decode cX5_loosen 92 = .ok (.goto (-82), 3) := by decide +kernel
theorem dX5_loosen_95 : decode cX5_loosen 95 = .ok (.return_, 1) := by decide +kernel
theorem dX5_looser_0 : decode cX5_looser 0 = .ok (.iload_n 1, 1) := by decide +kernel
theorem dX5_looser_1 : decode cX5_looser 1 = .ok (.iconst 0, 1) := by decide +kernel
theorem dX5_looser_2 : decode cX5_looser 2 = .ok (.iconst 1, 1) := by decide +kernel
theorem dX5_looser_3 : decode cX5_looser 3 = .ok (.invokestatic 69, 3) := by decide +kernel
theorem dX5_looser_6 : decode cX5_looser 6 = .ok (.ifCond .ne 6, 3) := by decide +kernel
theorem dX5_looser_9 : decode cX5_looser 9 = .ok (.bipush (-2), 2) := by decide +kernel
theorem dX5_looser_11 : decode cX5_looser 11 = .ok (.ireturn, 1) := by decide +kernel
theorem dX5_looser_12 : decode cX5_looser 12 = .ok (.aload_n 0, 1) := by decide +kernel
theorem dX5_looser_13 : decode cX5_looser 13 = .ok (.invokevirtual 113, 3) := by decide +kernel
theorem dX5_looser_16 : decode cX5_looser 16 = .ok (.aload_n 0, 1) := by decide +kernel
theorem dX5_looser_17 : decode cX5_looser 17 = .ok (.invokevirtual 154, 3) := by decide +kernel
theorem dX5_looser_20 : decode cX5_looser 20 = .ok (.ifCond .eq 5, 3) := by decide +kernel
theorem dX5_looser_23 : decode cX5_looser 23 = .ok (.iconst 0, 1) := by decide +kernel
theorem dX5_looser_24 : decode cX5_looser 24 = .ok (.ireturn, 1) := by decide +kernel
theorem dX5_looser_25 : decode cX5_looser 25 = .ok (.iconst 0, 1) := by decide +kernel
theorem dX5_looser_26 : decode cX5_looser 26 = .ok (.istore_n 2, 1) := by decide +kernel
theorem dX5_looser_27 : decode cX5_looser 27 = .ok (.iload_n 2, 1) := by decide +kernel
theorem dX5_looser_28 : decode cX5_looser 28 = .ok (.bipush 36, 2) := by decide +kernel
theorem dX5_looser_30 : decode cX5_looser 30 = .ok (.if_icmp .ge 21, 3) := by decide +kernel
theorem dX5_looser_33 : decode cX5_looser 33 = .ok (.aload_n 0, 1) := by decide +kernel
theorem dX5_looser_34 : decode cX5_looser 34 = .ok (.getfield 50, 3) := by decide +kernel
theorem dX5_looser_37 : decode cX5_looser 37 = .ok (.iload_n 2, 1) := by decide +kernel
theorem dX5_looser_38 : decode cX5_looser 38 = .ok (.aload_n 0, 1) := by decide +kernel
theorem dX5_looser_39 : decode cX5_looser 39 = .ok (.getfield 28, 3) := by decide +kernel
theorem dX5_looser_42 : decode cX5_looser 42 = .ok (.iload_n 2, 1) := by decide +kernel
theorem dX5_looser_43 : decode cX5_looser 43 = .ok (.iaload, 1) := by decide +kernel
theorem dX5_looser_44 : decode cX5_looser 44 = .ok (.iastore, 1) := by decide +kernel
theorem dX5_looser_45 : decode cX5_looser 45 = .ok (.iinc 2 1, 3) := by decide +kernel
theorem dX5_looser_48 : decode cX5_looser 48 = .ok (.goto (-21), 3) := by decide +kernel
theorem dX5_looser_51 : decode cX5_looser 51 = .ok (.bipush (-6), 2) := by decide +kernel
theorem dX5_looser_53 : decode cX5_looser 53 = .ok (.istore_n 2, 1) := by decide +kernel
theorem dX5_looser_54 : decode cX5_looser 54 = .ok (.iconst 0, 1) := by decide +kernel
theorem dX5_looser_55 : decode cX5_looser 55 = .ok (.istore_n 3, 1) := by decide +kernel
theorem dX5_looser_56 : decode cX5_looser 56 = .ok (.iconst 0, 1) := by decide +kernel
theorem dX5_looser_57 : decode cX5_looser 57 = .ok (.istore 4, 2) := by decide +kernel
theorem dX5_looser_59 : decode cX5_looser 59 = .ok (.iload 4, 2) := by decide +kernel
theorem dX5_looser_61 : decode cX5_looser 61 = .ok (.iconst 3, 1) := by decide +kernel
theorem dX5_looser_62 : decode cX5_looser 62 = .ok (.if_icmp .ge 121, 3) := by decide +kernel
theorem dX5_looser_65 : decode cX5_looser 65 = .ok (.iload 4, 2) := by decide +kernel
theorem dX5_looser_67 : decode cX5_looser 67 = .ok (.iconst 1, 1) := by decide +kernel
theorem dX5_looser_68 : decode cX5_looser 68 = .ok (.iadd, 1) := by decide +kernel
theorem dX5_looser_69 : decode cX5_looser 69 = .ok (.istore 5, 2) := by decide +kernel
theorem dX5_looser_71 : decode cX5_looser 71 = .ok (.iload 5, 2) := by decide +kernel
theorem dX5_looser_73 : decode cX5_looser 73 = .ok (.iconst 4, 1) := by decide +kernel
theorem dX5_looser_74 : decode cX5_looser 74 = .ok (.if_icmp .ge 103, 3) := by decide +kernel
theorem dX5_looser_77 : decode cX5_looser 77 = .ok (.aload_n 0, 1) := by decide +kernel
theorem dX5_looser_78 : decode cX5_looser 78 = .ok (.invokevirtual 113, 3) := by decide +kernel
theorem dX5_looser_81 : decode cX5_looser 81 = .ok (.iload 5, 2) := by decide +kernel
theorem dX5_looser_83 : decode cX5_looser 83 = .ok (.iload 4, 2) := by decide +kernel
theorem dX5_looser_85 : decode cX5_looser 85 = .ok (.isub, 1) := by decide +kernel
theorem dX5_looser_86 : decode cX5_looser 86 = .ok (.aload_n 0, 1) := by decide +kernel
theorem dX5_looser_87 : decode cX5_looser 87 = .ok (.getfield 35, 3) := by decide +kernel
theorem dX5_looser_90 : decode cX5_looser 90 = .ok (.imul, 1) := by decide +kernel
theorem dX5_looser_91 : decode cX5_looser 91 = .ok (.aload_n 0, 1) := by decide +kernel
theorem dX5_looser_92 : decode cX5_looser 92 = .ok (.iload 4, 2) := by decide +kernel
theorem dX5_looser_94 : decode cX5_looser 94 = .ok (.invokevirtual 163, 3) := by decide +kernel
theorem dX5_looser_97 : decode cX5_looser 97 = .ok (.imul, 1) := by decide +kernel
theorem dX5_looser_98 : decode cX5_looser 98 = .ok (.istore 6, 2) := by decide +kernel
theorem dX5_looser_100 : decode cX5_looser 100 = .ok (.iload_n 2, 1) := by decide +kernel
theorem dX5_looser_101 : decode cX5_looser 101 = .ok (.ifCond .lt 9, 3) := by decide +kernel
theorem dX5_looser_104 : decode cX5_looser 104 = .ok (.iload 6, 2) := by decide +kernel
theorem dX5_looser_106 : decode cX5_looser 106 = .ok (.iload_n 3, 1) := by decide +kernel
theorem dX5_looser_107 : decode cX5_looser 107 = .ok (.if_icmp .ge 64, 3) := by decide +kernel
theorem dX5_looser_110 : decode cX5_looser 110 = .ok (.aload_n 0, 1) := by decide +kernel
theorem dX5_looser_111 : decode cX5_looser 111 = .ok (.iload 4, 2) := by decide +kernel
theorem dX5_looser_113 : decode cX5_looser 113 = .ok (.iload 5, 2) := by decide +kernel
theorem dX5_looser_115 : decode cX5_looser 115 = .ok (.invokevirtual 166, 3) := by decide +kernel
theorem dX5_looser_118 : decode cX5_looser 118 = .ok (.aload_n 0, 1) := by decide +kernel
theorem dX5_looser_119 : decode cX5_looser 119 = .ok (.invokevirtual 113, 3) := by decide +kernel
theorem dX5_looser_122 : decode cX5_looser 122 = .ok (.aload_n 0, 1) := by decide +kernel
theorem dX5_looser_123 : decode cX5_looser 123 = .ok (.invokevirtual 154, 3) := by decide +kernel
theorem dX5_looser_126 : decode cX5_looser 126 = .ok (.ifCond .eq 15, 3) := by decide +kernel
theorem dX5_looser_129 : decode cX5_looser 129 = .ok (.bipush 10, 2) := by decide +kernel
theorem dX5_looser_131 : decode cX5_looser 131 = .ok (.iload 4, 2) := by decide +kernel
theorem dX5_looser_133 : decode cX5_looser 133 = .ok (.imul, 1) := by decide +kernel
theorem dX5_looser_134 : decode cX5_looser 134 = .ok (.iload 5, 2) := by decide +kernel
theorem dX5_looser_136 : decode cX5_looser 136 = .ok (.iadd, 1) := by decide +kernel
theorem dX5_looser_137 : decode cX5_looser 137 = .ok (.istore_n 2, 1) := by decide +kernel
theorem dX5_looser_138 : decode cX5_looser 138 = .ok (.iload 6, 2) := by decide +kernel
theorem dX5_looser_140 : decode cX5_looser 140 = .ok (.istore_n 3, 1) := by decide +kernel
theorem dX5_looser_141 : decode cX5_looser 141 = .ok (.iconst 0, 1) := by decide +kernel
theorem dX5_looser_142 : decode cX5_looser 142 = .ok (.istore 7, 2) := by decide +kernel
theorem dX5_looser_144 : decode cX5_looser 144 = .ok (.iload 7, 2) := by decide +kernel
theorem dX5_looser_146 : decode cX5_looser 146 = .ok (.bipush 36, 2) := by decide +kernel
theorem dX5_looser_148 : decode cX5_looser 148 = .ok (.if_icmp .ge 23, 3) := by decide +kernel
theorem dX5_looser_151 : decode cX5_looser 151 = .ok (.aload_n 0, 1) := by decide +kernel
theorem dX5_looser_152 : decode cX5_looser 152 = .ok (.getfield 28, 3) := by decide +kernel
theorem dX5_looser_155 : decode cX5_looser 155 = .ok (.iload 7, 2) := by decide +kernel
theorem dX5_looser_157 : decode cX5_looser 157 = .ok (.aload_n 0, 1) := by decide +kernel
theorem dX5_looser_158 : decode cX5_looser 158 = .ok (.getfield 50, 3) := by decide +kernel
theorem dX5_looser_161 : decode cX5_looser 161 = .ok (.iload 7, 2) := by decide +kernel
theorem dX5_looser_163 : decode cX5_looser 163 = .ok (.iaload, 1) := by decide +kernel
theorem dX5_looser_164 : decode cX5_looser 164 = .ok (.iastore, 1) := by decide +kernel
theorem dX5_looser_165 : decode cX5_looser 165 = .ok (.iinc 7 1, 3) := by decide +kernel
theorem dX5_looser_168 : decode cX5_looser 168 = .ok (.goto (-24), 3) := by decide +kernel
theorem dX5_looser_171 : decode cX5_looser 171 = .ok (.iinc 5 1, 3) := by decide +kernel
theorem dX5_looser_174 : decode cX5_looser 174 = .ok (.goto (-103), 3) := by decide +kernel
theorem dX5_looser_177 : decode cX5_looser 177 = .ok (.iinc 4 1, 3) := by decide +kernel
theorem dX5_looser_180 : decode cX5_looser 180 = .ok (.goto (-121), 3) := by decide +kernel
theorem dX5_looser_183 : decode cX5_looser 183 = .ok (.iload_n 1, 1) := by decide +kernel
theorem dX5_looser_184 : decode cX5_looser 184 = .ok (.ifCond .eq 7, 3) := by decide +kernel
theorem dX5_looser_187 : decode cX5_looser 187 = .ok (.iload_n 2, 1) := by decide +kernel
theorem dX5_looser_188 : decode cX5_looser 188 = .ok (.ifCond .ge 7, 3) := by decide +kernel
theorem dX5_looser_191 : decode cX5_looser 191 = .ok (.iload_n 2, 1) := by decide +kernel
theorem dX5_looser_192 : decode cX5_looser 192 = .ok (.goto 4, 3) := by decide +kernel
theorem dX5_looser_195 : decode cX5_looser 195 = .ok (.iload_n 3, 1) := by decide +kernel
theorem dX5_looser_196 : decode cX5_looser 196 = .ok (.ireturn, 1) := by decide +kernel
theorem dX5_agree_0 : decode cX5_agree 0 = .ok (.iload_n 1, 1) := by decide +kernel
theorem dX5_agree_1 : decode cX5_agree 1 = .ok (.invokestatic 93, 3) := by decide +kernel
theorem dX5_agree_4 : decode cX5_agree 4 = .ok (.ifCond .ne 5, 3) := by decide +kernel
theorem dX5_agree_7 : decode cX5_agree 7 = .ok (.iconst (-1), 1) := by decide +kernel
theorem dX5_agree_8 : decode cX5_agree 8 = .ok (.ireturn, 1) := by decide +kernel
theorem dX5_agree_9 : decode cX5_agree 9 = .ok (.iload_n 2, 1) := by decide +kernel
theorem dX5_agree_10 : decode cX5_agree 10 = .ok (.iconst 0, 1) := by decide +kernel
theorem dX5_agree_11 : decode cX5_agree 11 = .ok (.bipush 63, 2) := by decide +kernel
theorem dX5_agree_13 : decode cX5_agree 13 = .ok (.invokestatic 69, 3) := by decide +kernel
theorem dX5_agree_16 : decode cX5_agree 16 = .ok (.ifCond .ne 6, 3) := by decide +kernel
theorem dX5_agree_19 : decode cX5_agree 19 = .ok (.bipush (-2), 2) := by decide +kernel
theorem dX5_agree_21 : decode cX5_agree 21 = .ok (.ireturn, 1) := by decide +kernel
theorem dX5_agree_22 : decode cX5_agree 22 = .ok (.aload_n 0, 1) := by decide +kernel
theorem dX5_agree_23 : decode cX5_agree 23 = .ok (.invokevirtual 113, 3) := by decide +kernel
theorem dX5_agree_26 : decode cX5_agree 26 = .ok (.iconst 0, 1) := by decide +kernel
theorem dX5_agree_27 : decode cX5_agree 27 = .ok (.istore_n 3, 1) := by decide +kernel
theorem dX5_agree_28 : decode cX5_agree 28 = .ok (.iconst 0, 1) := by decide +kernel
theorem dX5_agree_29 : decode cX5_agree 29 = .ok (.istore 4, 2) := by decide +kernel
theorem dX5_agree_31 : decode cX5_agree 31 = .ok (.iload 4, 2) := by decide +kernel
theorem dX5_agree_33 : decode cX5_agree 33 = .ok (.bipush 6, 2) := by decide +kernel
theorem dX5_agree_35 : decode cX5_agree 35 = .ok (.if_icmp .ge 76, 3) := by decide +kernel
theorem dX5_agree_38 : decode cX5_agree 38 = .ok (.aload_n 0, 1) := by decide +kernel
theorem dX5_agree_39 : decode cX5_agree 39 = .ok (.getfield 38, 3) := by decide +kernel
theorem dX5_agree_42 : decode cX5_agree 42 = .ok (.iconst 3, 1) := by decide +kernel
theorem dX5_agree_43 : decode cX5_agree 43 = .ok (.iaload, 1) := by decide +kernel
theorem dX5_agree_44 : decode cX5_agree 44 = .ok (.iload 4, 2) := by decide +kernel
theorem dX5_agree_46 : decode cX5_agree 46 = .ok (.invokestatic 103, 3) := by decide +kernel
theorem dX5_agree_49 : decode cX5_agree 49 = .ok (.ifCond .eq 30, 3) := by decide +kernel
theorem dX5_agree_52 : decode cX5_agree 52 = .ok (.iload_n 2, 1) := by decide +kernel
theorem dX5_agree_53 : decode cX5_agree 53 = .ok (.iload 4, 2) := by decide +kernel
theorem dX5_agree_55 : decode cX5_agree 55 = .ok (.invokestatic 103, 3) := by decide +kernel
theorem dX5_agree_58 : decode cX5_agree 58 = .ok (.ifCond .ne 21, 3) := by decide +kernel
theorem dX5_agree_61 : decode cX5_agree 61 = .ok (.aload_n 0, 1) := by decide +kernel
theorem dX5_agree_62 : decode cX5_agree 62 = .ok (.getfield 41, 3) := by decide +kernel
theorem dX5_agree_65 : decode cX5_agree 65 = .ok (.iload 4, 2) := by decide +kernel
theorem dX5_agree_67 : decode cX5_agree 67 = .ok (.iaload, 1) := by decide +kernel
theorem dX5_agree_68 : decode cX5_agree 68 = .ok (.iload_n 1, 1) := by decide +kernel
theorem dX5_agree_69 : decode cX5_agree 69 = .ok (.invokestatic 103, 3) := by decide +kernel
theorem dX5_agree_72 : decode cX5_agree 72 = .ok (.ifCond .ne 7, 3) := by decide +kernel
theorem dX5_agree_75 : decode cX5_agree 75 = .ok (.iconst 1, 1) := by decide +kernel
theorem dX5_agree_76 : decode cX5_agree 76 = .ok (.goto 4, 3) := by decide +kernel
theorem dX5_agree_79 : decode cX5_agree 79 = .ok (.iconst 0, 1) := by decide +kernel
theorem dX5_agree_80 : decode cX5_agree 80 = .ok (.istore 5, 2) := by decide +kernel
theorem dX5_agree_82 : decode cX5_agree 82 = .ok (.iload_n 3, 1) := by decide +kernel
theorem dX5_agree_83 : decode cX5_agree 83 = .ok (.iload 5, 2) := by decide +kernel
theorem dX5_agree_85 : decode cX5_agree 85 = .ok (.ifCond .eq 17, 3) := by decide +kernel
theorem dX5_agree_88 : decode cX5_agree 88 = .ok (.aload_n 0, 1) := by decide +kernel
theorem dX5_agree_89 : decode cX5_agree 89 = .ok (.getfield 25, 3) := by decide +kernel
theorem dX5_agree_92 : decode cX5_agree 92 = .ok (.iconst 4, 1) := by decide +kernel
theorem dX5_agree_93 : decode cX5_agree 93 = .ok (.iload 4, 2) := by decide +kernel
theorem dX5_agree_95 : decode cX5_agree 95 = .ok (.imul, 1) := by decide +kernel
theorem dX5_agree_96 : decode cX5_agree 96 = .ok (.iconst 2, 1) := by decide +kernel
theorem dX5_agree_97 : decode cX5_agree 97 = .ok (.iadd, 1) := by decide +kernel
theorem dX5_agree_98 : decode cX5_agree 98 = .ok (.iaload, 1) := by decide +kernel
theorem dX5_agree_99 : decode cX5_agree 99 = .ok (.goto 4, 3) := by decide +kernel
theorem dX5_agree_102 : decode cX5_agree 102 = .ok (.iconst 0, 1) := by decide +kernel
theorem dX5_agree_103 : decode cX5_agree 103 = .ok (.ior, 1) := by decide +kernel
theorem dX5_agree_104 : decode cX5_agree 104 = .ok (.istore_n 3, 1) := by decide +kernel
theorem dX5_agree_105 : decode cX5_agree 105 = .ok (.iinc 4 1, 3) := by decide +kernel
theorem dX5_agree_108 : decode cX5_agree 108 = .ok (.goto (-77), 3) := by decide +kernel
theorem dX5_agree_111 : decode cX5_agree 111 = .ok (.iload_n 3, 1) := by decide +kernel
theorem dX5_agree_112 : decode cX5_agree 112 = .ok (.ireturn, 1) := by decide +kernel
theorem dX5_more_0 : decode cX5_more 0 = .ok (.iload_n 1, 1) := by decide +kernel
theorem dX5_more_1 : decode cX5_more 1 = .ok (.invokestatic 97, 3) := by decide +kernel
theorem dX5_more_4 : decode cX5_more 4 = .ok (.ifCond .eq 11, 3) := by decide +kernel
theorem dX5_more_7 : decode cX5_more 7 = .ok (.iload_n 1, 1) := by decide +kernel
theorem dX5_more_8 : decode cX5_more 8 = .ok (.aload_n 0, 1) := by decide +kernel
theorem dX5_more_9 : decode cX5_more 9 = .ok (.getfield 31, 3) := by decide +kernel
theorem dX5_more_12 : decode cX5_more 12 = .ok (.if_icmp .lt 5, 3) := by decide +kernel
theorem dX5_more_15 : decode cX5_more 15 = .ok (.iconst (-1), 1) := by decide +kernel
theorem dX5_more_16 : decode cX5_more 16 = .ok (.ireturn, 1) := by decide +kernel
theorem dX5_more_17 : decode cX5_more 17 = .ok (.iload_n 2, 1) := by decide +kernel
theorem dX5_more_18 : decode cX5_more 18 = .ok (.iconst 0, 1) := by decide +kernel
theorem dX5_more_19 : decode cX5_more 19 = .ok (.iconst 3, 1) := by decide +kernel
theorem dX5_more_20 : decode cX5_more 20 = .ok (.invokestatic 69, 3) := by decide +kernel
theorem dX5_more_23 : decode cX5_more 23 = .ok (.ifCond .eq 12, 3) := by decide +kernel
theorem dX5_more_26 : decode cX5_more 26 = .ok (.iload_n 3, 1) := by decide +kernel
theorem dX5_more_27 : decode cX5_more 27 = .ok (.iconst 0, 1) := by decide +kernel
theorem dX5_more_28 : decode cX5_more 28 = .ok (.iconst 2, 1) := by decide +kernel
theorem dX5_more_29 : decode cX5_more 29 = .ok (.invokestatic 69, 3) := by decide +kernel
theorem dX5_more_32 : decode cX5_more 32 = .ok (.ifCond .ne 6, 3) := by decide +kernel
theorem dX5_more_35 : decode cX5_more 35 = .ok (.bipush (-2), 2) := by decide +kernel
theorem dX5_more_37 : decode cX5_more 37 = .ok (.ireturn, 1) := by decide +kernel
theorem dX5_more_38 : decode cX5_more 38 = .ok (.aload_n 0, 1) := by decide +kernel
theorem dX5_more_39 : decode cX5_more 39 = .ok (.getfield 28, 3) := by decide +kernel
theorem dX5_more_42 : decode cX5_more 42 = .ok (.bipush 6, 2) := by decide +kernel
theorem dX5_more_44 : decode cX5_more 44 = .ok (.aload_n 0, 1) := by decide +kernel
theorem dX5_more_45 : decode cX5_more 45 = .ok (.getfield 31, 3) := by decide +kernel
theorem dX5_more_48 : decode cX5_more 48 = .ok (.imul, 1) := by decide +kernel
theorem dX5_more_49 : decode cX5_more 49 = .ok (.iload_n 1, 1) := by decide +kernel
theorem dX5_more_50 : decode cX5_more 50 = .ok (.iadd, 1) := by decide +kernel
theorem dX5_more_51 : decode cX5_more 51 = .ok (.iaload, 1) := by decide +kernel
theorem dX5_more_52 : decode cX5_more 52 = .ok (.ifCond .lt 6, 3) := by decide +kernel
theorem dX5_more_55 : decode cX5_more 55 = .ok (.bipush (-3), 2) := by decide +kernel
theorem dX5_more_57 : decode cX5_more 57 = .ok (.ireturn, 1) := by decide +kernel
theorem dX5_more_58 : decode cX5_more 58 = .ok (.aload_n 0, 1) := by decide +kernel
theorem dX5_more_59 : decode cX5_more 59 = .ok (.invokevirtual 113, 3) := by decide +kernel
theorem dX5_more_62 : decode cX5_more 62 = .ok (.aload_n 0, 1) := by decide +kernel
theorem dX5_more_63 : decode cX5_more 63 = .ok (.iload_n 3, 1) := by decide +kernel
theorem dX5_more_64 : decode cX5_more 64 = .ok (.invokevirtual 151, 3) := by decide +kernel
theorem dX5_more_67 : decode cX5_more 67 = .ok (.istore 4, 2) := by decide +kernel
theorem dX5_more_69 : decode cX5_more 69 = .ok (.aload_n 0, 1) := by decide +kernel
theorem dX5_more_70 : decode cX5_more 70 = .ok (.getfield 141, 3) := by decide +kernel
theorem dX5_more_73 : decode cX5_more 73 = .ok (.istore 5, 2) := by decide +kernel
theorem dX5_more_75 : decode cX5_more 75 = .ok (.aload_n 0, 1) := by decide +kernel
theorem dX5_more_76 : decode cX5_more 76 = .ok (.getfield 28, 3) := by decide +kernel
theorem dX5_more_79 : decode cX5_more 79 = .ok (.bipush 6, 2) := by decide +kernel
theorem dX5_more_81 : decode cX5_more 81 = .ok (.aload_n 0, 1) := by decide +kernel
theorem dX5_more_82 : decode cX5_more 82 = .ok (.getfield 31, 3) := by decide +kernel
theorem dX5_more_85 : decode cX5_more 85 = .ok (.imul, 1) := by decide +kernel
theorem dX5_more_86 : decode cX5_more 86 = .ok (.iload_n 1, 1) := by decide +kernel
theorem dX5_more_87 : decode cX5_more 87 = .ok (.iadd, 1) := by decide +kernel
theorem dX5_more_88 : decode cX5_more 88 = .ok (.iload_n 2, 1) := by decide +kernel
theorem dX5_more_89 : decode cX5_more 89 = .ok (.iastore, 1) := by decide +kernel
theorem dX5_more_90 : decode cX5_more 90 = .ok (.aload_n 0, 1) := by decide +kernel
theorem dX5_more_91 : decode cX5_more 91 = .ok (.invokevirtual 113, 3) := by decide +kernel
theorem dX5_more_94 : decode cX5_more 94 = .ok (.aload_n 0, 1) := by decide +kernel
theorem dX5_more_95 : decode cX5_more 95 = .ok (.iload_n 3, 1) := by decide +kernel
theorem dX5_more_96 : decode cX5_more 96 = .ok (.invokevirtual 151, 3) := by decide +kernel
theorem dX5_more_99 : decode cX5_more 99 = .ok (.istore 6, 2) := by decide +kernel
theorem dX5_more_101 : decode cX5_more 101 = .ok (.aload_n 0, 1) := by decide +kernel
theorem dX5_more_102 : decode cX5_more 102 = .ok (.getfield 28, 3) := by decide +kernel
theorem dX5_more_105 : decode cX5_more 105 = .ok (.bipush 6, 2) := by decide +kernel
theorem dX5_more_107 : decode cX5_more 107 = .ok (.aload_n 0, 1) := by decide +kernel
theorem dX5_more_108 : decode cX5_more 108 = .ok (.getfield 31, 3) := by decide +kernel
theorem dX5_more_111 : decode cX5_more 111 = .ok (.imul, 1) := by decide +kernel
theorem dX5_more_112 : decode cX5_more 112 = .ok (.iload_n 1, 1) := by decide +kernel
theorem dX5_more_113 : decode cX5_more 113 = .ok (.iadd, 1) := by decide +kernel
theorem dX5_more_114 : decode cX5_more 114 = .ok (.bipush (-6), 2) := by decide +kernel
theorem dX5_more_116 : decode cX5_more 116 = .ok (.iastore, 1) := by decide +kernel
theorem dX5_more_117 : decode cX5_more 117 = .ok (.iload 4, 2) := by decide +kernel
theorem dX5_more_119 : decode cX5_more 119 = .ok (.ifCond .eq 20, 3) := by decide +kernel
theorem dX5_more_122 : decode cX5_more 122 = .ok (.iload 6, 2) := by decide +kernel
theorem dX5_more_124 : decode cX5_more 124 = .ok (.ifCond .eq 15, 3) := by decide +kernel
theorem dX5_more_127 : decode cX5_more 127 = .ok (.aload_n 0, 1) := by decide +kernel
theorem dX5_more_128 : decode cX5_more 128 = .ok (.getfield 141, 3) := by decide +kernel
theorem dX5_more_131 : decode cX5_more 131 = .ok (.iload 5, 2) := by decide +kernel
theorem dX5_more_133 : decode cX5_more 133 = .ok (.iconst (-1), 1) := by decide +kernel
theorem dX5_more_134 : decode cX5_more 134 = .ok (.ixor, 1) := by decide +kernel
theorem dX5_more_135 : decode cX5_more 135 = .ok (.iand, 1) := by decide +kernel
theorem dX5_more_136 : decode cX5_more 136 = .ok (.goto 5, 3) := by decide +kernel
theorem dX5_more_139 : decode cX5_more 139 = .ok (.bipush (-6), 2) := by decide +kernel
theorem dX5_more_141 : decode cX5_more 141 = .ok (.ireturn, 1) := by decide +kernel
theorem dX5_names_0 : decode cX5_names 0 = .ok (.aload_n 0, 1) := by decide +kernel
theorem dX5_names_1 : decode cX5_names 1 = .ok (.invokevirtual 113, 3) := by decide +kernel
theorem dX5_names_4 : decode cX5_names 4 = .ok (.aload_n 0, 1) := by decide +kernel
theorem dX5_names_5 : decode cX5_names 5 = .ok (.iconst 0, 1) := by decide +kernel
theorem dX5_names_6 : decode cX5_names 6 = .ok (.invokevirtual 151, 3) := by decide +kernel
theorem dX5_names_9 : decode cX5_names 9 = .ok (.ifCond .ne 6, 3) := by decide +kernel
theorem dX5_names_12 : decode cX5_names 12 = .ok (.bipush (-6), 2) := by decide +kernel
theorem dX5_names_14 : decode cX5_names 14 = .ok (.ireturn, 1) := by decide +kernel
theorem dX5_names_15 : decode cX5_names 15 = .ok (.iconst 0, 1) := by decide +kernel
theorem dX5_names_16 : decode cX5_names 16 = .ok (.istore_n 2, 1) := by decide +kernel
theorem dX5_names_17 : decode cX5_names 17 = .ok (.iload_n 2, 1) := by decide +kernel
theorem dX5_names_18 : decode cX5_names 18 = .ok (.bipush 6, 2) := by decide +kernel
theorem dX5_names_20 : decode cX5_names 20 = .ok (.if_icmp .ge 16, 3) := by decide +kernel
theorem dX5_names_23 : decode cX5_names 23 = .ok (.aload_n 0, 1) := by decide +kernel
theorem dX5_names_24 : decode cX5_names 24 = .ok (.getfield 53, 3) := by decide +kernel
theorem dX5_names_27 : decode cX5_names 27 = .ok (.iload_n 2, 1) := by decide +kernel
theorem dX5_names_28 : decode cX5_names 28 = .ok (.iconst 0, 1) := by decide +kernel
theorem dX5_names_29 : decode cX5_names 29 = .ok (.iastore, 1) := by decide +kernel
theorem dX5_names_30 : decode cX5_names 30 = .ok (.iinc 2 1, 3) := by decide +kernel
theorem dX5_names_33 : decode cX5_names 33 = .ok (.goto (-16), 3) := by decide +kernel
theorem dX5_names_36 : decode cX5_names 36 = .ok (.iconst 0, 1) := by decide +kernel
theorem dX5_names_37 : decode cX5_names 37 = .ok (.istore_n 2, 1) := by decide +kernel
theorem dX5_names_38 : decode cX5_names 38 = .ok (.iload_n 2, 1) := by decide +kernel
theorem dX5_names_39 : decode cX5_names 39 = .ok (.bipush 6, 2) := by decide +kernel
