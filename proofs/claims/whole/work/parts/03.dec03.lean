theorem dX4_fewestBarring_20 : decode cX4_fewestBarring 20 = .ok (.iload_n 1, 1) := by decide +kernel
theorem dX4_fewestBarring_21 : decode cX4_fewestBarring 21 = .ok (.invokestatic 218, 3) := by decide +kernel
theorem dX4_fewestBarring_24 : decode cX4_fewestBarring 24 = .ok (.if_icmp .ge 7, 3) := by decide +kernel
theorem dX4_fewestBarring_27 : decode cX4_fewestBarring 27 = .ok (.iconst 1, 1) := by decide +kernel
theorem dX4_fewestBarring_28 : decode cX4_fewestBarring 28 = .ok (.goto 4, 3) := by decide +kernel
theorem dX4_fewestBarring_31 : decode cX4_fewestBarring 31 = .ok (.iconst 0, 1) := by decide +kernel
theorem dX4_fewestBarring_32 : decode cX4_fewestBarring 32 = .ok (.istore_n 3, 1) := by decide +kernel
theorem dX4_fewestBarring_33 : decode cX4_fewestBarring 33 = .ok (.iload_n 3, 1) := by decide +kernel
theorem dX4_fewestBarring_34 : decode cX4_fewestBarring 34 = .ok (.ifCond .eq 30, 3) := by decide +kernel
theorem dX4_fewestBarring_37 : decode cX4_fewestBarring 37 = .ok (.iload_n 2, 1) := by decide +kernel
theorem dX4_fewestBarring_38 : decode cX4_fewestBarring 38 = .ok (.aload_n 0, 1) := by decide +kernel
theorem dX4_fewestBarring_39 : decode cX4_fewestBarring 39 = .ok (.getfield 19, 3) := by decide +kernel
theorem dX4_fewestBarring_42 : decode cX4_fewestBarring 42 = .ok (.getfield 158, 3) := by decide +kernel
theorem dX4_fewestBarring_45 : decode cX4_fewestBarring 45 = .ok (.invokestatic 223, 3) := by decide +kernel
theorem dX4_fewestBarring_48 : decode cX4_fewestBarring 48 = .ok (.ifCond .eq 16, 3) := by decide +kernel
theorem dX4_fewestBarring_51 : decode cX4_fewestBarring 51 = .ok (.aload_n 0, 1) := by decide +kernel
theorem dX4_fewestBarring_52 : decode cX4_fewestBarring 52 = .ok (.getfield 19, 3) := by decide +kernel
theorem dX4_fewestBarring_55 : decode cX4_fewestBarring 55 = .ok (.iload_n 2, 1) := by decide +kernel
theorem dX4_fewestBarring_56 : decode cX4_fewestBarring 56 = .ok (.invokevirtual 168, 3) := by decide +kernel
theorem dX4_fewestBarring_59 : decode cX4_fewestBarring 59 = .ok (.ifCond .ne 5, 3) := by decide +kernel
theorem dX4_fewestBarring_62 : decode cX4_fewestBarring 62 = .ok (.iload_n 2, 1) := by decide +kernel
theorem dX4_fewestBarring_63 : decode cX4_fewestBarring 63 = .ok (.istore_n 1, 1) := by decide +kernel
theorem dX4_fewestBarring_64 : decode cX4_fewestBarring 64 = .ok (.iinc 2 1, 3) := by decide +kernel
theorem dX4_fewestBarring_67 : decode cX4_fewestBarring 67 = .ok (.goto (-57), 3) := by decide +kernel
theorem dX4_fewestBarring_70 : decode cX4_fewestBarring 70 = .ok (.iload_n 1, 1) := by decide +kernel
theorem dX4_fewestBarring_71 : decode cX4_fewestBarring 71 = .ok (.ireturn, 1) := by decide +kernel
theorem dX4_cheapestAnew_0 : decode cX4_cheapestAnew 0 = .ok (.aload_n 0, 1) := by decide +kernel
theorem dX4_cheapestAnew_1 : decode cX4_cheapestAnew 1 = .ok (.getfield 19, 3) := by decide +kernel
theorem dX4_cheapestAnew_4 : decode cX4_cheapestAnew 4 = .ok (.getfield 158, 3) := by decide +kernel
theorem dX4_cheapestAnew_7 : decode cX4_cheapestAnew 7 = .ok (.istore_n 1, 1) := by decide +kernel
theorem dX4_cheapestAnew_8 : decode cX4_cheapestAnew 8 = .ok (.iconst 0, 1) := by decide +kernel
theorem dX4_cheapestAnew_9 : decode cX4_cheapestAnew 9 = .ok (.istore_n 2, 1) := by decide +kernel
theorem dX4_cheapestAnew_10 : decode cX4_cheapestAnew 10 = .ok (.iload_n 2, 1) := by decide +kernel
theorem dX4_cheapestAnew_11 : decode cX4_cheapestAnew 11 = .ok (.bipush 63, 2) := by decide +kernel
theorem dX4_cheapestAnew_13 : decode cX4_cheapestAnew 13 = .ok (.if_icmp .gt 55, 3) := by decide +kernel
theorem dX4_cheapestAnew_16 : decode cX4_cheapestAnew 16 = .ok (.iload_n 2, 1) := by decide +kernel
theorem dX4_cheapestAnew_17 : decode cX4_cheapestAnew 17 = .ok (.aload_n 0, 1) := by decide +kernel
theorem dX4_cheapestAnew_18 : decode cX4_cheapestAnew 18 = .ok (.getfield 19, 3) := by decide +kernel
theorem dX4_cheapestAnew_21 : decode cX4_cheapestAnew 21 = .ok (.getfield 158, 3) := by decide +kernel
theorem dX4_cheapestAnew_24 : decode cX4_cheapestAnew 24 = .ok (.invokestatic 223, 3) := by decide +kernel
theorem dX4_cheapestAnew_27 : decode cX4_cheapestAnew 27 = .ok (.ifCond .eq 35, 3) := by decide +kernel
theorem dX4_cheapestAnew_30 : decode cX4_cheapestAnew 30 = .ok (.aload_n 0, 1) := by decide +kernel
theorem dX4_cheapestAnew_31 : decode cX4_cheapestAnew 31 = .ok (.iload_n 2, 1) := by decide +kernel
theorem dX4_cheapestAnew_32 : decode cX4_cheapestAnew 32 = .ok (.iload_n 1, 1) := by decide +kernel
theorem dX4_cheapestAnew_33 : decode cX4_cheapestAnew 33 = .ok (.invokevirtual 226, 3) := by decide +kernel
theorem dX4_cheapestAnew_36 : decode cX4_cheapestAnew 36 = .ok (.ifCond .eq 26, 3) := by decide +kernel
theorem dX4_cheapestAnew_39 : decode cX4_cheapestAnew 39 = .ok (.aload_n 0, 1) := by decide +kernel
theorem dX4_cheapestAnew_40 : decode cX4_cheapestAnew 40 = .ok (.getfield 19, 3) := by decide +kernel
theorem dX4_cheapestAnew_43 : decode cX4_cheapestAnew 43 = .ok (.aload_n 0, 1) := by decide +kernel
theorem dX4_cheapestAnew_44 : decode cX4_cheapestAnew 44 = .ok (.getfield 19, 3) := by decide +kernel
theorem dX4_cheapestAnew_47 : decode cX4_cheapestAnew 47 = .ok (.getfield 158, 3) := by decide +kernel
theorem dX4_cheapestAnew_50 : decode cX4_cheapestAnew 50 = .ok (.iload_n 2, 1) := by decide +kernel
theorem dX4_cheapestAnew_51 : decode cX4_cheapestAnew 51 = .ok (.iconst (-1), 1) := by decide +kernel
theorem dX4_cheapestAnew_52 : decode cX4_cheapestAnew 52 = .ok (.ixor, 1) := by decide +kernel
theorem dX4_cheapestAnew_53 : decode cX4_cheapestAnew 53 = .ok (.iand, 1) := by decide +kernel
theorem dX4_cheapestAnew_54 : decode cX4_cheapestAnew 54 = .ok (.invokevirtual 168, 3) := by decide +kernel
theorem dX4_cheapestAnew_57 : decode cX4_cheapestAnew 57 = .ok (.ifCond .eq 5, 3) := by decide +kernel
theorem dX4_cheapestAnew_60 : decode cX4_cheapestAnew 60 = .ok (.iload_n 2, 1) := by decide +kernel
theorem dX4_cheapestAnew_61 : decode cX4_cheapestAnew 61 = .ok (.istore_n 1, 1) := by decide +kernel
theorem dX4_cheapestAnew_62 : decode cX4_cheapestAnew 62 = .ok (.iinc 2 1, 3) := by decide +kernel
theorem dX4_cheapestAnew_65 : decode cX4_cheapestAnew 65 = .ok (.goto (-55), 3) := by decide +kernel
theorem dX4_cheapestAnew_68 : decode cX4_cheapestAnew 68 = .ok (.iload_n 1, 1) := by decide +kernel
theorem dX4_cheapestAnew_69 : decode cX4_cheapestAnew 69 = .ok (.ireturn, 1) := by decide +kernel
theorem dX4_isCheaper_0 : decode cX4_isCheaper 0 = .ok (.aload_n 0, 1) := by decide +kernel
theorem dX4_isCheaper_1 : decode cX4_isCheaper 1 = .ok (.iload_n 1, 1) := by decide +kernel
theorem dX4_isCheaper_2 : decode cX4_isCheaper 2 = .ok (.invokevirtual 177, 3) := by decide +kernel
theorem dX4_isCheaper_5 : decode cX4_isCheaper 5 = .ok (.istore_n 3, 1) := by decide +kernel
theorem dX4_isCheaper_6 : decode cX4_isCheaper 6 = .ok (.aload_n 0, 1) := by decide +kernel
theorem dX4_isCheaper_7 : decode cX4_isCheaper 7 = .ok (.iload_n 2, 1) := by decide +kernel
theorem dX4_isCheaper_8 : decode cX4_isCheaper 8 = .ok (.invokevirtual 177, 3) := by decide +kernel
theorem dX4_isCheaper_11 : decode cX4_isCheaper 11 = .ok (.istore 4, 2) := by decide +kernel
theorem dX4_isCheaper_13 : decode cX4_isCheaper 13 = .ok (.iload_n 3, 1) := by decide +kernel
theorem dX4_isCheaper_14 : decode cX4_isCheaper 14 = .ok (.iload 4, 2) := by decide +kernel
theorem dX4_isCheaper_16 : decode cX4_isCheaper 16 = .ok (.if_icmp .eq 15, 3) := by decide +kernel
theorem dX4_isCheaper_19 : decode cX4_isCheaper 19 = .ok (.iload_n 3, 1) := by decide +kernel
theorem dX4_isCheaper_20 : decode cX4_isCheaper 20 = .ok (.iload 4, 2) := by decide +kernel
theorem dX4_isCheaper_22 : decode cX4_isCheaper 22 = .ok (.if_icmp .ge 7, 3) := by decide +kernel
theorem dX4_isCheaper_25 : decode cX4_isCheaper 25 = .ok (.iconst 1, 1) := by decide +kernel
theorem dX4_isCheaper_26 : decode cX4_isCheaper 26 = .ok (.goto 4, 3) := by decide +kernel
theorem dX4_isCheaper_29 : decode cX4_isCheaper 29 = .ok (.iconst 0, 1) := by decide +kernel
theorem dX4_isCheaper_30 : decode cX4_isCheaper 30 = .ok (.ireturn, 1) := by decide +kernel
theorem dX4_isCheaper_31 : decode cX4_isCheaper 31 = .ok (.iload_n 1, 1) := by decide +kernel
theorem dX4_isCheaper_32 : decode cX4_isCheaper 32 = .ok (.invokestatic 218, 3) := by decide +kernel
theorem dX4_isCheaper_35 : decode cX4_isCheaper 35 = .ok (.iload_n 2, 1) := by decide +kernel
theorem dX4_isCheaper_36 : decode cX4_isCheaper 36 = .ok (.invokestatic 218, 3) := by decide +kernel
theorem dX4_isCheaper_39 : decode cX4_isCheaper 39 = .ok (.if_icmp .ge 7, 3) := by decide +kernel
theorem dX4_isCheaper_42 : decode cX4_isCheaper 42 = .ok (.iconst 1, 1) := by decide +kernel
theorem dX4_isCheaper_43 : decode cX4_isCheaper 43 = .ok (.goto 4, 3) := by decide +kernel
theorem dX4_isCheaper_46 : decode cX4_isCheaper 46 = .ok (.iconst 0, 1) := by decide +kernel
theorem dX4_isCheaper_47 : decode cX4_isCheaper 47 = .ok (.ireturn, 1) := by decide +kernel
theorem dX4_costOf_0 : decode cX4_costOf 0 = .ok (.iconst 0, 1) := by decide +kernel
theorem dX4_costOf_1 : decode cX4_costOf 1 = .ok (.istore_n 2, 1) := by decide +kernel
theorem dX4_costOf_2 : decode cX4_costOf 2 = .ok (.iconst 0, 1) := by decide +kernel
theorem dX4_costOf_3 : decode cX4_costOf 3 = .ok (.istore_n 3, 1) := by decide +kernel
theorem dX4_costOf_4 : decode cX4_costOf 4 = .ok (.iload_n 3, 1) := by decide +kernel
theorem dX4_costOf_5 : decode cX4_costOf 5 = .ok (.bipush 6, 2) := by decide +kernel
theorem dX4_costOf_7 : decode cX4_costOf 7 = .ok (.if_icmp .ge 29, 3) := by decide +kernel
theorem dX4_costOf_10 : decode cX4_costOf 10 = .ok (.iload_n 1, 1) := by decide +kernel
theorem dX4_costOf_11 : decode cX4_costOf 11 = .ok (.iload_n 3, 1) := by decide +kernel
theorem dX4_costOf_12 : decode cX4_costOf 12 = .ok (.invokestatic 161, 3) := by decide +kernel
theorem dX4_costOf_15 : decode cX4_costOf 15 = .ok (.ifCond .eq 15, 3) := by decide +kernel
theorem dX4_costOf_18 : decode cX4_costOf 18 = .ok (.iload_n 2, 1) := by decide +kernel
theorem dX4_costOf_19 : decode cX4_costOf 19 = .ok (.aload_n 0, 1) := by decide +kernel
theorem dX4_costOf_20 : decode cX4_costOf 20 = .ok (.getfield 27, 3) := by decide +kernel
theorem dX4_costOf_23 : decode cX4_costOf 23 = .ok (.getfield 104, 3) := by decide +kernel
theorem dX4_costOf_26 : decode cX4_costOf 26 = .ok (.iload_n 3, 1) := by decide +kernel
theorem dX4_costOf_27 : decode cX4_costOf 27 = .ok (.iaload, 1) := by decide +kernel
theorem dX4_costOf_28 : decode cX4_costOf 28 = .ok (.iadd, 1) := by decide +kernel
theorem dX4_costOf_29 : decode cX4_costOf 29 = .ok (.istore_n 2, 1) := by decide +kernel
theorem dX4_costOf_30 : decode cX4_costOf 30 = .ok (.iinc 3 1, 3) := by decide +kernel
theorem dX4_costOf_33 : decode cX4_costOf 33 = .ok (.goto (-29), 3) := by decide +kernel
theorem dX4_costOf_36 : decode cX4_costOf 36 = .ok (.iload_n 2, 1) := by decide +kernel
theorem dX4_costOf_37 : decode cX4_costOf 37 = .ok (.ireturn, 1) := by decide +kernel
theorem dX4_cheapestLooser_0 : decode cX4_cheapestLooser 0 = .ok (.bipush (-6), 2) := by decide +kernel
theorem dX4_cheapestLooser_2 : decode cX4_cheapestLooser 2 = .ok (.istore_n 2, 1) := by decide +kernel
theorem dX4_cheapestLooser_3 : decode cX4_cheapestLooser 3 = .ok (.bipush (-6), 2) := by decide +kernel
theorem dX4_cheapestLooser_5 : decode cX4_cheapestLooser 5 = .ok (.istore_n 3, 1) := by decide +kernel
theorem dX4_cheapestLooser_6 : decode cX4_cheapestLooser 6 = .ok (.iconst 0, 1) := by decide +kernel
theorem dX4_cheapestLooser_7 : decode cX4_cheapestLooser 7 = .ok (.istore 4, 2) := by decide +kernel
theorem dX4_cheapestLooser_9 : decode cX4_cheapestLooser 9 = .ok (.iload 4, 2) := by decide +kernel
theorem dX4_cheapestLooser_11 : decode cX4_cheapestLooser 11 = .ok (.iconst 3, 1) := by decide +kernel
theorem dX4_cheapestLooser_12 : decode cX4_cheapestLooser 12 = .ok (.if_icmp .ge 106, 3) := by decide +kernel
theorem dX4_cheapestLooser_15 : decode cX4_cheapestLooser 15 = .ok (.iload 4, 2) := by decide +kernel
theorem dX4_cheapestLooser_17 : decode cX4_cheapestLooser 17 = .ok (.iconst 1, 1) := by decide +kernel
theorem dX4_cheapestLooser_18 : decode cX4_cheapestLooser 18 = .ok (.iadd, 1) := by decide +kernel
theorem dX4_cheapestLooser_19 : decode cX4_cheapestLooser 19 = .ok (.istore 5, 2) := by decide +kernel
theorem dX4_cheapestLooser_21 : decode cX4_cheapestLooser 21 = .ok (.iload 5, 2) := by decide +kernel
theorem dX4_cheapestLooser_23 : decode cX4_cheapestLooser 23 = .ok (.iconst 3, 1) := by decide +kernel
theorem dX4_cheapestLooser_24 : decode cX4_cheapestLooser 24 = .ok (.if_icmp .gt 88, 3) := by decide +kernel
theorem dX4_cheapestLooser_27 : decode cX4_cheapestLooser 27 = .ok (.aload_n 0, 1) := by decide +kernel
theorem dX4_cheapestLooser_28 : decode cX4_cheapestLooser 28 = .ok (.getfield 19, 3) := by decide +kernel
theorem dX4_cheapestLooser_31 : decode cX4_cheapestLooser 31 = .ok (.invokevirtual 124, 3) := by decide +kernel
theorem dX4_cheapestLooser_34 : decode cX4_cheapestLooser 34 = .ok (.aload_n 0, 1) := by decide +kernel
theorem dX4_cheapestLooser_35 : decode cX4_cheapestLooser 35 = .ok (.getfield 19, 3) := by decide +kernel
theorem dX4_cheapestLooser_38 : decode cX4_cheapestLooser 38 = .ok (.iload 4, 2) := by decide +kernel
theorem dX4_cheapestLooser_40 : decode cX4_cheapestLooser 40 = .ok (.iload 5, 2) := by decide +kernel
theorem dX4_cheapestLooser_42 : decode cX4_cheapestLooser 42 = .ok (.invokevirtual 229, 3) := by decide +kernel
theorem dX4_cheapestLooser_45 : decode cX4_cheapestLooser 45 = .ok (.istore 6, 2) := by decide +kernel
theorem dX4_cheapestLooser_47 : decode cX4_cheapestLooser 47 = .ok (.iload 5, 2) := by decide +kernel
theorem dX4_cheapestLooser_49 : decode cX4_cheapestLooser 49 = .ok (.iload 4, 2) := by decide +kernel
theorem dX4_cheapestLooser_51 : decode cX4_cheapestLooser 51 = .ok (.isub, 1) := by decide +kernel
theorem dX4_cheapestLooser_52 : decode cX4_cheapestLooser 52 = .ok (.aload_n 0, 1) := by decide +kernel
theorem dX4_cheapestLooser_53 : decode cX4_cheapestLooser 53 = .ok (.getfield 27, 3) := by decide +kernel
theorem dX4_cheapestLooser_56 : decode cX4_cheapestLooser 56 = .ok (.getfield 121, 3) := by decide +kernel
theorem dX4_cheapestLooser_59 : decode cX4_cheapestLooser 59 = .ok (.imul, 1) := by decide +kernel
theorem dX4_cheapestLooser_60 : decode cX4_cheapestLooser 60 = .ok (.iload 6, 2) := by decide +kernel
theorem dX4_cheapestLooser_62 : decode cX4_cheapestLooser 62 = .ok (.imul, 1) := by decide +kernel
theorem dX4_cheapestLooser_63 : decode cX4_cheapestLooser 63 = .ok (.istore 7, 2) := by decide +kernel
theorem dX4_cheapestLooser_65 : decode cX4_cheapestLooser 65 = .ok (.iload_n 3, 1) := by decide +kernel
theorem dX4_cheapestLooser_66 : decode cX4_cheapestLooser 66 = .ok (.bipush (-6), 2) := by decide +kernel
theorem dX4_cheapestLooser_68 : decode cX4_cheapestLooser 68 = .ok (.if_icmp .eq 9, 3) := by decide +kernel
theorem dX4_cheapestLooser_71 : decode cX4_cheapestLooser 71 = .ok (.iload 7, 2) := by decide +kernel
theorem dX4_cheapestLooser_73 : decode cX4_cheapestLooser 73 = .ok (.iload_n 3, 1) := by decide +kernel
theorem dX4_cheapestLooser_74 : decode cX4_cheapestLooser 74 = .ok (.if_icmp .ge 32, 3) := by decide +kernel
theorem dX4_cheapestLooser_77 : decode cX4_cheapestLooser 77 = .ok (.aload_n 0, 1) := by decide +kernel
theorem dX4_cheapestLooser_78 : decode cX4_cheapestLooser 78 = .ok (.getfield 19, 3) := by decide +kernel
theorem dX4_cheapestLooser_81 : decode cX4_cheapestLooser 81 = .ok (.aload_n 0, 1) := by decide +kernel
theorem dX4_cheapestLooser_82 : decode cX4_cheapestLooser 82 = .ok (.getfield 19, 3) := by decide +kernel
theorem dX4_cheapestLooser_85 : decode cX4_cheapestLooser 85 = .ok (.getfield 158, 3) := by decide +kernel
theorem dX4_cheapestLooser_88 : decode cX4_cheapestLooser 88 = .ok (.invokevirtual 168, 3) := by decide +kernel
theorem dX4_cheapestLooser_91 : decode cX4_cheapestLooser 91 = .ok (.ifCond .eq 15, 3) := by decide +kernel
theorem dX4_cheapestLooser_94 : decode cX4_cheapestLooser 94 = .ok (.iload 7, 2) := by decide +kernel
theorem dX4_cheapestLooser_96 : decode cX4_cheapestLooser 96 = .ok (.istore_n 3, 1) := by decide +kernel
theorem dX4_cheapestLooser_97 : decode cX4_cheapestLooser 97 = .ok (.bipush 10, 2) := by decide +kernel
theorem dX4_cheapestLooser_99 : decode cX4_cheapestLooser 99 = .ok (.iload 4, 2) := by decide +kernel
theorem dX4_cheapestLooser_101 : decode cX4_cheapestLooser 101 = .ok (.imul, 1) := by decide +kernel
theorem dX4_cheapestLooser_102 : decode cX4_cheapestLooser 102 = .ok (.iload 5, 2) := by decide +kernel
theorem dX4_cheapestLooser_104 : decode cX4_cheapestLooser 104 = .ok (.iadd, 1) := by decide +kernel
theorem dX4_cheapestLooser_105 : decode cX4_cheapestLooser 105 = .ok (.istore_n 2, 1) := by decide +kernel
theorem dX4_cheapestLooser_106 : decode cX4_cheapestLooser 106 = .ok (.iinc 5 1, 3) := by decide +kernel
theorem dX4_cheapestLooser_109 : decode cX4_cheapestLooser 109 = .ok (.goto (-88), 3) := by decide +kernel
theorem dX4_cheapestLooser_112 : decode cX4_cheapestLooser 112 = .ok (.iinc 4 1, 3) := by decide +kernel
theorem dX4_cheapestLooser_115 : decode cX4_cheapestLooser 115 = .ok (.goto (-106), 3) := by decide +kernel
theorem dX4_cheapestLooser_118 : decode cX4_cheapestLooser 118 = .ok (.iload_n 1, 1) := by decide +kernel
theorem dX4_cheapestLooser_119 : decode cX4_cheapestLooser 119 = .ok (.ifCond .ne 7, 3) := by decide +kernel
theorem dX4_cheapestLooser_122 : decode cX4_cheapestLooser 122 = .ok (.iload_n 2, 1) := by decide +kernel
theorem dX4_cheapestLooser_123 : decode cX4_cheapestLooser 123 = .ok (.goto 4, 3) := by decide +kernel
theorem dX4_cheapestLooser_126 : decode cX4_cheapestLooser 126 = .ok (.iload_n 3, 1) := by decide +kernel
theorem dX4_cheapestLooser_127 : decode cX4_cheapestLooser 127 = .ok (.ireturn, 1) := by decide +kernel
theorem dX4_countNamed_0 : decode cX4_countNamed 0 = .ok (.aload_n 0, 1) := by decide +kernel
theorem dX4_countNamed_1 : decode cX4_countNamed 1 = .ok (.getfield 19, 3) := by decide +kernel
theorem dX4_countNamed_4 : decode cX4_countNamed 4 = .ok (.aload_n 0, 1) := by decide +kernel
theorem dX4_countNamed_5 : decode cX4_countNamed 5 = .ok (.getfield 31, 3) := by decide +kernel
theorem dX4_countNamed_8 : decode cX4_countNamed 8 = .ok (.getfield 134, 3) := by decide +kernel
theorem dX4_countNamed_11 : decode cX4_countNamed 11 = .ok (.invokevirtual 137, 3) := by decide +kernel
theorem dX4_countNamed_14 : decode cX4_countNamed 14 = .ok (.istore_n 1, 1) := by decide +kernel
theorem dX4_countNamed_15 : decode cX4_countNamed 15 = .ok (.iconst 0, 1) := by decide +kernel
theorem dX4_countNamed_16 : decode cX4_countNamed 16 = .ok (.istore_n 2, 1) := by decide +kernel
theorem dX4_countNamed_17 : decode cX4_countNamed 17 = .ok (.iload_n 2, 1) := by decide +kernel
theorem dX4_countNamed_18 : decode cX4_countNamed 18 = .ok (.bipush 6, 2) := by decide +kernel
theorem dX4_countNamed_20 : decode cX4_countNamed 20 = .ok (.if_icmp .ge 98, 3) := by decide +kernel
theorem dX4_countNamed_23 : decode cX4_countNamed 23 = .ok (.aload_n 0, 1) := by decide +kernel
theorem dX4_countNamed_24 : decode cX4_countNamed 24 = .ok (.getfield 46, 3) := by decide +kernel
theorem dX4_countNamed_27 : decode cX4_countNamed 27 = .ok (.iload_n 2, 1) := by decide +kernel
theorem dX4_countNamed_28 : decode cX4_countNamed 28 = .ok (.iconst 0, 1) := by decide +kernel
theorem dX4_countNamed_29 : decode cX4_countNamed 29 = .ok (.iastore, 1) := by decide +kernel
theorem dX4_countNamed_30 : decode cX4_countNamed 30 = .ok (.iconst 0, 1) := by decide +kernel
theorem dX4_countNamed_31 : decode cX4_countNamed 31 = .ok (.istore_n 3, 1) := by decide +kernel
theorem dX4_countNamed_32 : decode cX4_countNamed 32 = .ok (.iload_n 3, 1) := by decide +kernel
theorem dX4_countNamed_33 : decode cX4_countNamed 33 = .ok (.bipush 6, 2) := by decide +kernel
theorem dX4_countNamed_35 : decode cX4_countNamed 35 = .ok (.if_icmp .ge 77, 3) := by decide +kernel
theorem dX4_countNamed_38 : decode cX4_countNamed 38 = .ok (.iload_n 1, 1) := by decide +kernel
theorem dX4_countNamed_39 : decode cX4_countNamed 39 = .ok (.iload_n 3, 1) := by decide +kernel
theorem dX4_countNamed_40 : decode cX4_countNamed 40 = .ok (.invokestatic 161, 3) := by decide +kernel
theorem dX4_countNamed_43 : decode cX4_countNamed 43 = .ok (.ifCond .eq 29, 3) := by decide +kernel
theorem dX4_countNamed_46 : decode cX4_countNamed 46 = .ok (.aload_n 0, 1) := by decide +kernel
theorem dX4_countNamed_47 : decode cX4_countNamed 47 = .ok (.getfield 27, 3) := by decide +kernel
theorem dX4_countNamed_50 : decode cX4_countNamed 50 = .ok (.getfield 70, 3) := by decide +kernel
theorem dX4_countNamed_53 : decode cX4_countNamed 53 = .ok (.aload_n 0, 1) := by decide +kernel
theorem dX4_countNamed_54 : decode cX4_countNamed 54 = .ok (.getfield 31, 3) := by decide +kernel
theorem dX4_countNamed_57 : decode cX4_countNamed 57 = .ok (.getfield 134, 3) := by decide +kernel
theorem dX4_countNamed_60 : decode cX4_countNamed 60 = .ok (.iload_n 3, 1) := by decide +kernel
theorem dX4_countNamed_61 : decode cX4_countNamed 61 = .ok (.iaload, 1) := by decide +kernel
theorem dX4_countNamed_62 : decode cX4_countNamed 62 = .ok (.iaload, 1) := by decide +kernel
theorem dX4_countNamed_63 : decode cX4_countNamed 63 = .ok (.iconst 1, 1) := by decide +kernel
theorem dX4_countNamed_64 : decode cX4_countNamed 64 = .ok (.iand, 1) := by decide +kernel
theorem dX4_countNamed_65 : decode cX4_countNamed 65 = .ok (.ifCond .eq 7, 3) := by decide +kernel
theorem dX4_countNamed_68 : decode cX4_countNamed 68 = .ok (.iconst 1, 1) := by decide +kernel
theorem dX4_countNamed_69 : decode cX4_countNamed 69 = .ok (.goto 4, 3) := by decide +kernel
theorem dX4_countNamed_72 : decode cX4_countNamed 72 = .ok (.iconst 0, 1) := by decide +kernel
theorem dX4_countNamed_73 : decode cX4_countNamed 73 = .ok (.istore 4, 2) := by decide +kernel
theorem dX4_countNamed_75 : decode cX4_countNamed 75 = .ok (.iload 4, 2) := by decide +kernel
theorem dX4_countNamed_77 : decode cX4_countNamed 77 = .ok (.ifCond .eq 29, 3) := by decide +kernel
theorem dX4_countNamed_80 : decode cX4_countNamed 80 = .ok (.aload_n 0, 1) := by decide +kernel
theorem dX4_countNamed_81 : decode cX4_countNamed 81 = .ok (.getfield 27, 3) := by decide +kernel
theorem dX4_countNamed_84 : decode cX4_countNamed 84 = .ok (.getfield 101, 3) := by decide +kernel
theorem dX4_countNamed_87 : decode cX4_countNamed 87 = .ok (.iload_n 3, 1) := by decide +kernel
theorem dX4_countNamed_88 : decode cX4_countNamed 88 = .ok (.iaload, 1) := by decide +kernel
theorem dX4_countNamed_89 : decode cX4_countNamed 89 = .ok (.iload_n 2, 1) := by decide +kernel
theorem dX4_countNamed_90 : decode cX4_countNamed 90 = .ok (.invokestatic 161, 3) := by decide +kernel
theorem dX4_countNamed_93 : decode cX4_countNamed 93 = .ok (.ifCond .eq 13, 3) := by decide +kernel
theorem dX4_countNamed_96 : decode cX4_countNamed 96 = .ok (.aload_n 0, 1) := by decide +kernel
theorem dX4_countNamed_97 : decode cX4_countNamed 97 = .ok (.getfield 46, 3) := by decide +kernel
theorem dX4_countNamed_100 : decode cX4_countNamed 100 = .ok (.iload_n 2, 1) := by decide +kernel
theorem dX4_countNamed_101 : decode cX4_countNamed 101 = .ok (.dup2, 1) := by decide +kernel
theorem dX4_countNamed_102 : decode cX4_countNamed 102 = .ok (.iaload, 1) := by decide +kernel
theorem dX4_countNamed_103 : decode cX4_countNamed 103 = .ok (.iconst 1, 1) := by decide +kernel
theorem dX4_countNamed_104 : decode cX4_countNamed 104 = .ok (.iadd, 1) := by decide +kernel
theorem dX4_countNamed_105 : decode cX4_countNamed 105 = .ok (.iastore, 1) := by decide +kernel
theorem dX4_countNamed_106 : decode cX4_countNamed 106 = .ok (.iinc 3 1, 3) := by decide +kernel
theorem dX4_countNamed_109 : decode cX4_countNamed 109 = .ok (.goto (-77), 3) := by decide +kernel
theorem dX4_countNamed_112 : decode cX4_countNamed 112 = .ok (.iinc 2 1, 3) := by decide +kernel
theorem dX4_countNamed_115 : decode cX4_countNamed 115 = .ok (.goto (-98), 3) := by decide +kernel
theorem dX4_countNamed_118 : decode cX4_countNamed 118 = .ok (.return_, 1) := by decide +kernel
theorem dX4_namedInAll_0 : decode cX4_namedInAll 0 = .ok (.iconst 0, 1) := by decide +kernel
theorem dX4_namedInAll_1 : decode cX4_namedInAll 1 = .ok (.istore_n 1, 1) := by decide +kernel
theorem dX4_namedInAll_2 : decode cX4_namedInAll 2 = .ok (.iconst 0, 1) := by decide +kernel
theorem dX4_namedInAll_3 : decode cX4_namedInAll 3 = .ok (.istore_n 2, 1) := by decide +kernel
theorem dX4_namedInAll_4 : decode cX4_namedInAll 4 = .ok (.iload_n 2, 1) := by decide +kernel
theorem dX4_namedInAll_5 : decode cX4_namedInAll 5 = .ok (.bipush 6, 2) := by decide +kernel
theorem dX4_namedInAll_7 : decode cX4_namedInAll 7 = .ok (.if_icmp .ge 21, 3) := by decide +kernel
theorem dX4_namedInAll_10 : decode cX4_namedInAll 10 = .ok (.aload_n 0, 1) := by decide +kernel
theorem dX4_namedInAll_11 : decode cX4_namedInAll 11 = .ok (.getfield 46, 3) := by decide +kernel
theorem dX4_namedInAll_14 : decode cX4_namedInAll 14 = .ok (.iload_n 2, 1) := by decide +kernel
theorem dX4_namedInAll_15 : decode cX4_namedInAll 15 = .ok (.iaload, 1) := by decide +kernel
theorem dX4_namedInAll_16 : decode cX4_namedInAll 16 = .ok (.ifCond .le 6, 3) := by decide +kernel
theorem dX4_namedInAll_19 : decode cX4_namedInAll 19 = .ok (.iinc 1 1, 3) := by decide +kernel
theorem dX4_namedInAll_22 : decode cX4_namedInAll 22 = .ok (.iinc 2 1, 3) := by decide +kernel
theorem dX4_namedInAll_25 : decode cX4_namedInAll 25 = .ok (.goto (-21), 3) := by decide +kernel
theorem dX4_namedInAll_28 : decode cX4_namedInAll 28 = .ok (.iload_n 1, 1) := by decide +kernel
theorem dX4_namedInAll_29 : decode cX4_namedInAll 29 = .ok (.ireturn, 1) := by decide +kernel
theorem dX4_namedAt_0 : decode cX4_namedAt 0 = .ok (.iconst 0, 1) := by decide +kernel
theorem dX4_namedAt_1 : decode cX4_namedAt 1 = .ok (.istore_n 2, 1) := by decide +kernel
theorem dX4_namedAt_2 : decode cX4_namedAt 2 = .ok (.iload_n 2, 1) := by decide +kernel
theorem dX4_namedAt_3 : decode cX4_namedAt 3 = .ok (.bipush 6, 2) := by decide +kernel
theorem dX4_namedAt_5 : decode cX4_namedAt 5 = .ok (.if_icmp .ge 29, 3) := by decide +kernel
theorem dX4_namedAt_8 : decode cX4_namedAt 8 = .ok (.aload_n 0, 1) := by decide +kernel
theorem dX4_namedAt_9 : decode cX4_namedAt 9 = .ok (.getfield 46, 3) := by decide +kernel
theorem dX4_namedAt_12 : decode cX4_namedAt 12 = .ok (.iload_n 2, 1) := by decide +kernel
theorem dX4_namedAt_13 : decode cX4_namedAt 13 = .ok (.iaload, 1) := by decide +kernel
theorem dX4_namedAt_14 : decode cX4_namedAt 14 = .ok (.ifCond .le 14, 3) := by decide +kernel
theorem dX4_namedAt_17 : decode cX4_namedAt 17 = .ok (.aload_n 0, 1) := by decide +kernel
theorem dX4_namedAt_18 : decode cX4_namedAt 18 = .ok (.iload_n 2, 1) := by decide +kernel
theorem dX4_namedAt_19 : decode cX4_namedAt 19 = .ok (.invokevirtual 232, 3) := by decide +kernel
theorem dX4_namedAt_22 : decode cX4_namedAt 22 = .ok (.iload_n 1, 1) := by decide +kernel
theorem dX4_namedAt_23 : decode cX4_namedAt 23 = .ok (.if_icmp .ne 5, 3) := by decide +kernel
theorem dX4_namedAt_26 : decode cX4_namedAt 26 = .ok (.iload_n 2, 1) := by decide +kernel
theorem dX4_namedAt_27 : decode cX4_namedAt 27 = .ok (.ireturn, 1) := by decide +kernel
theorem dX4_namedAt_28 : decode cX4_namedAt 28 = .ok (.iinc 2 1, 3) := by decide +kernel
theorem dX4_namedAt_31 : decode cX4_namedAt 31 = .ok (.goto (-29), 3) := by decide +kernel
theorem dX4_namedAt_34 : decode cX4_namedAt 34 = .ok (.bipush (-6), 2) := by decide +kernel
theorem dX4_namedAt_36 : decode cX4_namedAt 36 = .ok (.ireturn, 1) := by decide +kernel
theorem dX4_namedAhead_0 : decode cX4_namedAhead 0 = .ok (.iconst 0, 1) := by decide +kernel
theorem dX4_namedAhead_1 : decode cX4_namedAhead 1 = .ok (.istore_n 2, 1) := by decide +kernel
theorem dX4_namedAhead_2 : decode cX4_namedAhead 2 = .ok (.iconst 0, 1) := by decide +kernel
theorem dX4_namedAhead_3 : decode cX4_namedAhead 3 = .ok (.istore_n 3, 1) := by decide +kernel
theorem dX4_namedAhead_4 : decode cX4_namedAhead 4 = .ok (.iload_n 3, 1) := by decide +kernel
theorem dX4_namedAhead_5 : decode cX4_namedAhead 5 = .ok (.bipush 6, 2) := by decide +kernel
theorem dX4_namedAhead_7 : decode cX4_namedAhead 7 = .ok (.if_icmp .ge 47, 3) := by decide +kernel
theorem dX4_namedAhead_10 : decode cX4_namedAhead 10 = .ok (.aload_n 0, 1) := by decide +kernel
theorem dX4_namedAhead_11 : decode cX4_namedAhead 11 = .ok (.getfield 46, 3) := by decide +kernel
theorem dX4_namedAhead_14 : decode cX4_namedAhead 14 = .ok (.iload_n 3, 1) := by decide +kernel
theorem dX4_namedAhead_15 : decode cX4_namedAhead 15 = .ok (.iaload, 1) := by decide +kernel
theorem dX4_namedAhead_16 : decode cX4_namedAhead 16 = .ok (.aload_n 0, 1) := by decide +kernel
theorem dX4_namedAhead_17 : decode cX4_namedAhead 17 = .ok (.getfield 46, 3) := by decide +kernel
theorem dX4_namedAhead_20 : decode cX4_namedAhead 20 = .ok (.iload_n 1, 1) := by decide +kernel
theorem dX4_namedAhead_21 : decode cX4_namedAhead 21 = .ok (.iaload, 1) := by decide +kernel
theorem dX4_namedAhead_22 : decode cX4_namedAhead 22 = .ok (.if_icmp .gt 23, 3) := by decide +kernel
theorem dX4_namedAhead_25 : decode cX4_namedAhead 25 = .ok (.aload_n 0, 1) := by decide +kernel
theorem dX4_namedAhead_26 : decode cX4_namedAhead 26 = .ok (.getfield 46, 3) := by decide +kernel
theorem dX4_namedAhead_29 : decode cX4_namedAhead 29 = .ok (.iload_n 3, 1) := by decide +kernel
theorem dX4_namedAhead_30 : decode cX4_namedAhead 30 = .ok (.iaload, 1) := by decide +kernel
theorem dX4_namedAhead_31 : decode cX4_namedAhead 31 = .ok (.aload_n 0, 1) := by decide +kernel
theorem dX4_namedAhead_32 : decode cX4_namedAhead 32 = .ok (.getfield 46, 3) := by decide +kernel
theorem dX4_namedAhead_35 : decode cX4_namedAhead 35 = .ok (.iload_n 1, 1) := by decide +kernel
theorem dX4_namedAhead_36 : decode cX4_namedAhead 36 = .ok (.iaload, 1) := by decide +kernel
theorem dX4_namedAhead_37 : decode cX4_namedAhead 37 = .ok (.if_icmp .ne 11, 3) := by decide +kernel
theorem dX4_namedAhead_40 : decode cX4_namedAhead 40 = .ok (.iload_n 3, 1) := by decide +kernel
theorem dX4_namedAhead_41 : decode cX4_namedAhead 41 = .ok (.iload_n 1, 1) := by decide +kernel
theorem dX4_namedAhead_42 : decode cX4_namedAhead 42 = .ok (.if_icmp .ge 6, 3) := by decide +kernel
theorem dX4_namedAhead_45 : decode cX4_namedAhead 45 = .ok (.iinc 2 1, 3) := by decide +kernel
theorem dX4_namedAhead_48 : decode cX4_namedAhead 48 = .ok (.iinc 3 1, 3) := by decide +kernel
theorem dX4_namedAhead_51 : decode cX4_namedAhead 51 = .ok (.goto (-47), 3) := by decide +kernel
theorem dX4_namedAhead_54 : decode cX4_namedAhead 54 = .ok (.iload_n 2, 1) := by decide +kernel
theorem dX4_namedAhead_55 : decode cX4_namedAhead 55 = .ok (.ireturn, 1) := by decide +kernel
theorem dX4_toldKind_0 : decode cX4_toldKind 0 = .ok (.iload_n 1, 1) := by decide +kernel
theorem dX4_toldKind_1 : decode cX4_toldKind 1 = .ok (.bipush 8, 2) := by decide +kernel
theorem dX4_toldKind_3 : decode cX4_toldKind 3 = .ok (.idiv, 1) := by decide +kernel
theorem dX4_toldKind_4 : decode cX4_toldKind 4 = .ok (.istore_n 2, 1) := by decide +kernel
theorem dX4_toldKind_5 : decode cX4_toldKind 5 = .ok (.iload_n 1, 1) := by decide +kernel
theorem dX4_toldKind_6 : decode cX4_toldKind 6 = .ok (.bipush 8, 2) := by decide +kernel
theorem dX4_toldKind_8 : decode cX4_toldKind 8 = .ok (.irem, 1) := by decide +kernel
theorem dX4_toldKind_9 : decode cX4_toldKind 9 = .ok (.istore_n 3, 1) := by decide +kernel
theorem dX4_toldKind_10 : decode cX4_toldKind 10 = .ok (.iload_n 2, 1) := by decide +kernel
theorem dX4_toldKind_11 : decode cX4_toldKind 11 = .ok (.invokestatic 88, 3) := by decide +kernel
theorem dX4_toldKind_14 : decode cX4_toldKind 14 = .ok (.ifCond .eq 26, 3) := by decide +kernel
theorem dX4_toldKind_17 : decode cX4_toldKind 17 = .ok (.iload_n 3, 1) := by decide +kernel
theorem dX4_toldKind_18 : decode cX4_toldKind 18 = .ok (.invokestatic 88, 3) := by decide +kernel
theorem dX4_toldKind_21 : decode cX4_toldKind 21 = .ok (.ifCond .eq 19, 3) := by decide +kernel
theorem dX4_toldKind_24 : decode cX4_toldKind 24 = .ok (.aload_n 0, 1) := by decide +kernel
theorem dX4_toldKind_25 : decode cX4_toldKind 25 = .ok (.getfield 27, 3) := by decide +kernel
theorem dX4_toldKind_28 : decode cX4_toldKind 28 = .ok (.getfield 107, 3) := by decide +kernel
theorem dX4_toldKind_31 : decode cX4_toldKind 31 = .ok (.iload_n 2, 1) := by decide +kernel
theorem dX4_toldKind_32 : decode cX4_toldKind 32 = .ok (.iload_n 3, 1) := by decide +kernel
theorem dX4_toldKind_33 : decode cX4_toldKind 33 = .ok (.invokestatic 110, 3) := by decide +kernel
theorem dX4_toldKind_36 : decode cX4_toldKind 36 = .ok (.iaload, 1) := by decide +kernel
theorem dX4_toldKind_37 : decode cX4_toldKind 37 = .ok (.goto 5, 3) := by decide +kernel
theorem dX4_toldKind_40 : decode cX4_toldKind 40 = .ok (.bipush (-2), 2) := by decide +kernel
theorem dX4_toldKind_42 : decode cX4_toldKind 42 = .ok (.ireturn, 1) := by decide +kernel
theorem dX4_toldPiece_0 : decode cX4_toldPiece 0 = .ok (.iload_n 2, 1) := by decide +kernel
theorem dX4_toldPiece_1 : decode cX4_toldPiece 1 = .ok (.invokestatic 88, 3) := by decide +kernel
theorem dX4_toldPiece_4 : decode cX4_toldPiece 4 = .ok (.ifCond .ne 6, 3) := by decide +kernel
theorem dX4_toldPiece_7 : decode cX4_toldPiece 7 = .ok (.bipush (-2), 2) := by decide +kernel
theorem dX4_toldPiece_9 : decode cX4_toldPiece 9 = .ok (.ireturn, 1) := by decide +kernel
theorem dX4_toldPiece_10 : decode cX4_toldPiece 10 = .ok (.iload_n 1, 1) := by decide +kernel
theorem dX4_toldPiece_11 : decode cX4_toldPiece 11 = .ok (.tableswitch 69 1 4 #[29, 39, 49, 59], 29) := by decide +kernel
theorem dX4_toldPiece_40 : decode cX4_toldPiece 40 = .ok (.aload_n 0, 1) := by decide +kernel
theorem dX4_toldPiece_41 : decode cX4_toldPiece 41 = .ok (.getfield 27, 3) := by decide +kernel
theorem dX4_toldPiece_44 : decode cX4_toldPiece 44 = .ok (.getfield 91, 3) := by decide +kernel
theorem dX4_toldPiece_47 : decode cX4_toldPiece 47 = .ok (.iload_n 2, 1) := by decide +kernel
theorem dX4_toldPiece_48 : decode cX4_toldPiece 48 = .ok (.iaload, 1) := by decide +kernel
theorem dX4_toldPiece_49 : decode cX4_toldPiece 49 = .ok (.ireturn, 1) := by decide +kernel
theorem dX4_toldPiece_50 : decode cX4_toldPiece 50 = .ok (.aload_n 0, 1) := by decide +kernel
theorem dX4_toldPiece_51 : decode cX4_toldPiece 51 = .ok (.getfield 27, 3) := by decide +kernel
theorem dX4_toldPiece_54 : decode cX4_toldPiece 54 = .ok (.getfield 101, 3) := by decide +kernel
theorem dX4_toldPiece_57 : decode cX4_toldPiece 57 = .ok (.iload_n 2, 1) := by decide +kernel
theorem dX4_toldPiece_58 : decode cX4_toldPiece 58 = .ok (.iaload, 1) := by decide +kernel
theorem dX4_toldPiece_59 : decode cX4_toldPiece 59 = .ok (.ireturn, 1) := by decide +kernel
theorem dX4_toldPiece_60 : decode cX4_toldPiece 60 = .ok (.aload_n 0, 1) := by decide +kernel
theorem dX4_toldPiece_61 : decode cX4_toldPiece 61 = .ok (.getfield 27, 3) := by decide +kernel
theorem dX4_toldPiece_64 : decode cX4_toldPiece 64 = .ok (.getfield 104, 3) := by decide +kernel
theorem dX4_toldPiece_67 : decode cX4_toldPiece 67 = .ok (.iload_n 2, 1) := by decide +kernel
theorem dX4_toldPiece_68 : decode cX4_toldPiece 68 = .ok (.iaload, 1) := by decide +kernel
theorem dX4_toldPiece_69 : decode cX4_toldPiece 69 = .ok (.ireturn, 1) := by decide +kernel
theorem dX4_toldPiece_70 : decode cX4_toldPiece 70 = .ok (.aload_n 0, 1) := by decide +kernel
theorem dX4_toldPiece_71 : decode cX4_toldPiece 71 = .ok (.getfield 27, 3) := by decide +kernel
theorem dX4_toldPiece_74 : decode cX4_toldPiece 74 = .ok (.getfield 98, 3) := by decide +kernel
theorem dX4_toldPiece_77 : decode cX4_toldPiece 77 = .ok (.iload_n 2, 1) := by decide +kernel
theorem dX4_toldPiece_78 : decode cX4_toldPiece 78 = .ok (.iaload, 1) := by decide +kernel
theorem dX4_toldPiece_79 : decode cX4_toldPiece 79 = .ok (.ireturn, 1) := by decide +kernel
theorem dX4_toldPiece_80 : decode cX4_toldPiece 80 = .ok (.bipush (-2), 2) := by decide +kernel
theorem dX4_toldPiece_82 : decode cX4_toldPiece 82 = .ok (.ireturn, 1) := by decide +kernel
theorem dX5_init_0 : decode cX5_init 0 = .ok (.aload_n 0, 1) := by decide +kernel
theorem dX5_init_1 : decode cX5_init 1 = .ok (.invokespecial 1, 3) := by decide +kernel
theorem dX5_init_4 : decode cX5_init 4 = .ok (.aload_n 0, 1) := by decide +kernel
theorem dX5_init_5 : decode cX5_init 5 = .ok (.bipush 20, 2) := by decide +kernel
theorem dX5_init_7 : decode cX5_init 7 = .ok (.newarray .int, 2) := by decide +kernel
theorem dX5_init_9 : decode cX5_init 9 = .ok (.putfield 7, 3) := by decide +kernel
theorem dX5_init_12 : decode cX5_init 12 = .ok (.aload_n 0, 1) := by decide +kernel
theorem dX5_init_13 : decode cX5_init 13 = .ok (.iconst 5, 1) := by decide +kernel
theorem dX5_init_14 : decode cX5_init 14 = .ok (.newarray .int, 2) := by decide +kernel
theorem dX5_init_16 : decode cX5_init 16 = .ok (.putfield 13, 3) := by decide +kernel
theorem dX5_init_19 : decode cX5_init 19 = .ok (.aload_n 0, 1) := by decide +kernel
theorem dX5_init_20 : decode cX5_init 20 = .ok (.iconst 5, 1) := by decide +kernel
theorem dX5_init_21 : decode cX5_init 21 = .ok (.newarray .int, 2) := by decide +kernel
theorem dX5_init_23 : decode cX5_init 23 = .ok (.putfield 16, 3) := by decide +kernel
theorem dX5_init_26 : decode cX5_init 26 = .ok (.aload_n 0, 1) := by decide +kernel
theorem dX5_init_27 : decode cX5_init 27 = .ok (.iconst 5, 1) := by decide +kernel
theorem dX5_init_28 : decode cX5_init 28 = .ok (.newarray .int, 2) := by decide +kernel
theorem dX5_init_30 : decode cX5_init 30 = .ok (.putfield 19, 3) := by decide +kernel
theorem dX5_init_33 : decode cX5_init 33 = .ok (.aload_n 0, 1) := by decide +kernel
theorem dX5_init_34 : decode cX5_init 34 = .ok (.iconst 5, 1) := by decide +kernel
theorem dX5_init_35 : decode cX5_init 35 = .ok (.newarray .int, 2) := by decide +kernel
theorem dX5_init_37 : decode cX5_init 37 = .ok (.putfield 22, 3) := by decide +kernel
theorem dX5_init_40 : decode cX5_init 40 = .ok (.aload_n 0, 1) := by decide +kernel
theorem dX5_init_41 : decode cX5_init 41 = .ok (.bipush 24, 2) := by decide +kernel
theorem dX5_init_43 : decode cX5_init 43 = .ok (.newarray .int, 2) := by decide +kernel
theorem dX5_init_45 : decode cX5_init 45 = .ok (.putfield 25, 3) := by decide +kernel
theorem dX5_init_48 : decode cX5_init 48 = .ok (.aload_n 0, 1) := by decide +kernel
theorem dX5_init_49 : decode cX5_init 49 = .ok (.bipush 36, 2) := by decide +kernel
theorem dX5_init_51 : decode cX5_init 51 = .ok (.newarray .int, 2) := by decide +kernel
theorem dX5_init_53 : decode cX5_init 53 = .ok (.putfield 28, 3) := by decide +kernel
theorem dX5_init_56 : decode cX5_init 56 = .ok (.aload_n 0, 1) := by decide +kernel
theorem dX5_init_57 : decode cX5_init 57 = .ok (.iconst 5, 1) := by decide +kernel
theorem dX5_init_58 : decode cX5_init 58 = .ok (.putfield 31, 3) := by decide +kernel
theorem dX5_init_61 : decode cX5_init 61 = .ok (.aload_n 0, 1) := by decide +kernel
theorem dX5_init_62 : decode cX5_init 62 = .ok (.iconst 5, 1) := by decide +kernel
theorem dX5_init_63 : decode cX5_init 63 = .ok (.putfield 35, 3) := by decide +kernel
theorem dX5_init_66 : decode cX5_init 66 = .ok (.aload_n 0, 1) := by decide +kernel
theorem dX5_init_67 : decode cX5_init 67 = .ok (.iconst 4, 1) := by decide +kernel
theorem dX5_init_68 : decode cX5_init 68 = .ok (.newarray .int, 2) := by decide +kernel
theorem dX5_init_70 : decode cX5_init 70 = .ok (.putfield 38, 3) := by decide +kernel
theorem dX5_init_73 : decode cX5_init 73 = .ok (.aload_n 0, 1) := by decide +kernel
theorem dX5_init_74 : decode cX5_init 74 = .ok (.bipush 6, 2) := by decide +kernel
theorem dX5_init_76 : decode cX5_init 76 = .ok (.newarray .int, 2) := by decide +kernel
theorem dX5_init_78 : decode cX5_init 78 = .ok (.putfield 41, 3) := by decide +kernel
theorem dX5_init_81 : decode cX5_init 81 = .ok (.aload_n 0, 1) := by decide +kernel
theorem dX5_init_82 : decode cX5_init 82 = .ok (.bipush 6, 2) := by decide +kernel
theorem dX5_init_84 : decode cX5_init 84 = .ok (.newarray .int, 2) := by decide +kernel
theorem dX5_init_86 : decode cX5_init 86 = .ok (.putfield 44, 3) := by decide +kernel
theorem dX5_init_89 : decode cX5_init 89 = .ok (.aload_n 0, 1) := by decide +kernel
theorem dX5_init_90 : decode cX5_init 90 = .ok (.bipush 6, 2) := by decide +kernel
theorem dX5_init_92 : decode cX5_init 92 = .ok (.newarray .int, 2) := by decide +kernel
theorem dX5_init_94 : decode cX5_init 94 = .ok (.putfield 47, 3) := by decide +kernel
theorem dX5_init_97 : decode cX5_init 97 = .ok (.aload_n 0, 1) := by decide +kernel
theorem dX5_init_98 : decode cX5_init 98 = .ok (.bipush 36, 2) := by decide +kernel
theorem dX5_init_100 : decode cX5_init 100 = .ok (.newarray .int, 2) := by decide +kernel
theorem dX5_init_102 : decode cX5_init 102 = .ok (.putfield 50, 3) := by decide +kernel
theorem dX5_init_105 : decode cX5_init 105 = .ok (.aload_n 0, 1) := by decide +kernel
theorem dX5_init_106 : decode cX5_init 106 = .ok (.bipush 6, 2) := by decide +kernel
theorem dX5_init_108 : decode cX5_init 108 = .ok (.newarray .int, 2) := by decide +kernel
theorem dX5_init_110 : decode cX5_init 110 = .ok (.putfield 53, 3) := by decide +kernel
theorem dX5_init_113 : decode cX5_init 113 = .ok (.aload_n 0, 1) := by decide +kernel
theorem dX5_init_114 : decode cX5_init 114 = .ok (.bipush 6, 2) := by decide +kernel
theorem dX5_init_116 : decode cX5_init 116 = .ok (.newarray .int, 2) := by decide +kernel
theorem dX5_init_118 : decode cX5_init 118 = .ok (.putfield 56, 3) := by decide +kernel
theorem dX5_init_121 : decode cX5_init 121 = .ok (.aload_n 0, 1) := by decide +kernel
theorem dX5_init_122 : decode cX5_init 122 = .ok (.bipush 6, 2) := by decide +kernel
theorem dX5_init_124 : decode cX5_init 124 = .ok (.newarray .int, 2) := by decide +kernel
theorem dX5_init_126 : decode cX5_init 126 = .ok (.putfield 59, 3) := by decide +kernel
theorem dX5_init_129 : decode cX5_init 129 = .ok (.aload_n 0, 1) := by decide +kernel
theorem dX5_init_130 : decode cX5_init 130 = .ok (.sipush 164, 3) := by decide +kernel
theorem dX5_init_133 : decode cX5_init 133 = .ok (.newarray .int, 2) := by decide +kernel
theorem dX5_init_135 : decode cX5_init 135 = .ok (.putfield 62, 3) := by decide +kernel
theorem dX5_init_138 : decode cX5_init 138 = .ok (.aload_n 0, 1) := by decide +kernel
theorem dX5_init_139 : decode cX5_init 139 = .ok (.iconst 2, 1) := by decide +kernel
theorem dX5_init_140 : decode cX5_init 140 = .ok (.newarray .boolean, 2) := by decide +kernel
theorem dX5_init_142 : decode cX5_init 142 = .ok (.putfield 65, 3) := by decide +kernel
theorem dX5_init_145 : decode cX5_init 145 = .ok (.iconst 0, 1) := by decide +kernel
theorem dX5_init_146 : decode cX5_init 146 = .ok (.istore_n 1, 1) := by decide +kernel
theorem dX5_init_147 : decode cX5_init 147 = .ok (.iload_n 1, 1) := by decide +kernel
theorem dX5_init_148 : decode cX5_init 148 = .ok (.iconst 5, 1) := by decide +kernel
theorem dX5_init_149 : decode cX5_init 149 = .ok (.if_icmp .ge 32, 3) := by decide +kernel
theorem dX5_init_152 : decode cX5_init 152 = .ok (.aload_n 0, 1) := by decide +kernel
theorem dX5_init_153 : decode cX5_init 153 = .ok (.getfield 16, 3) := by decide +kernel
theorem dX5_init_156 : decode cX5_init 156 = .ok (.iload_n 1, 1) := by decide +kernel
theorem dX5_init_157 : decode cX5_init 157 = .ok (.iconst 3, 1) := by decide +kernel
theorem dX5_init_158 : decode cX5_init 158 = .ok (.iastore, 1) := by decide +kernel
theorem dX5_init_159 : decode cX5_init 159 = .ok (.aload_n 0, 1) := by decide +kernel
theorem dX5_init_160 : decode cX5_init 160 = .ok (.getfield 19, 3) := by decide +kernel
theorem dX5_init_163 : decode cX5_init 163 = .ok (.iload_n 1, 1) := by decide +kernel
theorem dX5_init_164 : decode cX5_init 164 = .ok (.bipush 31, 2) := by decide +kernel
theorem dX5_init_166 : decode cX5_init 166 = .ok (.iastore, 1) := by decide +kernel
theorem dX5_init_167 : decode cX5_init 167 = .ok (.aload_n 0, 1) := by decide +kernel
theorem dX5_init_168 : decode cX5_init 168 = .ok (.getfield 22, 3) := by decide +kernel
theorem dX5_init_171 : decode cX5_init 171 = .ok (.iload_n 1, 1) := by decide +kernel
theorem dX5_init_172 : decode cX5_init 172 = .ok (.bipush (-6), 2) := by decide +kernel
theorem dX5_init_174 : decode cX5_init 174 = .ok (.iastore, 1) := by decide +kernel
theorem dX5_init_175 : decode cX5_init 175 = .ok (.iinc 1 1, 3) := by decide +kernel
theorem dX5_init_178 : decode cX5_init 178 = .ok (.goto (-31), 3) := by decide +kernel
theorem dX5_init_181 : decode cX5_init 181 = .ok (.iconst 0, 1) := by decide +kernel
theorem dX5_init_182 : decode cX5_init 182 = .ok (.istore_n 1, 1) := by decide +kernel
theorem dX5_init_183 : decode cX5_init 183 = .ok (.iload_n 1, 1) := by decide +kernel
theorem dX5_init_184 : decode cX5_init 184 = .ok (.bipush 6, 2) := by decide +kernel
theorem dX5_init_186 : decode cX5_init 186 = .ok (.if_icmp .ge 41, 3) := by decide +kernel
theorem dX5_init_189 : decode cX5_init 189 = .ok (.aload_n 0, 1) := by decide +kernel
theorem dX5_init_190 : decode cX5_init 190 = .ok (.getfield 25, 3) := by decide +kernel
theorem dX5_init_193 : decode cX5_init 193 = .ok (.iconst 4, 1) := by decide +kernel
theorem dX5_init_194 : decode cX5_init 194 = .ok (.iload_n 1, 1) := by decide +kernel
theorem dX5_init_195 : decode cX5_init 195 = .ok (.imul, 1) := by decide +kernel
theorem dX5_init_196 : decode cX5_init 196 = .ok (.iconst 1, 1) := by decide +kernel
theorem dX5_init_197 : decode cX5_init 197 = .ok (.iastore, 1) := by decide +kernel
theorem dX5_init_198 : decode cX5_init 198 = .ok (.aload_n 0, 1) := by decide +kernel
theorem dX5_init_199 : decode cX5_init 199 = .ok (.getfield 25, 3) := by decide +kernel
theorem dX5_init_202 : decode cX5_init 202 = .ok (.iconst 4, 1) := by decide +kernel
theorem dX5_init_203 : decode cX5_init 203 = .ok (.iload_n 1, 1) := by decide +kernel
theorem dX5_init_204 : decode cX5_init 204 = .ok (.imul, 1) := by decide +kernel
theorem dX5_init_205 : decode cX5_init 205 = .ok (.iconst 2, 1) := by decide +kernel
theorem dX5_init_206 : decode cX5_init 206 = .ok (.iadd, 1) := by decide +kernel
theorem dX5_init_207 : decode cX5_init 207 = .ok (.iconst 1, 1) := by decide +kernel
theorem dX5_init_208 : decode cX5_init 208 = .ok (.iastore, 1) := by decide +kernel
theorem dX5_init_209 : decode cX5_init 209 = .ok (.aload_n 0, 1) := by decide +kernel
theorem dX5_init_210 : decode cX5_init 210 = .ok (.getfield 25, 3) := by decide +kernel
theorem dX5_init_213 : decode cX5_init 213 = .ok (.iconst 4, 1) := by decide +kernel
theorem dX5_init_214 : decode cX5_init 214 = .ok (.iload_n 1, 1) := by decide +kernel
theorem dX5_init_215 : decode cX5_init 215 = .ok (.imul, 1) := by decide +kernel
theorem dX5_init_216 : decode cX5_init 216 = .ok (.iconst 3, 1) := by decide +kernel
theorem dX5_init_217 : decode cX5_init 217 = .ok (.iadd, 1) := by decide +kernel
theorem dX5_init_218 : decode cX5_init 218 = .ok (.bipush 10, 2) := by decide +kernel
theorem dX5_init_220 : decode cX5_init 220 = .ok (.iastore, 1) := by decide +kernel
theorem dX5_init_221 : decode cX5_init 221 = .ok (.iinc 1 1, 3) := by decide +kernel
theorem dX5_init_224 : decode cX5_init 224 = .ok (.goto (-41), 3) := by decide +kernel
theorem dX5_init_227 : decode cX5_init 227 = .ok (.iconst 0, 1) := by decide +kernel
theorem dX5_init_228 : decode cX5_init 228 = .ok (.istore_n 1, 1) := by decide +kernel
theorem dX5_init_229 : decode cX5_init 229 = .ok (.iload_n 1, 1) := by decide +kernel
theorem dX5_init_230 : decode cX5_init 230 = .ok (.bipush 36, 2) := by decide +kernel
theorem dX5_init_232 : decode cX5_init 232 = .ok (.if_icmp .ge 17, 3) := by decide +kernel
theorem dX5_init_235 : decode cX5_init 235 = .ok (.aload_n 0, 1) := by decide +kernel
theorem dX5_init_236 : decode cX5_init 236 = .ok (.getfield 28, 3) := by decide +kernel
theorem dX5_init_239 : decode cX5_init 239 = .ok (.iload_n 1, 1) := by decide +kernel
theorem dX5_init_240 : decode cX5_init 240 = .ok (.bipush (-6), 2) := by decide +kernel
theorem dX5_init_242 : decode cX5_init 242 = .ok (.iastore, 1) := by decide +kernel
theorem dX5_init_243 : decode cX5_init 243 = .ok (.iinc 1 1, 3) := by decide +kernel
theorem dX5_init_246 : decode cX5_init 246 = .ok (.goto (-17), 3) := by decide +kernel
theorem dX5_init_249 : decode cX5_init 249 = .ok (.return_, 1) := by decide +kernel
theorem dX5_in_0 : decode cX5_in 0 = .ok (.iload_n 0, 1) := by decide +kernel
theorem dX5_in_1 : decode cX5_in 1 = .ok (.iload_n 1, 1) := by decide +kernel
theorem dX5_in_2 : decode cX5_in 2 = .ok (.if_icmp .lt 12, 3) := by decide +kernel
theorem dX5_in_5 : decode cX5_in 5 = .ok (.iload_n 0, 1) := by decide +kernel
theorem dX5_in_6 : decode cX5_in 6 = .ok (.iload_n 2, 1) := by decide +kernel
theorem dX5_in_7 : decode cX5_in 7 = .ok (.if_icmp .gt 7, 3) := by decide +kernel
theorem dX5_in_10 : decode cX5_in 10 = .ok (.iconst 1, 1) := by decide +kernel
theorem dX5_in_11 : decode cX5_in 11 = .ok (.goto 4, 3) := by decide +kernel
theorem dX5_in_14 : decode cX5_in 14 = .ok (.iconst 0, 1) := by decide +kernel
theorem dX5_in_15 : decode cX5_in 15 = .ok (.ireturn, 1) := by decide +kernel
theorem dX5_isTerms_0 : decode cX5_isTerms 0 = .ok (.iload_n 0, 1) := by decide +kernel
theorem dX5_isTerms_1 : decode cX5_isTerms 1 = .ok (.iconst 0, 1) := by decide +kernel
theorem dX5_isTerms_2 : decode cX5_isTerms 2 = .ok (.iconst 4, 1) := by decide +kernel
theorem dX5_isTerms_3 : decode cX5_isTerms 3 = .ok (.invokestatic 69, 3) := by decide +kernel
theorem dX5_isTerms_6 : decode cX5_isTerms 6 = .ok (.ireturn, 1) := by decide +kernel
theorem dX5_isPiece_0 : decode cX5_isPiece 0 = .ok (.iload_n 0, 1) := by decide +kernel
theorem dX5_isPiece_1 : decode cX5_isPiece 1 = .ok (.iconst 0, 1) := by decide +kernel
theorem dX5_isPiece_2 : decode cX5_isPiece 2 = .ok (.iconst 5, 1) := by decide +kernel
theorem dX5_isPiece_3 : decode cX5_isPiece 3 = .ok (.invokestatic 69, 3) := by decide +kernel
theorem dX5_isPiece_6 : decode cX5_isPiece 6 = .ok (.ireturn, 1) := by decide +kernel
theorem dX5_has_0 : decode cX5_has 0 = .ok (.iload_n 0, 1) := by decide +kernel
theorem dX5_has_1 : decode cX5_has 1 = .ok (.iload_n 1, 1) := by decide +kernel
theorem dX5_has_2 : decode cX5_has 2 = .ok (.ishr, 1) := by decide +kernel
theorem dX5_has_3 : decode cX5_has 3 = .ok (.iconst 1, 1) := by decide +kernel
theorem dX5_has_4 : decode cX5_has 4 = .ok (.iand, 1) := by decide +kernel
theorem dX5_has_5 : decode cX5_has 5 = .ok (.iconst 1, 1) := by decide +kernel
theorem dX5_has_6 : decode cX5_has 6 = .ok (.if_icmp .ne 7, 3) := by decide +kernel
theorem dX5_has_9 : decode cX5_has 9 = .ok (.iconst 1, 1) := by decide +kernel
theorem dX5_has_10 : decode cX5_has 10 = .ok (.goto 4, 3) := by decide +kernel
theorem dX5_has_13 : decode cX5_has 13 = .ok (.iconst 0, 1) := by decide +kernel
theorem dX5_has_14 : decode cX5_has 14 = .ok (.ireturn, 1) := by decide +kernel
theorem dX5_bits_0 : decode cX5_bits 0 = .ok (.iconst 0, 1) := by decide +kernel
theorem dX5_bits_1 : decode cX5_bits 1 = .ok (.istore_n 1, 1) := by decide +kernel
theorem dX5_bits_2 : decode cX5_bits 2 = .ok (.iconst 0, 1) := by decide +kernel
theorem dX5_bits_3 : decode cX5_bits 3 = .ok (.istore_n 2, 1) := by decide +kernel
theorem dX5_bits_4 : decode cX5_bits 4 = .ok (.iload_n 2, 1) := by decide +kernel
theorem dX5_bits_5 : decode cX5_bits 5 = .ok (.bipush 6, 2) := by decide +kernel
theorem dX5_bits_7 : decode cX5_bits 7 = .ok (.if_icmp .ge 17, 3) := by decide +kernel
theorem dX5_bits_10 : decode cX5_bits 10 = .ok (.iload_n 1, 1) := by decide +kernel
theorem dX5_bits_11 : decode cX5_bits 11 = .ok (.iload_n 0, 1) := by decide +kernel
theorem dX5_bits_12 : decode cX5_bits 12 = .ok (.iload_n 2, 1) := by decide +kernel
theorem dX5_bits_13 : decode cX5_bits 13 = .ok (.ishr, 1) := by decide +kernel
theorem dX5_bits_14 : decode cX5_bits 14 = .ok (.iconst 1, 1) := by decide +kernel
theorem dX5_bits_15 : decode cX5_bits 15 = .ok (.iand, 1) := by decide +kernel
theorem dX5_bits_16 : decode cX5_bits 16 = .ok (.iadd, 1) := by decide +kernel
theorem dX5_bits_17 : decode cX5_bits 17 = .ok (.istore_n 1, 1) := by decide +kernel
theorem dX5_bits_18 : decode cX5_bits 18 = .ok (.iinc 2 1, 3) := by decide +kernel
theorem dX5_bits_21 : decode cX5_bits 21 = .ok (.goto (-17), 3) := by decide +kernel
theorem dX5_bits_24 : decode cX5_bits 24 = .ok (.iload_n 1, 1) := by decide +kernel
theorem dX5_bits_25 : decode cX5_bits 25 = .ok (.ireturn, 1) := by decide +kernel
theorem dX5_say_0 : decode cX5_say 0 = .ok (.iload_n 1, 1) := by decide +kernel
theorem dX5_say_1 : decode cX5_say 1 = .ok (.bipush 33, 2) := by decide +kernel
theorem dX5_say_3 : decode cX5_say 3 = .ok (.bipush 126, 2) := by decide +kernel
theorem dX5_say_5 : decode cX5_say 5 = .ok (.invokestatic 69, 3) := by decide +kernel
theorem dX5_say_8 : decode cX5_say 8 = .ok (.ifCond .ne 6, 3) := by decide +kernel
theorem dX5_say_11 : decode cX5_say 11 = .ok (.bipush (-2), 2) := by decide +kernel
theorem dX5_say_13 : decode cX5_say 13 = .ok (.ireturn, 1) := by decide +kernel
theorem dX5_say_14 : decode cX5_say 14 = .ok (.aload_n 0, 1) := by decide +kernel
theorem dX5_say_15 : decode cX5_say 15 = .ok (.getfield 73, 3) := by decide +kernel
theorem dX5_say_18 : decode cX5_say 18 = .ok (.bipush 20, 2) := by decide +kernel
theorem dX5_say_20 : decode cX5_say 20 = .ok (.if_icmp .ne 6, 3) := by decide +kernel
theorem dX5_say_23 : decode cX5_say 23 = .ok (.bipush (-4), 2) := by decide +kernel
theorem dX5_say_25 : decode cX5_say 25 = .ok (.ireturn, 1) := by decide +kernel
theorem dX5_say_26 : decode cX5_say 26 = .ok (.aload_n 0, 1) := by decide +kernel
theorem dX5_say_27 : decode cX5_say 27 = .ok (.getfield 7, 3) := by decide +kernel
theorem dX5_say_30 : decode cX5_say 30 = .ok (.aload_n 0, 1) := by decide +kernel
theorem dX5_say_31 : decode cX5_say 31 = .ok (.getfield 73, 3) := by decide +kernel
theorem dX5_say_34 : decode cX5_say 34 = .ok (.iload_n 1, 1) := by decide +kernel
theorem dX5_say_35 : decode cX5_say 35 = .ok (.iastore, 1) := by decide +kernel
theorem dX5_say_36 : decode cX5_say 36 = .ok (.aload_n 0, 1) := by decide +kernel
theorem dX5_say_37 : decode cX5_say 37 = .ok (.dup, 1) := by decide +kernel
theorem dX5_say_38 : decode cX5_say 38 = .ok (.getfield 73, 3) := by decide +kernel
theorem dX5_say_41 : decode cX5_say 41 = .ok (.iconst 1, 1) := by decide +kernel
theorem dX5_say_42 : decode cX5_say 42 = .ok (.iadd, 1) := by decide +kernel
theorem dX5_say_43 : decode cX5_say 43 = .ok (.putfield 73, 3) := by decide +kernel
theorem dX5_say_46 : decode cX5_say 46 = .ok (.aload_n 0, 1) := by decide +kernel
theorem dX5_say_47 : decode cX5_say 47 = .ok (.getfield 73, 3) := by decide +kernel
theorem dX5_say_50 : decode cX5_say 50 = .ok (.ireturn, 1) := by decide +kernel
theorem dX5_wipe_0 : decode cX5_wipe 0 = .ok (.aload_n 0, 1) := by decide +kernel
theorem dX5_wipe_1 : decode cX5_wipe 1 = .ok (.getfield 73, 3) := by decide +kernel
theorem dX5_wipe_4 : decode cX5_wipe 4 = .ok (.istore_n 1, 1) := by decide +kernel
theorem dX5_wipe_5 : decode cX5_wipe 5 = .ok (.aload_n 0, 1) := by decide +kernel
theorem dX5_wipe_6 : decode cX5_wipe 6 = .ok (.iconst 0, 1) := by decide +kernel
theorem dX5_wipe_7 : decode cX5_wipe 7 = .ok (.putfield 73, 3) := by decide +kernel
theorem dX5_wipe_10 : decode cX5_wipe 10 = .ok (.iload_n 1, 1) := by decide +kernel
theorem dX5_wipe_11 : decode cX5_wipe 11 = .ok (.ireturn, 1) := by decide +kernel
theorem dX5_askOf_0 : decode cX5_askOf 0 = .ok (.iload_n 0, 1) := by decide +kernel
theorem dX5_askOf_1 : decode cX5_askOf 1 = .ok (.lookupswitch 63 #[(97, 57), (99, 60), (110, 51), (112, 55), (115, 53)], 51) := by decide +kernel
theorem dX5_askOf_52 : decode cX5_askOf 52 = .ok (.iconst 1, 1) := by decide +kernel
theorem dX5_askOf_53 : decode cX5_askOf 53 = .ok (.ireturn, 1) := by decide +kernel
theorem dX5_askOf_54 : decode cX5_askOf 54 = .ok (.iconst 2, 1) := by decide +kernel
theorem dX5_askOf_55 : decode cX5_askOf 55 = .ok (.ireturn, 1) := by decide +kernel
theorem dX5_askOf_56 : decode cX5_askOf 56 = .ok (.iconst 4, 1) := by decide +kernel
theorem dX5_askOf_57 : decode cX5_askOf 57 = .ok (.ireturn, 1) := by decide +kernel
theorem dX5_askOf_58 : decode cX5_askOf 58 = .ok (.bipush 8, 2) := by decide +kernel
theorem dX5_askOf_60 : decode cX5_askOf 60 = .ok (.ireturn, 1) := by decide +kernel
theorem dX5_askOf_61 : decode cX5_askOf 61 = .ok (.bipush 16, 2) := by decide +kernel
theorem dX5_askOf_63 : decode cX5_askOf 63 = .ok (.ireturn, 1) := by decide +kernel
theorem dX5_askOf_64 : decode cX5_askOf 64 = .ok (.iconst 0, 1) := by decide +kernel
theorem dX5_askOf_65 : decode cX5_askOf 65 = .ok (.ireturn, 1) := by decide +kernel
theorem dX5_faultOf_0 : decode cX5_faultOf 0 = .ok (.aload_n 0, 1) := by decide +kernel
theorem dX5_faultOf_1 : decode cX5_faultOf 1 = .ok (.iconst 0, 1) := by decide +kernel
theorem dX5_faultOf_2 : decode cX5_faultOf 2 = .ok (.putfield 76, 3) := by decide +kernel
theorem dX5_faultOf_5 : decode cX5_faultOf 5 = .ok (.aload_n 0, 1) := by decide +kernel
theorem dX5_faultOf_6 : decode cX5_faultOf 6 = .ok (.bipush (-6), 2) := by decide +kernel
theorem dX5_faultOf_8 : decode cX5_faultOf 8 = .ok (.putfield 79, 3) := by decide +kernel
theorem dX5_faultOf_11 : decode cX5_faultOf 11 = .ok (.aload_n 0, 1) := by decide +kernel
theorem dX5_faultOf_12 : decode cX5_faultOf 12 = .ok (.iconst 0, 1) := by decide +kernel
theorem dX5_faultOf_13 : decode cX5_faultOf 13 = .ok (.putfield 82, 3) := by decide +kernel
theorem dX5_faultOf_16 : decode cX5_faultOf 16 = .ok (.iconst 0, 1) := by decide +kernel
theorem dX5_faultOf_17 : decode cX5_faultOf 17 = .ok (.istore_n 1, 1) := by decide +kernel
theorem dX5_faultOf_18 : decode cX5_faultOf 18 = .ok (.bipush (-6), 2) := by decide +kernel
theorem dX5_faultOf_20 : decode cX5_faultOf 20 = .ok (.istore_n 2, 1) := by decide +kernel
theorem dX5_faultOf_21 : decode cX5_faultOf 21 = .ok (.iconst 0, 1) := by decide +kernel
theorem dX5_faultOf_22 : decode cX5_faultOf 22 = .ok (.istore_n 3, 1) := by decide +kernel
theorem dX5_faultOf_23 : decode cX5_faultOf 23 = .ok (.iload_n 3, 1) := by decide +kernel
theorem dX5_faultOf_24 : decode cX5_faultOf 24 = .ok (.aload_n 0, 1) := by decide +kernel
theorem dX5_faultOf_25 : decode cX5_faultOf 25 = .ok (.getfield 73, 3) := by decide +kernel
theorem dX5_faultOf_28 : decode cX5_faultOf 28 = .ok (.if_icmp .ge 164, 3) := by decide +kernel
theorem dX5_faultOf_31 : decode cX5_faultOf 31 = .ok (.aload_n 0, 1) := by decide +kernel
theorem dX5_faultOf_32 : decode cX5_faultOf 32 = .ok (.getfield 7, 3) := by decide +kernel
theorem dX5_faultOf_35 : decode cX5_faultOf 35 = .ok (.iload_n 3, 1) := by decide +kernel
theorem dX5_faultOf_36 : decode cX5_faultOf 36 = .ok (.iaload, 1) := by decide +kernel
theorem dX5_faultOf_37 : decode cX5_faultOf 37 = .ok (.istore 4, 2) := by decide +kernel
theorem dX5_faultOf_39 : decode cX5_faultOf 39 = .ok (.aload_n 0, 1) := by decide +kernel
theorem dX5_faultOf_40 : decode cX5_faultOf 40 = .ok (.getfield 79, 3) := by decide +kernel
theorem dX5_faultOf_43 : decode cX5_faultOf 43 = .ok (.ifCond .ge 41, 3) := by decide +kernel
theorem dX5_faultOf_46 : decode cX5_faultOf 46 = .ok (.iload 4, 2) := by decide +kernel
theorem dX5_faultOf_48 : decode cX5_faultOf 48 = .ok (.invokestatic 85, 3) := by decide +kernel
theorem dX5_faultOf_51 : decode cX5_faultOf 51 = .ok (.ifCond .le 33, 3) := by decide +kernel
theorem dX5_faultOf_54 : decode cX5_faultOf 54 = .ok (.aload_n 0, 1) := by decide +kernel
theorem dX5_faultOf_55 : decode cX5_faultOf 55 = .ok (.getfield 76, 3) := by decide +kernel
theorem dX5_faultOf_58 : decode cX5_faultOf 58 = .ok (.iload 4, 2) := by decide +kernel
theorem dX5_faultOf_60 : decode cX5_faultOf 60 = .ok (.invokestatic 85, 3) := by decide +kernel
theorem dX5_faultOf_63 : decode cX5_faultOf 63 = .ok (.iand, 1) := by decide +kernel
theorem dX5_faultOf_64 : decode cX5_faultOf 64 = .ok (.ifCond .ne 20, 3) := by decide +kernel
theorem dX5_faultOf_67 : decode cX5_faultOf 67 = .ok (.aload_n 0, 1) := by decide +kernel
theorem dX5_faultOf_68 : decode cX5_faultOf 68 = .ok (.dup, 1) := by decide +kernel
theorem dX5_faultOf_69 : decode cX5_faultOf 69 = .ok (.getfield 76, 3) := by decide +kernel
theorem dX5_faultOf_72 : decode cX5_faultOf 72 = .ok (.iload 4, 2) := by decide +kernel
theorem dX5_faultOf_74 : decode cX5_faultOf 74 = .ok (.invokestatic 85, 3) := by decide +kernel
theorem dX5_faultOf_77 : decode cX5_faultOf 77 = .ok (.ior, 1) := by decide +kernel
theorem dX5_faultOf_78 : decode cX5_faultOf 78 = .ok (.putfield 76, 3) := by decide +kernel
theorem dX5_faultOf_81 : decode cX5_faultOf 81 = .ok (.goto 105, 3) := by decide +kernel
theorem dX5_faultOf_84 : decode cX5_faultOf 84 = .ok (.aload_n 0, 1) := by decide +kernel
theorem dX5_faultOf_85 : decode cX5_faultOf 85 = .ok (.getfield 79, 3) := by decide +kernel
theorem dX5_faultOf_88 : decode cX5_faultOf 88 = .ok (.ifCond .ge 27, 3) := by decide +kernel
theorem dX5_faultOf_91 : decode cX5_faultOf 91 = .ok (.iload 4, 2) := by decide +kernel
theorem dX5_faultOf_93 : decode cX5_faultOf 93 = .ok (.bipush 48, 2) := by decide +kernel
theorem dX5_faultOf_95 : decode cX5_faultOf 95 = .ok (.bipush 51, 2) := by decide +kernel
theorem dX5_faultOf_97 : decode cX5_faultOf 97 = .ok (.invokestatic 69, 3) := by decide +kernel
theorem dX5_faultOf_100 : decode cX5_faultOf 100 = .ok (.ifCond .eq 15, 3) := by decide +kernel
theorem dX5_faultOf_103 : decode cX5_faultOf 103 = .ok (.aload_n 0, 1) := by decide +kernel
theorem dX5_faultOf_104 : decode cX5_faultOf 104 = .ok (.iload 4, 2) := by decide +kernel
theorem dX5_faultOf_106 : decode cX5_faultOf 106 = .ok (.bipush 48, 2) := by decide +kernel
theorem dX5_faultOf_108 : decode cX5_faultOf 108 = .ok (.isub, 1) := by decide +kernel
theorem dX5_faultOf_109 : decode cX5_faultOf 109 = .ok (.putfield 79, 3) := by decide +kernel
theorem dX5_faultOf_112 : decode cX5_faultOf 112 = .ok (.goto 74, 3) := by decide +kernel
theorem dX5_faultOf_115 : decode cX5_faultOf 115 = .ok (.aload_n 0, 1) := by decide +kernel
theorem dX5_faultOf_116 : decode cX5_faultOf 116 = .ok (.getfield 79, 3) := by decide +kernel
theorem dX5_faultOf_119 : decode cX5_faultOf 119 = .ok (.ifCond .lt 19, 3) := by decide +kernel
theorem dX5_faultOf_122 : decode cX5_faultOf 122 = .ok (.iload_n 1, 1) := by decide +kernel
theorem dX5_faultOf_123 : decode cX5_faultOf 123 = .ok (.ifCond .ne 15, 3) := by decide +kernel
theorem dX5_faultOf_126 : decode cX5_faultOf 126 = .ok (.iload 4, 2) := by decide +kernel
theorem dX5_faultOf_128 : decode cX5_faultOf 128 = .ok (.bipush 58, 2) := by decide +kernel
theorem dX5_faultOf_130 : decode cX5_faultOf 130 = .ok (.if_icmp .ne 8, 3) := by decide +kernel
theorem dX5_faultOf_133 : decode cX5_faultOf 133 = .ok (.iconst 1, 1) := by decide +kernel
theorem dX5_faultOf_134 : decode cX5_faultOf 134 = .ok (.istore_n 1, 1) := by decide +kernel
theorem dX5_faultOf_135 : decode cX5_faultOf 135 = .ok (.goto 51, 3) := by decide +kernel
theorem dX5_faultOf_138 : decode cX5_faultOf 138 = .ok (.iload_n 1, 1) := by decide +kernel
theorem dX5_faultOf_139 : decode cX5_faultOf 139 = .ok (.ifCond .eq 45, 3) := by decide +kernel
theorem dX5_faultOf_142 : decode cX5_faultOf 142 = .ok (.iload 4, 2) := by decide +kernel
theorem dX5_faultOf_144 : decode cX5_faultOf 144 = .ok (.bipush 48, 2) := by decide +kernel
theorem dX5_faultOf_146 : decode cX5_faultOf 146 = .ok (.bipush 52, 2) := by decide +kernel
theorem dX5_faultOf_148 : decode cX5_faultOf 148 = .ok (.invokestatic 69, 3) := by decide +kernel
theorem dX5_faultOf_151 : decode cX5_faultOf 151 = .ok (.ifCond .eq 33, 3) := by decide +kernel
theorem dX5_faultOf_154 : decode cX5_faultOf 154 = .ok (.iload 4, 2) := by decide +kernel
theorem dX5_faultOf_156 : decode cX5_faultOf 156 = .ok (.bipush 48, 2) := by decide +kernel
theorem dX5_faultOf_158 : decode cX5_faultOf 158 = .ok (.isub, 1) := by decide +kernel
theorem dX5_faultOf_159 : decode cX5_faultOf 159 = .ok (.iload_n 2, 1) := by decide +kernel
theorem dX5_faultOf_160 : decode cX5_faultOf 160 = .ok (.if_icmp .le 24, 3) := by decide +kernel
theorem dX5_faultOf_163 : decode cX5_faultOf 163 = .ok (.iload 4, 2) := by decide +kernel
theorem dX5_faultOf_165 : decode cX5_faultOf 165 = .ok (.bipush 48, 2) := by decide +kernel
theorem dX5_faultOf_167 : decode cX5_faultOf 167 = .ok (.isub, 1) := by decide +kernel
theorem dX5_faultOf_168 : decode cX5_faultOf 168 = .ok (.istore_n 2, 1) := by decide +kernel
