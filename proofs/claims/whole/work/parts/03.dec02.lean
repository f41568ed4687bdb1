theorem dX4_later_57 : decode cX4_later 57 = .ok (.ireturn, 1) := by decide +kernel
theorem dX4_piece_0 : decode cX4_piece 0 = .ok (.iload_n 1, 1) := by decide +kernel
theorem dX4_piece_1 : decode cX4_piece 1 = .ok (.invokestatic 88, 3) := by decide +kernel
theorem dX4_piece_4 : decode cX4_piece 4 = .ok (.ifCond .ne 5, 3) := by decide +kernel
theorem dX4_piece_7 : decode cX4_piece 7 = .ok (.iconst (-1), 1) := by decide +kernel
theorem dX4_piece_8 : decode cX4_piece 8 = .ok (.ireturn, 1) := by decide +kernel
theorem dX4_piece_9 : decode cX4_piece 9 = .ok (.iload_n 2, 1) := by decide +kernel
theorem dX4_piece_10 : decode cX4_piece 10 = .ok (.tableswitch 142 0 3 #[30, 58, 85, 113], 30) := by decide +kernel
theorem dX4_piece_40 : decode cX4_piece 40 = .ok (.iload_n 3, 1) := by decide +kernel
theorem dX4_piece_41 : decode cX4_piece 41 = .ok (.iconst 1, 1) := by decide +kernel
theorem dX4_piece_42 : decode cX4_piece 42 = .ok (.bipush 31, 2) := by decide +kernel
theorem dX4_piece_44 : decode cX4_piece 44 = .ok (.invokestatic 50, 3) := by decide +kernel
theorem dX4_piece_47 : decode cX4_piece 47 = .ok (.ifCond .eq 18, 3) := by decide +kernel
theorem dX4_piece_50 : decode cX4_piece 50 = .ok (.aload_n 0, 1) := by decide +kernel
theorem dX4_piece_51 : decode cX4_piece 51 = .ok (.getfield 27, 3) := by decide +kernel
theorem dX4_piece_54 : decode cX4_piece 54 = .ok (.getfield 91, 3) := by decide +kernel
theorem dX4_piece_57 : decode cX4_piece 57 = .ok (.iload_n 1, 1) := by decide +kernel
theorem dX4_piece_58 : decode cX4_piece 58 = .ok (.iload_n 3, 1) := by decide +kernel
theorem dX4_piece_59 : decode cX4_piece 59 = .ok (.invokestatic 94, 3) := by decide +kernel
theorem dX4_piece_62 : decode cX4_piece 62 = .ok (.goto 5, 3) := by decide +kernel
theorem dX4_piece_65 : decode cX4_piece 65 = .ok (.bipush (-2), 2) := by decide +kernel
theorem dX4_piece_67 : decode cX4_piece 67 = .ok (.ireturn, 1) := by decide +kernel
theorem dX4_piece_68 : decode cX4_piece 68 = .ok (.iload_n 3, 1) := by decide +kernel
theorem dX4_piece_69 : decode cX4_piece 69 = .ok (.iconst 0, 1) := by decide +kernel
theorem dX4_piece_70 : decode cX4_piece 70 = .ok (.iconst 1, 1) := by decide +kernel
theorem dX4_piece_71 : decode cX4_piece 71 = .ok (.invokestatic 50, 3) := by decide +kernel
theorem dX4_piece_74 : decode cX4_piece 74 = .ok (.ifCond .eq 18, 3) := by decide +kernel
theorem dX4_piece_77 : decode cX4_piece 77 = .ok (.aload_n 0, 1) := by decide +kernel
theorem dX4_piece_78 : decode cX4_piece 78 = .ok (.getfield 27, 3) := by decide +kernel
theorem dX4_piece_81 : decode cX4_piece 81 = .ok (.getfield 98, 3) := by decide +kernel
theorem dX4_piece_84 : decode cX4_piece 84 = .ok (.iload_n 1, 1) := by decide +kernel
theorem dX4_piece_85 : decode cX4_piece 85 = .ok (.iload_n 3, 1) := by decide +kernel
theorem dX4_piece_86 : decode cX4_piece 86 = .ok (.invokestatic 94, 3) := by decide +kernel
theorem dX4_piece_89 : decode cX4_piece 89 = .ok (.goto 5, 3) := by decide +kernel
theorem dX4_piece_92 : decode cX4_piece 92 = .ok (.bipush (-2), 2) := by decide +kernel
theorem dX4_piece_94 : decode cX4_piece 94 = .ok (.ireturn, 1) := by decide +kernel
theorem dX4_piece_95 : decode cX4_piece 95 = .ok (.iload_n 3, 1) := by decide +kernel
theorem dX4_piece_96 : decode cX4_piece 96 = .ok (.iconst 0, 1) := by decide +kernel
theorem dX4_piece_97 : decode cX4_piece 97 = .ok (.bipush 63, 2) := by decide +kernel
theorem dX4_piece_99 : decode cX4_piece 99 = .ok (.invokestatic 50, 3) := by decide +kernel
theorem dX4_piece_102 : decode cX4_piece 102 = .ok (.ifCond .eq 18, 3) := by decide +kernel
theorem dX4_piece_105 : decode cX4_piece 105 = .ok (.aload_n 0, 1) := by decide +kernel
theorem dX4_piece_106 : decode cX4_piece 106 = .ok (.getfield 27, 3) := by decide +kernel
theorem dX4_piece_109 : decode cX4_piece 109 = .ok (.getfield 101, 3) := by decide +kernel
theorem dX4_piece_112 : decode cX4_piece 112 = .ok (.iload_n 1, 1) := by decide +kernel
theorem dX4_piece_113 : decode cX4_piece 113 = .ok (.iload_n 3, 1) := by decide +kernel
theorem dX4_piece_114 : decode cX4_piece 114 = .ok (.invokestatic 94, 3) := by decide +kernel
theorem dX4_piece_117 : decode cX4_piece 117 = .ok (.goto 5, 3) := by decide +kernel
theorem dX4_piece_120 : decode cX4_piece 120 = .ok (.bipush (-2), 2) := by decide +kernel
theorem dX4_piece_122 : decode cX4_piece 122 = .ok (.ireturn, 1) := by decide +kernel
theorem dX4_piece_123 : decode cX4_piece 123 = .ok (.iload_n 3, 1) := by decide +kernel
theorem dX4_piece_124 : decode cX4_piece 124 = .ok (.iconst 0, 1) := by decide +kernel
theorem dX4_piece_125 : decode cX4_piece 125 = .ok (.sipush 999, 3) := by decide +kernel
theorem dX4_piece_128 : decode cX4_piece 128 = .ok (.invokestatic 50, 3) := by decide +kernel
theorem dX4_piece_131 : decode cX4_piece 131 = .ok (.ifCond .eq 18, 3) := by decide +kernel
theorem dX4_piece_134 : decode cX4_piece 134 = .ok (.aload_n 0, 1) := by decide +kernel
theorem dX4_piece_135 : decode cX4_piece 135 = .ok (.getfield 27, 3) := by decide +kernel
theorem dX4_piece_138 : decode cX4_piece 138 = .ok (.getfield 104, 3) := by decide +kernel
theorem dX4_piece_141 : decode cX4_piece 141 = .ok (.iload_n 1, 1) := by decide +kernel
theorem dX4_piece_142 : decode cX4_piece 142 = .ok (.iload_n 3, 1) := by decide +kernel
theorem dX4_piece_143 : decode cX4_piece 143 = .ok (.invokestatic 94, 3) := by decide +kernel
theorem dX4_piece_146 : decode cX4_piece 146 = .ok (.goto 5, 3) := by decide +kernel
theorem dX4_piece_149 : decode cX4_piece 149 = .ok (.bipush (-2), 2) := by decide +kernel
theorem dX4_piece_151 : decode cX4_piece 151 = .ok (.ireturn, 1) := by decide +kernel
theorem dX4_piece_152 : decode cX4_piece 152 = .ok (.bipush (-2), 2) := by decide +kernel
theorem dX4_piece_154 : decode cX4_piece 154 = .ok (.ireturn, 1) := by decide +kernel
theorem dX4_uses_0 : decode cX4_uses 0 = .ok (.iload_n 1, 1) := by decide +kernel
theorem dX4_uses_1 : decode cX4_uses 1 = .ok (.invokestatic 88, 3) := by decide +kernel
theorem dX4_uses_4 : decode cX4_uses 4 = .ok (.ifCond .eq 14, 3) := by decide +kernel
theorem dX4_uses_7 : decode cX4_uses 7 = .ok (.iload_n 2, 1) := by decide +kernel
theorem dX4_uses_8 : decode cX4_uses 8 = .ok (.iconst 0, 1) := by decide +kernel
theorem dX4_uses_9 : decode cX4_uses 9 = .ok (.iload_n 1, 1) := by decide +kernel
theorem dX4_uses_10 : decode cX4_uses 10 = .ok (.iconst 1, 1) := by decide +kernel
theorem dX4_uses_11 : decode cX4_uses 11 = .ok (.isub, 1) := by decide +kernel
theorem dX4_uses_12 : decode cX4_uses 12 = .ok (.invokestatic 50, 3) := by decide +kernel
theorem dX4_uses_15 : decode cX4_uses 15 = .ok (.ifCond .ne 5, 3) := by decide +kernel
theorem dX4_uses_18 : decode cX4_uses 18 = .ok (.iconst (-1), 1) := by decide +kernel
theorem dX4_uses_19 : decode cX4_uses 19 = .ok (.ireturn, 1) := by decide +kernel
theorem dX4_uses_20 : decode cX4_uses 20 = .ok (.iload_n 3, 1) := by decide +kernel
theorem dX4_uses_21 : decode cX4_uses 21 = .ok (.iconst (-1), 1) := by decide +kernel
theorem dX4_uses_22 : decode cX4_uses 22 = .ok (.iconst 3, 1) := by decide +kernel
theorem dX4_uses_23 : decode cX4_uses 23 = .ok (.invokestatic 50, 3) := by decide +kernel
theorem dX4_uses_26 : decode cX4_uses 26 = .ok (.ifCond .ne 6, 3) := by decide +kernel
theorem dX4_uses_29 : decode cX4_uses 29 = .ok (.bipush (-2), 2) := by decide +kernel
theorem dX4_uses_31 : decode cX4_uses 31 = .ok (.ireturn, 1) := by decide +kernel
theorem dX4_uses_32 : decode cX4_uses 32 = .ok (.aload_n 0, 1) := by decide +kernel
theorem dX4_uses_33 : decode cX4_uses 33 = .ok (.getfield 27, 3) := by decide +kernel
theorem dX4_uses_36 : decode cX4_uses 36 = .ok (.getfield 107, 3) := by decide +kernel
theorem dX4_uses_39 : decode cX4_uses 39 = .ok (.iload_n 1, 1) := by decide +kernel
theorem dX4_uses_40 : decode cX4_uses 40 = .ok (.iload_n 2, 1) := by decide +kernel
theorem dX4_uses_41 : decode cX4_uses 41 = .ok (.invokestatic 110, 3) := by decide +kernel
theorem dX4_uses_44 : decode cX4_uses 44 = .ok (.iload_n 3, 1) := by decide +kernel
theorem dX4_uses_45 : decode cX4_uses 45 = .ok (.iconst (-1), 1) := by decide +kernel
theorem dX4_uses_46 : decode cX4_uses 46 = .ok (.if_icmp .ne 8, 3) := by decide +kernel
theorem dX4_uses_49 : decode cX4_uses 49 = .ok (.bipush (-6), 2) := by decide +kernel
theorem dX4_uses_51 : decode cX4_uses 51 = .ok (.goto 4, 3) := by decide +kernel
theorem dX4_uses_54 : decode cX4_uses 54 = .ok (.iload_n 3, 1) := by decide +kernel
theorem dX4_uses_55 : decode cX4_uses 55 = .ok (.invokestatic 94, 3) := by decide +kernel
theorem dX4_uses_58 : decode cX4_uses 58 = .ok (.ireturn, 1) := by decide +kernel
theorem dX4_choices_0 : decode cX4_choices 0 = .ok (.iload_n 1, 1) := by decide +kernel
theorem dX4_choices_1 : decode cX4_choices 1 = .ok (.invokestatic 88, 3) := by decide +kernel
theorem dX4_choices_4 : decode cX4_choices 4 = .ok (.ifCond .eq 14, 3) := by decide +kernel
theorem dX4_choices_7 : decode cX4_choices 7 = .ok (.aload_n 0, 1) := by decide +kernel
theorem dX4_choices_8 : decode cX4_choices 8 = .ok (.getfield 27, 3) := by decide +kernel
theorem dX4_choices_11 : decode cX4_choices 11 = .ok (.iload_n 1, 1) := by decide +kernel
theorem dX4_choices_12 : decode cX4_choices 12 = .ok (.invokevirtual 114, 3) := by decide +kernel
theorem dX4_choices_15 : decode cX4_choices 15 = .ok (.goto 4, 3) := by decide +kernel
theorem dX4_choices_18 : decode cX4_choices 18 = .ok (.iconst (-1), 1) := by decide +kernel
theorem dX4_choices_19 : decode cX4_choices 19 = .ok (.ireturn, 1) := by decide +kernel
theorem dX4_whole_0 : decode cX4_whole 0 = .ok (.iload_n 1, 1) := by decide +kernel
theorem dX4_whole_1 : decode cX4_whole 1 = .ok (.invokestatic 88, 3) := by decide +kernel
theorem dX4_whole_4 : decode cX4_whole 4 = .ok (.ifCond .ne 5, 3) := by decide +kernel
theorem dX4_whole_7 : decode cX4_whole 7 = .ok (.iconst (-1), 1) := by decide +kernel
theorem dX4_whole_8 : decode cX4_whole 8 = .ok (.ireturn, 1) := by decide +kernel
theorem dX4_whole_9 : decode cX4_whole 9 = .ok (.aload_n 0, 1) := by decide +kernel
theorem dX4_whole_10 : decode cX4_whole 10 = .ok (.getfield 27, 3) := by decide +kernel
theorem dX4_whole_13 : decode cX4_whole 13 = .ok (.getfield 118, 3) := by decide +kernel
theorem dX4_whole_16 : decode cX4_whole 16 = .ok (.istore_n 2, 1) := by decide +kernel
theorem dX4_whole_17 : decode cX4_whole 17 = .ok (.aload_n 0, 1) := by decide +kernel
theorem dX4_whole_18 : decode cX4_whole 18 = .ok (.getfield 27, 3) := by decide +kernel
theorem dX4_whole_21 : decode cX4_whole 21 = .ok (.iload_n 1, 1) := by decide +kernel
theorem dX4_whole_22 : decode cX4_whole 22 = .ok (.putfield 118, 3) := by decide +kernel
theorem dX4_whole_25 : decode cX4_whole 25 = .ok (.iload_n 2, 1) := by decide +kernel
theorem dX4_whole_26 : decode cX4_whole 26 = .ok (.ireturn, 1) := by decide +kernel
theorem dX4_coin_0 : decode cX4_coin 0 = .ok (.iload_n 1, 1) := by decide +kernel
theorem dX4_coin_1 : decode cX4_coin 1 = .ok (.iconst 0, 1) := by decide +kernel
theorem dX4_coin_2 : decode cX4_coin 2 = .ok (.bipush 99, 2) := by decide +kernel
theorem dX4_coin_4 : decode cX4_coin 4 = .ok (.invokestatic 50, 3) := by decide +kernel
theorem dX4_coin_7 : decode cX4_coin 7 = .ok (.ifCond .ne 6, 3) := by decide +kernel
theorem dX4_coin_10 : decode cX4_coin 10 = .ok (.bipush (-2), 2) := by decide +kernel
theorem dX4_coin_12 : decode cX4_coin 12 = .ok (.ireturn, 1) := by decide +kernel
theorem dX4_coin_13 : decode cX4_coin 13 = .ok (.aload_n 0, 1) := by decide +kernel
theorem dX4_coin_14 : decode cX4_coin 14 = .ok (.getfield 27, 3) := by decide +kernel
theorem dX4_coin_17 : decode cX4_coin 17 = .ok (.getfield 121, 3) := by decide +kernel
theorem dX4_coin_20 : decode cX4_coin 20 = .ok (.istore_n 2, 1) := by decide +kernel
theorem dX4_coin_21 : decode cX4_coin 21 = .ok (.aload_n 0, 1) := by decide +kernel
theorem dX4_coin_22 : decode cX4_coin 22 = .ok (.getfield 27, 3) := by decide +kernel
theorem dX4_coin_25 : decode cX4_coin 25 = .ok (.iload_n 1, 1) := by decide +kernel
theorem dX4_coin_26 : decode cX4_coin 26 = .ok (.putfield 121, 3) := by decide +kernel
theorem dX4_coin_29 : decode cX4_coin 29 = .ok (.iload_n 2, 1) := by decide +kernel
theorem dX4_coin_30 : decode cX4_coin 30 = .ok (.ireturn, 1) := by decide +kernel
theorem dX4_pieces_0 : decode cX4_pieces 0 = .ok (.aload_n 0, 1) := by decide +kernel
theorem dX4_pieces_1 : decode cX4_pieces 1 = .ok (.getfield 19, 3) := by decide +kernel
theorem dX4_pieces_4 : decode cX4_pieces 4 = .ok (.invokevirtual 124, 3) := by decide +kernel
theorem dX4_pieces_7 : decode cX4_pieces 7 = .ok (.aload_n 0, 1) := by decide +kernel
theorem dX4_pieces_8 : decode cX4_pieces 8 = .ok (.getfield 19, 3) := by decide +kernel
theorem dX4_pieces_11 : decode cX4_pieces 11 = .ok (.getfield 127, 3) := by decide +kernel
theorem dX4_pieces_14 : decode cX4_pieces 14 = .ok (.ireturn, 1) := by decide +kernel
theorem dX4_by_0 : decode cX4_by 0 = .ok (.iload_n 1, 1) := by decide +kernel
theorem dX4_by_1 : decode cX4_by 1 = .ok (.iconst 0, 1) := by decide +kernel
theorem dX4_by_2 : decode cX4_by 2 = .ok (.ldc 130, 2) := by decide +kernel
theorem dX4_by_4 : decode cX4_by 4 = .ok (.invokestatic 50, 3) := by decide +kernel
theorem dX4_by_7 : decode cX4_by 7 = .ok (.ifCond .eq 12, 3) := by decide +kernel
theorem dX4_by_10 : decode cX4_by 10 = .ok (.iload_n 2, 1) := by decide +kernel
theorem dX4_by_11 : decode cX4_by 11 = .ok (.iconst 0, 1) := by decide +kernel
theorem dX4_by_12 : decode cX4_by 12 = .ok (.iconst 4, 1) := by decide +kernel
theorem dX4_by_13 : decode cX4_by 13 = .ok (.invokestatic 50, 3) := by decide +kernel
theorem dX4_by_16 : decode cX4_by 16 = .ok (.ifCond .ne 6, 3) := by decide +kernel
theorem dX4_by_19 : decode cX4_by 19 = .ok (.bipush (-2), 2) := by decide +kernel
theorem dX4_by_21 : decode cX4_by 21 = .ok (.ireturn, 1) := by decide +kernel
theorem dX4_by_22 : decode cX4_by 22 = .ok (.aload_n 0, 1) := by decide +kernel
theorem dX4_by_23 : decode cX4_by 23 = .ok (.getfield 19, 3) := by decide +kernel
theorem dX4_by_26 : decode cX4_by 26 = .ok (.invokevirtual 124, 3) := by decide +kernel
theorem dX4_by_29 : decode cX4_by 29 = .ok (.aload_n 0, 1) := by decide +kernel
theorem dX4_by_30 : decode cX4_by 30 = .ok (.iload_n 1, 1) := by decide +kernel
theorem dX4_by_31 : decode cX4_by 31 = .ok (.invokevirtual 131, 3) := by decide +kernel
theorem dX4_by_34 : decode cX4_by 34 = .ok (.ifCond .ne 6, 3) := by decide +kernel
theorem dX4_by_37 : decode cX4_by 37 = .ok (.bipush (-2), 2) := by decide +kernel
theorem dX4_by_39 : decode cX4_by 39 = .ok (.ireturn, 1) := by decide +kernel
theorem dX4_by_40 : decode cX4_by 40 = .ok (.iload_n 2, 1) := by decide +kernel
theorem dX4_by_41 : decode cX4_by 41 = .ok (.lookupswitch 57 #[(0, 27), (4, 42)], 27) := by decide +kernel
theorem dX4_by_68 : decode cX4_by 68 = .ok (.aload_n 0, 1) := by decide +kernel
theorem dX4_by_69 : decode cX4_by 69 = .ok (.getfield 19, 3) := by decide +kernel
theorem dX4_by_72 : decode cX4_by 72 = .ok (.aload_n 0, 1) := by decide +kernel
theorem dX4_by_73 : decode cX4_by 73 = .ok (.getfield 31, 3) := by decide +kernel
theorem dX4_by_76 : decode cX4_by 76 = .ok (.getfield 134, 3) := by decide +kernel
theorem dX4_by_79 : decode cX4_by 79 = .ok (.invokevirtual 137, 3) := by decide +kernel
theorem dX4_by_82 : decode cX4_by 82 = .ok (.ireturn, 1) := by decide +kernel
theorem dX4_by_83 : decode cX4_by 83 = .ok (.aload_n 0, 1) := by decide +kernel
theorem dX4_by_84 : decode cX4_by 84 = .ok (.getfield 19, 3) := by decide +kernel
theorem dX4_by_87 : decode cX4_by 87 = .ok (.aload_n 0, 1) := by decide +kernel
theorem dX4_by_88 : decode cX4_by 88 = .ok (.getfield 31, 3) := by decide +kernel
theorem dX4_by_91 : decode cX4_by 91 = .ok (.getfield 134, 3) := by decide +kernel
theorem dX4_by_94 : decode cX4_by 94 = .ok (.invokevirtual 141, 3) := by decide +kernel
theorem dX4_by_97 : decode cX4_by 97 = .ok (.ireturn, 1) := by decide +kernel
theorem dX4_by_98 : decode cX4_by 98 = .ok (.aload_n 0, 1) := by decide +kernel
theorem dX4_by_99 : decode cX4_by 99 = .ok (.getfield 19, 3) := by decide +kernel
theorem dX4_by_102 : decode cX4_by 102 = .ok (.aload_n 0, 1) := by decide +kernel
theorem dX4_by_103 : decode cX4_by 103 = .ok (.getfield 31, 3) := by decide +kernel
theorem dX4_by_106 : decode cX4_by 106 = .ok (.getfield 134, 3) := by decide +kernel
theorem dX4_by_109 : decode cX4_by 109 = .ok (.iload_n 2, 1) := by decide +kernel
theorem dX4_by_110 : decode cX4_by 110 = .ok (.iconst 1, 1) := by decide +kernel
theorem dX4_by_111 : decode cX4_by 111 = .ok (.isub, 1) := by decide +kernel
theorem dX4_by_112 : decode cX4_by 112 = .ok (.invokevirtual 144, 3) := by decide +kernel
theorem dX4_by_115 : decode cX4_by 115 = .ok (.ireturn, 1) := by decide +kernel
theorem dX4_best_0 : decode cX4_best 0 = .ok (.iload_n 2, 1) := by decide +kernel
theorem dX4_best_1 : decode cX4_best 1 = .ok (.bipush (-2), 2) := by decide +kernel
theorem dX4_best_3 : decode cX4_best 3 = .ok (.iconst 5, 1) := by decide +kernel
theorem dX4_best_4 : decode cX4_best 4 = .ok (.invokestatic 50, 3) := by decide +kernel
theorem dX4_best_7 : decode cX4_best 7 = .ok (.ifCond .ne 5, 3) := by decide +kernel
theorem dX4_best_10 : decode cX4_best 10 = .ok (.iconst (-1), 1) := by decide +kernel
theorem dX4_best_11 : decode cX4_best 11 = .ok (.ireturn, 1) := by decide +kernel
theorem dX4_best_12 : decode cX4_best 12 = .ok (.iload_n 1, 1) := by decide +kernel
theorem dX4_best_13 : decode cX4_best 13 = .ok (.iconst 0, 1) := by decide +kernel
theorem dX4_best_14 : decode cX4_best 14 = .ok (.iconst 2, 1) := by decide +kernel
theorem dX4_best_15 : decode cX4_best 15 = .ok (.invokestatic 50, 3) := by decide +kernel
theorem dX4_best_18 : decode cX4_best 18 = .ok (.ifCond .ne 6, 3) := by decide +kernel
theorem dX4_best_21 : decode cX4_best 21 = .ok (.bipush (-2), 2) := by decide +kernel
theorem dX4_best_23 : decode cX4_best 23 = .ok (.ireturn, 1) := by decide +kernel
theorem dX4_best_24 : decode cX4_best 24 = .ok (.aload_n 0, 1) := by decide +kernel
theorem dX4_best_25 : decode cX4_best 25 = .ok (.getfield 19, 3) := by decide +kernel
theorem dX4_best_28 : decode cX4_best 28 = .ok (.invokevirtual 124, 3) := by decide +kernel
theorem dX4_best_31 : decode cX4_best 31 = .ok (.aload_n 0, 1) := by decide +kernel
theorem dX4_best_32 : decode cX4_best 32 = .ok (.getfield 19, 3) := by decide +kernel
theorem dX4_best_35 : decode cX4_best 35 = .ok (.iload_n 1, 1) := by decide +kernel
theorem dX4_best_36 : decode cX4_best 36 = .ok (.aload_n 0, 1) := by decide +kernel
theorem dX4_best_37 : decode cX4_best 37 = .ok (.getfield 31, 3) := by decide +kernel
theorem dX4_best_40 : decode cX4_best 40 = .ok (.invokevirtual 148, 3) := by decide +kernel
theorem dX4_best_43 : decode cX4_best 43 = .ok (.ifCond .ne 6, 3) := by decide +kernel
theorem dX4_best_46 : decode cX4_best 46 = .ok (.bipush (-6), 2) := by decide +kernel
theorem dX4_best_48 : decode cX4_best 48 = .ok (.ireturn, 1) := by decide +kernel
theorem dX4_best_49 : decode cX4_best 49 = .ok (.iload_n 2, 1) := by decide +kernel
theorem dX4_best_50 : decode cX4_best 50 = .ok (.bipush (-2), 2) := by decide +kernel
theorem dX4_best_52 : decode cX4_best 52 = .ok (.if_icmp .ne 11, 3) := by decide +kernel
theorem dX4_best_55 : decode cX4_best 55 = .ok (.aload_n 0, 1) := by decide +kernel
theorem dX4_best_56 : decode cX4_best 56 = .ok (.getfield 31, 3) := by decide +kernel
theorem dX4_best_59 : decode cX4_best 59 = .ok (.getfield 152, 3) := by decide +kernel
theorem dX4_best_62 : decode cX4_best 62 = .ok (.ireturn, 1) := by decide +kernel
theorem dX4_best_63 : decode cX4_best 63 = .ok (.iload_n 2, 1) := by decide +kernel
theorem dX4_best_64 : decode cX4_best 64 = .ok (.iconst (-1), 1) := by decide +kernel
theorem dX4_best_65 : decode cX4_best 65 = .ok (.if_icmp .ne 11, 3) := by decide +kernel
theorem dX4_best_68 : decode cX4_best 68 = .ok (.aload_n 0, 1) := by decide +kernel
theorem dX4_best_69 : decode cX4_best 69 = .ok (.getfield 31, 3) := by decide +kernel
theorem dX4_best_72 : decode cX4_best 72 = .ok (.getfield 155, 3) := by decide +kernel
theorem dX4_best_75 : decode cX4_best 75 = .ok (.ireturn, 1) := by decide +kernel
theorem dX4_best_76 : decode cX4_best 76 = .ok (.aload_n 0, 1) := by decide +kernel
theorem dX4_best_77 : decode cX4_best 77 = .ok (.getfield 19, 3) := by decide +kernel
theorem dX4_best_80 : decode cX4_best 80 = .ok (.getfield 158, 3) := by decide +kernel
theorem dX4_best_83 : decode cX4_best 83 = .ok (.iload_n 2, 1) := by decide +kernel
theorem dX4_best_84 : decode cX4_best 84 = .ok (.invokestatic 161, 3) := by decide +kernel
theorem dX4_best_87 : decode cX4_best 87 = .ok (.ifCond .eq 15, 3) := by decide +kernel
theorem dX4_best_90 : decode cX4_best 90 = .ok (.aload_n 0, 1) := by decide +kernel
theorem dX4_best_91 : decode cX4_best 91 = .ok (.getfield 31, 3) := by decide +kernel
theorem dX4_best_94 : decode cX4_best 94 = .ok (.getfield 134, 3) := by decide +kernel
theorem dX4_best_97 : decode cX4_best 97 = .ok (.iload_n 2, 1) := by decide +kernel
theorem dX4_best_98 : decode cX4_best 98 = .ok (.iaload, 1) := by decide +kernel
theorem dX4_best_99 : decode cX4_best 99 = .ok (.goto 5, 3) := by decide +kernel
theorem dX4_best_102 : decode cX4_best 102 = .ok (.bipush (-6), 2) := by decide +kernel
theorem dX4_best_104 : decode cX4_best 104 = .ok (.ireturn, 1) := by decide +kernel
theorem dX4_good_0 : decode cX4_good 0 = .ok (.aload_n 0, 1) := by decide +kernel
theorem dX4_good_1 : decode cX4_good 1 = .ok (.getfield 19, 3) := by decide +kernel
theorem dX4_good_4 : decode cX4_good 4 = .ok (.invokevirtual 124, 3) := by decide +kernel
theorem dX4_good_7 : decode cX4_good 7 = .ok (.aload_n 0, 1) := by decide +kernel
theorem dX4_good_8 : decode cX4_good 8 = .ok (.getfield 19, 3) := by decide +kernel
theorem dX4_good_11 : decode cX4_good 11 = .ok (.invokevirtual 165, 3) := by decide +kernel
theorem dX4_good_14 : decode cX4_good 14 = .ok (.ireturn, 1) := by decide +kernel
theorem dX4_bar_0 : decode cX4_bar 0 = .ok (.aload_n 0, 1) := by decide +kernel
theorem dX4_bar_1 : decode cX4_bar 1 = .ok (.getfield 19, 3) := by decide +kernel
theorem dX4_bar_4 : decode cX4_bar 4 = .ok (.invokevirtual 124, 3) := by decide +kernel
theorem dX4_bar_7 : decode cX4_bar 7 = .ok (.aload_n 0, 1) := by decide +kernel
theorem dX4_bar_8 : decode cX4_bar 8 = .ok (.getfield 19, 3) := by decide +kernel
theorem dX4_bar_11 : decode cX4_bar 11 = .ok (.aload_n 0, 1) := by decide +kernel
theorem dX4_bar_12 : decode cX4_bar 12 = .ok (.getfield 19, 3) := by decide +kernel
theorem dX4_bar_15 : decode cX4_bar 15 = .ok (.getfield 158, 3) := by decide +kernel
theorem dX4_bar_18 : decode cX4_bar 18 = .ok (.invokevirtual 168, 3) := by decide +kernel
theorem dX4_bar_21 : decode cX4_bar 21 = .ok (.ifCond .eq 6, 3) := by decide +kernel
theorem dX4_bar_24 : decode cX4_bar 24 = .ok (.bipush (-3), 2) := by decide +kernel
theorem dX4_bar_26 : decode cX4_bar 26 = .ok (.ireturn, 1) := by decide +kernel
theorem dX4_bar_27 : decode cX4_bar 27 = .ok (.aload_n 0, 1) := by decide +kernel
theorem dX4_bar_28 : decode cX4_bar 28 = .ok (.invokevirtual 171, 3) := by decide +kernel
theorem dX4_bar_31 : decode cX4_bar 31 = .ok (.ireturn, 1) := by decide +kernel
theorem dX4_anew_0 : decode cX4_anew 0 = .ok (.iload_n 1, 1) := by decide +kernel
theorem dX4_anew_1 : decode cX4_anew 1 = .ok (.iconst 0, 1) := by decide +kernel
theorem dX4_anew_2 : decode cX4_anew 2 = .ok (.iconst 1, 1) := by decide +kernel
theorem dX4_anew_3 : decode cX4_anew 3 = .ok (.invokestatic 50, 3) := by decide +kernel
theorem dX4_anew_6 : decode cX4_anew 6 = .ok (.ifCond .ne 6, 3) := by decide +kernel
theorem dX4_anew_9 : decode cX4_anew 9 = .ok (.bipush (-2), 2) := by decide +kernel
theorem dX4_anew_11 : decode cX4_anew 11 = .ok (.ireturn, 1) := by decide +kernel
theorem dX4_anew_12 : decode cX4_anew 12 = .ok (.aload_n 0, 1) := by decide +kernel
theorem dX4_anew_13 : decode cX4_anew 13 = .ok (.getfield 19, 3) := by decide +kernel
theorem dX4_anew_16 : decode cX4_anew 16 = .ok (.invokevirtual 124, 3) := by decide +kernel
theorem dX4_anew_19 : decode cX4_anew 19 = .ok (.aload_n 0, 1) := by decide +kernel
theorem dX4_anew_20 : decode cX4_anew 20 = .ok (.invokevirtual 174, 3) := by decide +kernel
theorem dX4_anew_23 : decode cX4_anew 23 = .ok (.istore_n 2, 1) := by decide +kernel
theorem dX4_anew_24 : decode cX4_anew 24 = .ok (.iload_n 1, 1) := by decide +kernel
theorem dX4_anew_25 : decode cX4_anew 25 = .ok (.ifCond .ne 7, 3) := by decide +kernel
theorem dX4_anew_28 : decode cX4_anew 28 = .ok (.iload_n 2, 1) := by decide +kernel
theorem dX4_anew_29 : decode cX4_anew 29 = .ok (.goto 8, 3) := by decide +kernel
theorem dX4_anew_32 : decode cX4_anew 32 = .ok (.aload_n 0, 1) := by decide +kernel
theorem dX4_anew_33 : decode cX4_anew 33 = .ok (.iload_n 2, 1) := by decide +kernel
theorem dX4_anew_34 : decode cX4_anew 34 = .ok (.invokevirtual 177, 3) := by decide +kernel
theorem dX4_anew_37 : decode cX4_anew 37 = .ok (.ireturn, 1) := by decide +kernel
theorem dX4_looser_0 : decode cX4_looser 0 = .ok (.iload_n 1, 1) := by decide +kernel
theorem dX4_looser_1 : decode cX4_looser 1 = .ok (.iconst 0, 1) := by decide +kernel
theorem dX4_looser_2 : decode cX4_looser 2 = .ok (.iconst 1, 1) := by decide +kernel
theorem dX4_looser_3 : decode cX4_looser 3 = .ok (.invokestatic 50, 3) := by decide +kernel
theorem dX4_looser_6 : decode cX4_looser 6 = .ok (.ifCond .ne 6, 3) := by decide +kernel
theorem dX4_looser_9 : decode cX4_looser 9 = .ok (.bipush (-2), 2) := by decide +kernel
theorem dX4_looser_11 : decode cX4_looser 11 = .ok (.ireturn, 1) := by decide +kernel
theorem dX4_looser_12 : decode cX4_looser 12 = .ok (.aload_n 0, 1) := by decide +kernel
theorem dX4_looser_13 : decode cX4_looser 13 = .ok (.getfield 19, 3) := by decide +kernel
theorem dX4_looser_16 : decode cX4_looser 16 = .ok (.invokevirtual 124, 3) := by decide +kernel
theorem dX4_looser_19 : decode cX4_looser 19 = .ok (.aload_n 0, 1) := by decide +kernel
theorem dX4_looser_20 : decode cX4_looser 20 = .ok (.getfield 19, 3) := by decide +kernel
theorem dX4_looser_23 : decode cX4_looser 23 = .ok (.aload_n 0, 1) := by decide +kernel
theorem dX4_looser_24 : decode cX4_looser 24 = .ok (.getfield 19, 3) := by decide +kernel
theorem dX4_looser_27 : decode cX4_looser 27 = .ok (.getfield 158, 3) := by decide +kernel
theorem dX4_looser_30 : decode cX4_looser 30 = .ok (.invokevirtual 168, 3) := by decide +kernel
theorem dX4_looser_33 : decode cX4_looser 33 = .ok (.ifCond .eq 5, 3) := by decide +kernel
theorem dX4_looser_36 : decode cX4_looser 36 = .ok (.iconst 0, 1) := by decide +kernel
theorem dX4_looser_37 : decode cX4_looser 37 = .ok (.ireturn, 1) := by decide +kernel
theorem dX4_looser_38 : decode cX4_looser 38 = .ok (.aload_n 0, 1) := by decide +kernel
theorem dX4_looser_39 : decode cX4_looser 39 = .ok (.iload_n 1, 1) := by decide +kernel
theorem dX4_looser_40 : decode cX4_looser 40 = .ok (.invokevirtual 180, 3) := by decide +kernel
theorem dX4_looser_43 : decode cX4_looser 43 = .ok (.ireturn, 1) := by decide +kernel
theorem dX4_agree_0 : decode cX4_agree 0 = .ok (.iload_n 1, 1) := by decide +kernel
theorem dX4_agree_1 : decode cX4_agree 1 = .ok (.invokestatic 66, 3) := by decide +kernel
theorem dX4_agree_4 : decode cX4_agree 4 = .ok (.ifCond .ne 5, 3) := by decide +kernel
theorem dX4_agree_7 : decode cX4_agree 7 = .ok (.iconst (-1), 1) := by decide +kernel
theorem dX4_agree_8 : decode cX4_agree 8 = .ok (.ireturn, 1) := by decide +kernel
theorem dX4_agree_9 : decode cX4_agree 9 = .ok (.iload_n 2, 1) := by decide +kernel
theorem dX4_agree_10 : decode cX4_agree 10 = .ok (.iconst 0, 1) := by decide +kernel
theorem dX4_agree_11 : decode cX4_agree 11 = .ok (.bipush 63, 2) := by decide +kernel
theorem dX4_agree_13 : decode cX4_agree 13 = .ok (.invokestatic 50, 3) := by decide +kernel
theorem dX4_agree_16 : decode cX4_agree 16 = .ok (.ifCond .ne 6, 3) := by decide +kernel
theorem dX4_agree_19 : decode cX4_agree 19 = .ok (.bipush (-2), 2) := by decide +kernel
theorem dX4_agree_21 : decode cX4_agree 21 = .ok (.ireturn, 1) := by decide +kernel
theorem dX4_agree_22 : decode cX4_agree 22 = .ok (.aload_n 0, 1) := by decide +kernel
theorem dX4_agree_23 : decode cX4_agree 23 = .ok (.getfield 19, 3) := by decide +kernel
theorem dX4_agree_26 : decode cX4_agree 26 = .ok (.invokevirtual 124, 3) := by decide +kernel
theorem dX4_agree_29 : decode cX4_agree 29 = .ok (.aload_n 0, 1) := by decide +kernel
theorem dX4_agree_30 : decode cX4_agree 30 = .ok (.getfield 19, 3) := by decide +kernel
theorem dX4_agree_33 : decode cX4_agree 33 = .ok (.getfield 127, 3) := by decide +kernel
theorem dX4_agree_36 : decode cX4_agree 36 = .ok (.iload_n 2, 1) := by decide +kernel
theorem dX4_agree_37 : decode cX4_agree 37 = .ok (.iconst (-1), 1) := by decide +kernel
theorem dX4_agree_38 : decode cX4_agree 38 = .ok (.ixor, 1) := by decide +kernel
theorem dX4_agree_39 : decode cX4_agree 39 = .ok (.iand, 1) := by decide +kernel
theorem dX4_agree_40 : decode cX4_agree 40 = .ok (.istore_n 3, 1) := by decide +kernel
theorem dX4_agree_41 : decode cX4_agree 41 = .ok (.iconst 0, 1) := by decide +kernel
theorem dX4_agree_42 : decode cX4_agree 42 = .ok (.istore 4, 2) := by decide +kernel
theorem dX4_agree_44 : decode cX4_agree 44 = .ok (.iconst 0, 1) := by decide +kernel
theorem dX4_agree_45 : decode cX4_agree 45 = .ok (.istore 5, 2) := by decide +kernel
theorem dX4_agree_47 : decode cX4_agree 47 = .ok (.iload 5, 2) := by decide +kernel
theorem dX4_agree_49 : decode cX4_agree 49 = .ok (.bipush 6, 2) := by decide +kernel
theorem dX4_agree_51 : decode cX4_agree 51 = .ok (.if_icmp .ge 50, 3) := by decide +kernel
theorem dX4_agree_54 : decode cX4_agree 54 = .ok (.iload_n 3, 1) := by decide +kernel
theorem dX4_agree_55 : decode cX4_agree 55 = .ok (.iload 5, 2) := by decide +kernel
theorem dX4_agree_57 : decode cX4_agree 57 = .ok (.invokestatic 161, 3) := by decide +kernel
theorem dX4_agree_60 : decode cX4_agree 60 = .ok (.ifCond .eq 35, 3) := by decide +kernel
theorem dX4_agree_63 : decode cX4_agree 63 = .ok (.aload_n 0, 1) := by decide +kernel
theorem dX4_agree_64 : decode cX4_agree 64 = .ok (.getfield 19, 3) := by decide +kernel
theorem dX4_agree_67 : decode cX4_agree 67 = .ok (.getfield 183, 3) := by decide +kernel
theorem dX4_agree_70 : decode cX4_agree 70 = .ok (.iload 5, 2) := by decide +kernel
theorem dX4_agree_72 : decode cX4_agree 72 = .ok (.iaload, 1) := by decide +kernel
theorem dX4_agree_73 : decode cX4_agree 73 = .ok (.iload_n 1, 1) := by decide +kernel
theorem dX4_agree_74 : decode cX4_agree 74 = .ok (.invokestatic 161, 3) := by decide +kernel
theorem dX4_agree_77 : decode cX4_agree 77 = .ok (.ifCond .ne 18, 3) := by decide +kernel
theorem dX4_agree_80 : decode cX4_agree 80 = .ok (.iload 4, 2) := by decide +kernel
theorem dX4_agree_82 : decode cX4_agree 82 = .ok (.aload_n 0, 1) := by decide +kernel
theorem dX4_agree_83 : decode cX4_agree 83 = .ok (.getfield 27, 3) := by decide +kernel
theorem dX4_agree_86 : decode cX4_agree 86 = .ok (.getfield 101, 3) := by decide +kernel
theorem dX4_agree_89 : decode cX4_agree 89 = .ok (.iload 5, 2) := by decide +kernel
theorem dX4_agree_91 : decode cX4_agree 91 = .ok (.iaload, 1) := by decide +kernel
theorem dX4_agree_92 : decode cX4_agree 92 = .ok (.ior, 1) := by decide +kernel
theorem dX4_agree_93 : decode cX4_agree 93 = .ok (.istore 4, 2) := by decide +kernel
theorem dX4_agree_95 : decode cX4_agree 95 = .ok (.iinc 5 1, 3) := by decide +kernel
theorem dX4_agree_98 : decode cX4_agree 98 = .ok (.goto (-51), 3) := by decide +kernel
theorem dX4_agree_101 : decode cX4_agree 101 = .ok (.iload 4, 2) := by decide +kernel
theorem dX4_agree_103 : decode cX4_agree 103 = .ok (.ireturn, 1) := by decide +kernel
theorem dX4_more_0 : decode cX4_more 0 = .ok (.iload_n 1, 1) := by decide +kernel
theorem dX4_more_1 : decode cX4_more 1 = .ok (.iconst 0, 1) := by decide +kernel
theorem dX4_more_2 : decode cX4_more 2 = .ok (.aload_n 0, 1) := by decide +kernel
theorem dX4_more_3 : decode cX4_more 3 = .ok (.getfield 27, 3) := by decide +kernel
theorem dX4_more_6 : decode cX4_more 6 = .ok (.getfield 118, 3) := by decide +kernel
theorem dX4_more_9 : decode cX4_more 9 = .ok (.iconst 1, 1) := by decide +kernel
theorem dX4_more_10 : decode cX4_more 10 = .ok (.isub, 1) := by decide +kernel
theorem dX4_more_11 : decode cX4_more 11 = .ok (.invokestatic 50, 3) := by decide +kernel
theorem dX4_more_14 : decode cX4_more 14 = .ok (.ifCond .ne 5, 3) := by decide +kernel
theorem dX4_more_17 : decode cX4_more 17 = .ok (.iconst (-1), 1) := by decide +kernel
theorem dX4_more_18 : decode cX4_more 18 = .ok (.ireturn, 1) := by decide +kernel
theorem dX4_more_19 : decode cX4_more 19 = .ok (.iload_n 2, 1) := by decide +kernel
theorem dX4_more_20 : decode cX4_more 20 = .ok (.iconst 0, 1) := by decide +kernel
theorem dX4_more_21 : decode cX4_more 21 = .ok (.iconst 3, 1) := by decide +kernel
theorem dX4_more_22 : decode cX4_more 22 = .ok (.invokestatic 50, 3) := by decide +kernel
theorem dX4_more_25 : decode cX4_more 25 = .ok (.ifCond .eq 12, 3) := by decide +kernel
theorem dX4_more_28 : decode cX4_more 28 = .ok (.iload_n 3, 1) := by decide +kernel
theorem dX4_more_29 : decode cX4_more 29 = .ok (.iconst 0, 1) := by decide +kernel
theorem dX4_more_30 : decode cX4_more 30 = .ok (.iconst 2, 1) := by decide +kernel
theorem dX4_more_31 : decode cX4_more 31 = .ok (.invokestatic 50, 3) := by decide +kernel
theorem dX4_more_34 : decode cX4_more 34 = .ok (.ifCond .ne 6, 3) := by decide +kernel
theorem dX4_more_37 : decode cX4_more 37 = .ok (.bipush (-2), 2) := by decide +kernel
theorem dX4_more_39 : decode cX4_more 39 = .ok (.ireturn, 1) := by decide +kernel
theorem dX4_more_40 : decode cX4_more 40 = .ok (.aload_n 0, 1) := by decide +kernel
theorem dX4_more_41 : decode cX4_more 41 = .ok (.getfield 27, 3) := by decide +kernel
theorem dX4_more_44 : decode cX4_more 44 = .ok (.getfield 107, 3) := by decide +kernel
theorem dX4_more_47 : decode cX4_more 47 = .ok (.aload_n 0, 1) := by decide +kernel
theorem dX4_more_48 : decode cX4_more 48 = .ok (.getfield 27, 3) := by decide +kernel
theorem dX4_more_51 : decode cX4_more 51 = .ok (.getfield 118, 3) := by decide +kernel
theorem dX4_more_54 : decode cX4_more 54 = .ok (.iload_n 1, 1) := by decide +kernel
theorem dX4_more_55 : decode cX4_more 55 = .ok (.invokestatic 110, 3) := by decide +kernel
theorem dX4_more_58 : decode cX4_more 58 = .ok (.iaload, 1) := by decide +kernel
theorem dX4_more_59 : decode cX4_more 59 = .ok (.bipush (-6), 2) := by decide +kernel
theorem dX4_more_61 : decode cX4_more 61 = .ok (.if_icmp .eq 6, 3) := by decide +kernel
theorem dX4_more_64 : decode cX4_more 64 = .ok (.bipush (-3), 2) := by decide +kernel
theorem dX4_more_66 : decode cX4_more 66 = .ok (.ireturn, 1) := by decide +kernel
theorem dX4_more_67 : decode cX4_more 67 = .ok (.aload_n 0, 1) := by decide +kernel
theorem dX4_more_68 : decode cX4_more 68 = .ok (.getfield 19, 3) := by decide +kernel
theorem dX4_more_71 : decode cX4_more 71 = .ok (.invokevirtual 124, 3) := by decide +kernel
theorem dX4_more_74 : decode cX4_more 74 = .ok (.aload_n 0, 1) := by decide +kernel
theorem dX4_more_75 : decode cX4_more 75 = .ok (.getfield 19, 3) := by decide +kernel
theorem dX4_more_78 : decode cX4_more 78 = .ok (.iload_n 3, 1) := by decide +kernel
theorem dX4_more_79 : decode cX4_more 79 = .ok (.aload_n 0, 1) := by decide +kernel
theorem dX4_more_80 : decode cX4_more 80 = .ok (.getfield 31, 3) := by decide +kernel
theorem dX4_more_83 : decode cX4_more 83 = .ok (.invokevirtual 148, 3) := by decide +kernel
theorem dX4_more_86 : decode cX4_more 86 = .ok (.ifCond .ne 6, 3) := by decide +kernel
theorem dX4_more_89 : decode cX4_more 89 = .ok (.bipush (-6), 2) := by decide +kernel
theorem dX4_more_91 : decode cX4_more 91 = .ok (.ireturn, 1) := by decide +kernel
theorem dX4_more_92 : decode cX4_more 92 = .ok (.aload_n 0, 1) := by decide +kernel
theorem dX4_more_93 : decode cX4_more 93 = .ok (.getfield 31, 3) := by decide +kernel
theorem dX4_more_96 : decode cX4_more 96 = .ok (.getfield 155, 3) := by decide +kernel
theorem dX4_more_99 : decode cX4_more 99 = .ok (.istore 4, 2) := by decide +kernel
theorem dX4_more_101 : decode cX4_more 101 = .ok (.aload_n 0, 1) := by decide +kernel
theorem dX4_more_102 : decode cX4_more 102 = .ok (.getfield 19, 3) := by decide +kernel
theorem dX4_more_105 : decode cX4_more 105 = .ok (.iload_n 1, 1) := by decide +kernel
theorem dX4_more_106 : decode cX4_more 106 = .ok (.iload_n 2, 1) := by decide +kernel
theorem dX4_more_107 : decode cX4_more 107 = .ok (.invokevirtual 186, 3) := by decide +kernel
theorem dX4_more_110 : decode cX4_more 110 = .ok (.aload_n 0, 1) := by decide +kernel
theorem dX4_more_111 : decode cX4_more 111 = .ok (.getfield 19, 3) := by decide +kernel
theorem dX4_more_114 : decode cX4_more 114 = .ok (.iload_n 3, 1) := by decide +kernel
theorem dX4_more_115 : decode cX4_more 115 = .ok (.aload_n 0, 1) := by decide +kernel
theorem dX4_more_116 : decode cX4_more 116 = .ok (.getfield 31, 3) := by decide +kernel
theorem dX4_more_119 : decode cX4_more 119 = .ok (.invokevirtual 148, 3) := by decide +kernel
theorem dX4_more_122 : decode cX4_more 122 = .ok (.ifCond .eq 18, 3) := by decide +kernel
theorem dX4_more_125 : decode cX4_more 125 = .ok (.aload_n 0, 1) := by decide +kernel
theorem dX4_more_126 : decode cX4_more 126 = .ok (.getfield 31, 3) := by decide +kernel
theorem dX4_more_129 : decode cX4_more 129 = .ok (.getfield 155, 3) := by decide +kernel
theorem dX4_more_132 : decode cX4_more 132 = .ok (.iload 4, 2) := by decide +kernel
theorem dX4_more_134 : decode cX4_more 134 = .ok (.iconst (-1), 1) := by decide +kernel
theorem dX4_more_135 : decode cX4_more 135 = .ok (.ixor, 1) := by decide +kernel
theorem dX4_more_136 : decode cX4_more 136 = .ok (.iand, 1) := by decide +kernel
theorem dX4_more_137 : decode cX4_more 137 = .ok (.goto 5, 3) := by decide +kernel
theorem dX4_more_140 : decode cX4_more 140 = .ok (.bipush (-6), 2) := by decide +kernel
theorem dX4_more_142 : decode cX4_more 142 = .ok (.ireturn, 1) := by decide +kernel
theorem dX4_names_0 : decode cX4_names 0 = .ok (.aload_n 0, 1) := by decide +kernel
theorem dX4_names_1 : decode cX4_names 1 = .ok (.getfield 19, 3) := by decide +kernel
theorem dX4_names_4 : decode cX4_names 4 = .ok (.invokevirtual 124, 3) := by decide +kernel
theorem dX4_names_7 : decode cX4_names 7 = .ok (.aload_n 0, 1) := by decide +kernel
theorem dX4_names_8 : decode cX4_names 8 = .ok (.getfield 19, 3) := by decide +kernel
theorem dX4_names_11 : decode cX4_names 11 = .ok (.iconst 0, 1) := by decide +kernel
theorem dX4_names_12 : decode cX4_names 12 = .ok (.aload_n 0, 1) := by decide +kernel
theorem dX4_names_13 : decode cX4_names 13 = .ok (.getfield 31, 3) := by decide +kernel
theorem dX4_names_16 : decode cX4_names 16 = .ok (.invokevirtual 148, 3) := by decide +kernel
theorem dX4_names_19 : decode cX4_names 19 = .ok (.ifCond .ne 6, 3) := by decide +kernel
theorem dX4_names_22 : decode cX4_names 22 = .ok (.bipush (-6), 2) := by decide +kernel
theorem dX4_names_24 : decode cX4_names 24 = .ok (.ireturn, 1) := by decide +kernel
theorem dX4_names_25 : decode cX4_names 25 = .ok (.aload_n 0, 1) := by decide +kernel
theorem dX4_names_26 : decode cX4_names 26 = .ok (.invokevirtual 190, 3) := by decide +kernel
theorem dX4_names_29 : decode cX4_names 29 = .ok (.iload_n 1, 1) := by decide +kernel
theorem dX4_names_30 : decode cX4_names 30 = .ok (.iconst (-1), 1) := by decide +kernel
theorem dX4_names_31 : decode cX4_names 31 = .ok (.if_icmp .ne 10, 3) := by decide +kernel
theorem dX4_names_34 : decode cX4_names 34 = .ok (.aload_n 0, 1) := by decide +kernel
theorem dX4_names_35 : decode cX4_names 35 = .ok (.invokevirtual 193, 3) := by decide +kernel
theorem dX4_names_38 : decode cX4_names 38 = .ok (.goto 8, 3) := by decide +kernel
theorem dX4_names_41 : decode cX4_names 41 = .ok (.aload_n 0, 1) := by decide +kernel
theorem dX4_names_42 : decode cX4_names 42 = .ok (.iload_n 1, 1) := by decide +kernel
theorem dX4_names_43 : decode cX4_names 43 = .ok (.invokevirtual 196, 3) := by decide +kernel
theorem dX4_names_46 : decode cX4_names 46 = .ok (.ireturn, 1) := by decide +kernel
theorem dX4_audit_0 : decode cX4_audit 0 = .ok (.iload_n 1, 1) := by decide +kernel
theorem dX4_audit_1 : decode cX4_audit 1 = .ok (.invokestatic 88, 3) := by decide +kernel
theorem dX4_audit_4 : decode cX4_audit 4 = .ok (.ifCond .ne 5, 3) := by decide +kernel
theorem dX4_audit_7 : decode cX4_audit 7 = .ok (.iconst (-1), 1) := by decide +kernel
theorem dX4_audit_8 : decode cX4_audit 8 = .ok (.ireturn, 1) := by decide +kernel
theorem dX4_audit_9 : decode cX4_audit 9 = .ok (.iload_n 2, 1) := by decide +kernel
theorem dX4_audit_10 : decode cX4_audit 10 = .ok (.iconst 0, 1) := by decide +kernel
theorem dX4_audit_11 : decode cX4_audit 11 = .ok (.iconst 1, 1) := by decide +kernel
theorem dX4_audit_12 : decode cX4_audit 12 = .ok (.invokestatic 50, 3) := by decide +kernel
theorem dX4_audit_15 : decode cX4_audit 15 = .ok (.ifCond .ne 6, 3) := by decide +kernel
theorem dX4_audit_18 : decode cX4_audit 18 = .ok (.bipush (-2), 2) := by decide +kernel
theorem dX4_audit_20 : decode cX4_audit 20 = .ok (.ireturn, 1) := by decide +kernel
theorem dX4_audit_21 : decode cX4_audit 21 = .ok (.aload_n 0, 1) := by decide +kernel
theorem dX4_audit_22 : decode cX4_audit 22 = .ok (.getfield 19, 3) := by decide +kernel
theorem dX4_audit_25 : decode cX4_audit 25 = .ok (.invokevirtual 124, 3) := by decide +kernel
theorem dX4_audit_28 : decode cX4_audit 28 = .ok (.aload_n 0, 1) := by decide +kernel
theorem dX4_audit_29 : decode cX4_audit 29 = .ok (.getfield 19, 3) := by decide +kernel
theorem dX4_audit_32 : decode cX4_audit 32 = .ok (.getfield 127, 3) := by decide +kernel
theorem dX4_audit_35 : decode cX4_audit 35 = .ok (.iload_n 1, 1) := by decide +kernel
theorem dX4_audit_36 : decode cX4_audit 36 = .ok (.invokestatic 161, 3) := by decide +kernel
theorem dX4_audit_39 : decode cX4_audit 39 = .ok (.ifCond .ne 6, 3) := by decide +kernel
theorem dX4_audit_42 : decode cX4_audit 42 = .ok (.bipush (-6), 2) := by decide +kernel
theorem dX4_audit_44 : decode cX4_audit 44 = .ok (.ireturn, 1) := by decide +kernel
theorem dX4_audit_45 : decode cX4_audit 45 = .ok (.aload_n 0, 1) := by decide +kernel
theorem dX4_audit_46 : decode cX4_audit 46 = .ok (.getfield 19, 3) := by decide +kernel
theorem dX4_audit_49 : decode cX4_audit 49 = .ok (.invokevirtual 199, 3) := by decide +kernel
theorem dX4_audit_52 : decode cX4_audit 52 = .ok (.iload_n 2, 1) := by decide +kernel
theorem dX4_audit_53 : decode cX4_audit 53 = .ok (.ifCond .ne 15, 3) := by decide +kernel
theorem dX4_audit_56 : decode cX4_audit 56 = .ok (.aload_n 0, 1) := by decide +kernel
theorem dX4_audit_57 : decode cX4_audit 57 = .ok (.getfield 19, 3) := by decide +kernel
theorem dX4_audit_60 : decode cX4_audit 60 = .ok (.getfield 202, 3) := by decide +kernel
theorem dX4_audit_63 : decode cX4_audit 63 = .ok (.iload_n 1, 1) := by decide +kernel
theorem dX4_audit_64 : decode cX4_audit 64 = .ok (.iaload, 1) := by decide +kernel
theorem dX4_audit_65 : decode cX4_audit 65 = .ok (.goto 12, 3) := by decide +kernel
theorem dX4_audit_68 : decode cX4_audit 68 = .ok (.aload_n 0, 1) := by decide +kernel
theorem dX4_audit_69 : decode cX4_audit 69 = .ok (.getfield 19, 3) := by decide +kernel
theorem dX4_audit_72 : decode cX4_audit 72 = .ok (.getfield 205, 3) := by decide +kernel
theorem dX4_audit_75 : decode cX4_audit 75 = .ok (.iload_n 1, 1) := by decide +kernel
theorem dX4_audit_76 : decode cX4_audit 76 = .ok (.iaload, 1) := by decide +kernel
theorem dX4_audit_77 : decode cX4_audit 77 = .ok (.ireturn, 1) := by decide +kernel
theorem dX4_image_0 : decode cX4_image 0 = .ok (.iload_n 1, 1) := by decide +kernel
theorem dX4_image_1 : decode cX4_image 1 = .ok (.iconst 0, 1) := by decide +kernel
theorem dX4_image_2 : decode cX4_image 2 = .ok (.iconst 1, 1) := by decide +kernel
theorem dX4_image_3 : decode cX4_image 3 = .ok (.invokestatic 50, 3) := by decide +kernel
theorem dX4_image_6 : decode cX4_image 6 = .ok (.ifCond .ne 6, 3) := by decide +kernel
theorem dX4_image_9 : decode cX4_image 9 = .ok (.bipush (-2), 2) := by decide +kernel
theorem dX4_image_11 : decode cX4_image 11 = .ok (.ireturn, 1) := by decide +kernel
theorem dX4_image_12 : decode cX4_image 12 = .ok (.aload_n 0, 1) := by decide +kernel
theorem dX4_image_13 : decode cX4_image 13 = .ok (.getfield 37, 3) := by decide +kernel
theorem dX4_image_16 : decode cX4_image 16 = .ok (.iload_n 1, 1) := by decide +kernel
theorem dX4_image_17 : decode cX4_image 17 = .ok (.aaload, 1) := by decide +kernel
theorem dX4_image_18 : decode cX4_image 18 = .ok (.aload_n 0, 1) := by decide +kernel
theorem dX4_image_19 : decode cX4_image 19 = .ok (.getfield 27, 3) := by decide +kernel
theorem dX4_image_22 : decode cX4_image 22 = .ok (.invokevirtual 208, 3) := by decide +kernel
theorem dX4_image_25 : decode cX4_image 25 = .ok (.aload_n 0, 1) := by decide +kernel
theorem dX4_image_26 : decode cX4_image 26 = .ok (.getfield 42, 3) := by decide +kernel
theorem dX4_image_29 : decode cX4_image 29 = .ok (.iload_n 1, 1) := by decide +kernel
theorem dX4_image_30 : decode cX4_image 30 = .ok (.iconst 1, 1) := by decide +kernel
theorem dX4_image_31 : decode cX4_image 31 = .ok (.bastore, 1) := by decide +kernel
theorem dX4_image_32 : decode cX4_image 32 = .ok (.iconst 1, 1) := by decide +kernel
theorem dX4_image_33 : decode cX4_image 33 = .ok (.ireturn, 1) := by decide +kernel
theorem dX4_restore_0 : decode cX4_restore 0 = .ok (.iload_n 1, 1) := by decide +kernel
theorem dX4_restore_1 : decode cX4_restore 1 = .ok (.iconst 0, 1) := by decide +kernel
theorem dX4_restore_2 : decode cX4_restore 2 = .ok (.iconst 1, 1) := by decide +kernel
theorem dX4_restore_3 : decode cX4_restore 3 = .ok (.invokestatic 50, 3) := by decide +kernel
theorem dX4_restore_6 : decode cX4_restore 6 = .ok (.ifCond .ne 6, 3) := by decide +kernel
theorem dX4_restore_9 : decode cX4_restore 9 = .ok (.bipush (-2), 2) := by decide +kernel
theorem dX4_restore_11 : decode cX4_restore 11 = .ok (.ireturn, 1) := by decide +kernel
theorem dX4_restore_12 : decode cX4_restore 12 = .ok (.aload_n 0, 1) := by decide +kernel
theorem dX4_restore_13 : decode cX4_restore 13 = .ok (.getfield 42, 3) := by decide +kernel
theorem dX4_restore_16 : decode cX4_restore 16 = .ok (.iload_n 1, 1) := by decide +kernel
theorem dX4_restore_17 : decode cX4_restore 17 = .ok (.baload, 1) := by decide +kernel
theorem dX4_restore_18 : decode cX4_restore 18 = .ok (.ifCond .ne 6, 3) := by decide +kernel
theorem dX4_restore_21 : decode cX4_restore 21 = .ok (.bipush (-3), 2) := by decide +kernel
theorem dX4_restore_23 : decode cX4_restore 23 = .ok (.ireturn, 1) := by decide +kernel
theorem dX4_restore_24 : decode cX4_restore 24 = .ok (.aload_n 0, 1) := by decide +kernel
theorem dX4_restore_25 : decode cX4_restore 25 = .ok (.getfield 27, 3) := by decide +kernel
theorem dX4_restore_28 : decode cX4_restore 28 = .ok (.aload_n 0, 1) := by decide +kernel
theorem dX4_restore_29 : decode cX4_restore 29 = .ok (.getfield 37, 3) := by decide +kernel
theorem dX4_restore_32 : decode cX4_restore 32 = .ok (.iload_n 1, 1) := by decide +kernel
theorem dX4_restore_33 : decode cX4_restore 33 = .ok (.aaload, 1) := by decide +kernel
theorem dX4_restore_34 : decode cX4_restore 34 = .ok (.invokevirtual 208, 3) := by decide +kernel
theorem dX4_restore_37 : decode cX4_restore 37 = .ok (.iconst 1, 1) := by decide +kernel
theorem dX4_restore_38 : decode cX4_restore 38 = .ok (.ireturn, 1) := by decide +kernel
theorem dX4_told_0 : decode cX4_told 0 = .ok (.iload_n 1, 1) := by decide +kernel
theorem dX4_told_1 : decode cX4_told 1 = .ok (.bipush 100, 2) := by decide +kernel
theorem dX4_told_3 : decode cX4_told 3 = .ok (.if_icmp .lt 12, 3) := by decide +kernel
theorem dX4_told_6 : decode cX4_told 6 = .ok (.aload_n 0, 1) := by decide +kernel
theorem dX4_told_7 : decode cX4_told 7 = .ok (.iload_n 1, 1) := by decide +kernel
theorem dX4_told_8 : decode cX4_told 8 = .ok (.bipush 100, 2) := by decide +kernel
theorem dX4_told_10 : decode cX4_told 10 = .ok (.isub, 1) := by decide +kernel
theorem dX4_told_11 : decode cX4_told 11 = .ok (.invokevirtual 212, 3) := by decide +kernel
theorem dX4_told_14 : decode cX4_told 14 = .ok (.ireturn, 1) := by decide +kernel
theorem dX4_told_15 : decode cX4_told 15 = .ok (.iload_n 1, 1) := by decide +kernel
theorem dX4_told_16 : decode cX4_told 16 = .ok (.bipush 10, 2) := by decide +kernel
theorem dX4_told_18 : decode cX4_told 18 = .ok (.if_icmp .lt 16, 3) := by decide +kernel
theorem dX4_told_21 : decode cX4_told 21 = .ok (.aload_n 0, 1) := by decide +kernel
theorem dX4_told_22 : decode cX4_told 22 = .ok (.iload_n 1, 1) := by decide +kernel
theorem dX4_told_23 : decode cX4_told 23 = .ok (.bipush 10, 2) := by decide +kernel
theorem dX4_told_25 : decode cX4_told 25 = .ok (.idiv, 1) := by decide +kernel
theorem dX4_told_26 : decode cX4_told 26 = .ok (.iload_n 1, 1) := by decide +kernel
theorem dX4_told_27 : decode cX4_told 27 = .ok (.bipush 10, 2) := by decide +kernel
theorem dX4_told_29 : decode cX4_told 29 = .ok (.irem, 1) := by decide +kernel
theorem dX4_told_30 : decode cX4_told 30 = .ok (.invokevirtual 215, 3) := by decide +kernel
theorem dX4_told_33 : decode cX4_told 33 = .ok (.ireturn, 1) := by decide +kernel
theorem dX4_told_34 : decode cX4_told 34 = .ok (.iload_n 1, 1) := by decide +kernel
theorem dX4_told_35 : decode cX4_told 35 = .ok (.tableswitch 49 0 2 #[25, 33, 41], 25) := by decide +kernel
theorem dX4_told_60 : decode cX4_told 60 = .ok (.aload_n 0, 1) := by decide +kernel
theorem dX4_told_61 : decode cX4_told 61 = .ok (.getfield 10, 3) := by decide +kernel
theorem dX4_told_64 : decode cX4_told 64 = .ok (.getfield 54, 3) := by decide +kernel
theorem dX4_told_67 : decode cX4_told 67 = .ok (.ireturn, 1) := by decide +kernel
theorem dX4_told_68 : decode cX4_told 68 = .ok (.aload_n 0, 1) := by decide +kernel
theorem dX4_told_69 : decode cX4_told 69 = .ok (.getfield 27, 3) := by decide +kernel
theorem dX4_told_72 : decode cX4_told 72 = .ok (.getfield 118, 3) := by decide +kernel
theorem dX4_told_75 : decode cX4_told 75 = .ok (.ireturn, 1) := by decide +kernel
theorem dX4_told_76 : decode cX4_told 76 = .ok (.aload_n 0, 1) := by decide +kernel
theorem dX4_told_77 : decode cX4_told 77 = .ok (.getfield 27, 3) := by decide +kernel
theorem dX4_told_80 : decode cX4_told 80 = .ok (.getfield 121, 3) := by decide +kernel
theorem dX4_told_83 : decode cX4_told 83 = .ok (.ireturn, 1) := by decide +kernel
theorem dX4_told_84 : decode cX4_told 84 = .ok (.bipush (-2), 2) := by decide +kernel
theorem dX4_told_86 : decode cX4_told 86 = .ok (.ireturn, 1) := by decide +kernel
theorem dX4_within_0 : decode cX4_within 0 = .ok (.iload_n 0, 1) := by decide +kernel
theorem dX4_within_1 : decode cX4_within 1 = .ok (.iload_n 1, 1) := by decide +kernel
theorem dX4_within_2 : decode cX4_within 2 = .ok (.if_icmp .lt 12, 3) := by decide +kernel
theorem dX4_within_5 : decode cX4_within 5 = .ok (.iload_n 0, 1) := by decide +kernel
theorem dX4_within_6 : decode cX4_within 6 = .ok (.iload_n 2, 1) := by decide +kernel
theorem dX4_within_7 : decode cX4_within 7 = .ok (.if_icmp .gt 7, 3) := by decide +kernel
theorem dX4_within_10 : decode cX4_within 10 = .ok (.iconst 1, 1) := by decide +kernel
theorem dX4_within_11 : decode cX4_within 11 = .ok (.goto 4, 3) := by decide +kernel
theorem dX4_within_14 : decode cX4_within 14 = .ok (.iconst 0, 1) := by decide +kernel
theorem dX4_within_15 : decode cX4_within 15 = .ok (.ireturn, 1) := by decide +kernel
theorem dX4_isTerms_0 : decode cX4_isTerms 0 = .ok (.iload_n 0, 1) := by decide +kernel
theorem dX4_isTerms_1 : decode cX4_isTerms 1 = .ok (.iconst 0, 1) := by decide +kernel
theorem dX4_isTerms_2 : decode cX4_isTerms 2 = .ok (.iconst 4, 1) := by decide +kernel
theorem dX4_isTerms_3 : decode cX4_isTerms 3 = .ok (.invokestatic 50, 3) := by decide +kernel
theorem dX4_isTerms_6 : decode cX4_isTerms 6 = .ok (.ireturn, 1) := by decide +kernel
theorem dX4_isPiece_0 : decode cX4_isPiece 0 = .ok (.iload_n 0, 1) := by decide +kernel
theorem dX4_isPiece_1 : decode cX4_isPiece 1 = .ok (.iconst 0, 1) := by decide +kernel
theorem dX4_isPiece_2 : decode cX4_isPiece 2 = .ok (.iconst 5, 1) := by decide +kernel
theorem dX4_isPiece_3 : decode cX4_isPiece 3 = .ok (.invokestatic 50, 3) := by decide +kernel
theorem dX4_isPiece_6 : decode cX4_isPiece 6 = .ok (.ireturn, 1) := by decide +kernel
theorem dX4_has_0 : decode cX4_has 0 = .ok (.iload_n 0, 1) := by decide +kernel
theorem dX4_has_1 : decode cX4_has 1 = .ok (.iload_n 1, 1) := by decide +kernel
theorem dX4_has_2 : decode cX4_has 2 = .ok (.ishr, 1) := by decide +kernel
theorem dX4_has_3 : decode cX4_has 3 = .ok (.iconst 1, 1) := by decide +kernel
theorem dX4_has_4 : decode cX4_has 4 = .ok (.iand, 1) := by decide +kernel
theorem dX4_has_5 : decode cX4_has 5 = .ok (.ifCond .eq 7, 3) := by decide +kernel
theorem dX4_has_8 : decode cX4_has 8 = .ok (.iconst 1, 1) := by decide +kernel
theorem dX4_has_9 : decode cX4_has 9 = .ok (.goto 4, 3) := by decide +kernel
theorem dX4_has_12 : decode cX4_has 12 = .ok (.iconst 0, 1) := by decide +kernel
theorem dX4_has_13 : decode cX4_has 13 = .ok (.ireturn, 1) := by decide +kernel
theorem dX4_isPartOf_0 : decode cX4_isPartOf 0 = .ok (.iload_n 0, 1) := by decide +kernel
theorem dX4_isPartOf_1 : decode cX4_isPartOf 1 = .ok (.iload_n 1, 1) := by decide +kernel
theorem dX4_isPartOf_2 : decode cX4_isPartOf 2 = .ok (.iconst (-1), 1) := by decide +kernel
theorem dX4_isPartOf_3 : decode cX4_isPartOf 3 = .ok (.ixor, 1) := by decide +kernel
theorem dX4_isPartOf_4 : decode cX4_isPartOf 4 = .ok (.iand, 1) := by decide +kernel
theorem dX4_isPartOf_5 : decode cX4_isPartOf 5 = .ok (.ifCond .ne 7, 3) := by decide +kernel
theorem dX4_isPartOf_8 : decode cX4_isPartOf 8 = .ok (.iconst 1, 1) := by decide +kernel
theorem dX4_isPartOf_9 : decode cX4_isPartOf 9 = .ok (.goto 4, 3) := by decide +kernel
theorem dX4_isPartOf_12 : decode cX4_isPartOf 12 = .ok (.iconst 0, 1) := by decide +kernel
theorem dX4_isPartOf_13 : decode cX4_isPartOf 13 = .ok (.ireturn, 1) := by decide +kernel
theorem dX4_use_0 : decode cX4_use 0 = .ok (.iload_n 0, 1) := by decide +kernel
theorem dX4_use_1 : decode cX4_use 1 = .ok (.bipush 6, 2) := by decide +kernel
theorem dX4_use_3 : decode cX4_use 3 = .ok (.imul, 1) := by decide +kernel
theorem dX4_use_4 : decode cX4_use 4 = .ok (.iload_n 1, 1) := by decide +kernel
theorem dX4_use_5 : decode cX4_use 5 = .ok (.iadd, 1) := by decide +kernel
theorem dX4_use_6 : decode cX4_use 6 = .ok (.ireturn, 1) := by decide +kernel
theorem dX4_swap_0 : decode cX4_swap 0 = .ok (.aload_n 0, 1) := by decide +kernel
theorem dX4_swap_1 : decode cX4_swap 1 = .ok (.iload_n 1, 1) := by decide +kernel
theorem dX4_swap_2 : decode cX4_swap 2 = .ok (.iaload, 1) := by decide +kernel
theorem dX4_swap_3 : decode cX4_swap 3 = .ok (.istore_n 3, 1) := by decide +kernel
theorem dX4_swap_4 : decode cX4_swap 4 = .ok (.aload_n 0, 1) := by decide +kernel
theorem dX4_swap_5 : decode cX4_swap 5 = .ok (.iload_n 1, 1) := by decide +kernel
theorem dX4_swap_6 : decode cX4_swap 6 = .ok (.iload_n 2, 1) := by decide +kernel
theorem dX4_swap_7 : decode cX4_swap 7 = .ok (.iastore, 1) := by decide +kernel
theorem dX4_swap_8 : decode cX4_swap 8 = .ok (.iload_n 3, 1) := by decide +kernel
theorem dX4_swap_9 : decode cX4_swap 9 = .ok (.ireturn, 1) := by decide +kernel
theorem dX4_takeDigits_0 : decode cX4_takeDigits 0 = .ok (.iload_n 1, 1) := by decide +kernel
theorem dX4_takeDigits_1 : decode cX4_takeDigits 1 = .ok (.istore_n 2, 1) := by decide +kernel
theorem dX4_takeDigits_2 : decode cX4_takeDigits 2 = .ok (.iconst 0, 1) := by decide +kernel
theorem dX4_takeDigits_3 : decode cX4_takeDigits 3 = .ok (.istore_n 3, 1) := by decide +kernel
theorem dX4_takeDigits_4 : decode cX4_takeDigits 4 = .ok (.iload_n 3, 1) := by decide +kernel
theorem dX4_takeDigits_5 : decode cX4_takeDigits 5 = .ok (.bipush 6, 2) := by decide +kernel
theorem dX4_takeDigits_7 : decode cX4_takeDigits 7 = .ok (.if_icmp .ge 72, 3) := by decide +kernel
theorem dX4_takeDigits_10 : decode cX4_takeDigits 10 = .ok (.iload_n 2, 1) := by decide +kernel
theorem dX4_takeDigits_11 : decode cX4_takeDigits 11 = .ok (.bipush 10, 2) := by decide +kernel
theorem dX4_takeDigits_13 : decode cX4_takeDigits 13 = .ok (.irem, 1) := by decide +kernel
theorem dX4_takeDigits_14 : decode cX4_takeDigits 14 = .ok (.istore 4, 2) := by decide +kernel
theorem dX4_takeDigits_16 : decode cX4_takeDigits 16 = .ok (.iload_n 2, 1) := by decide +kernel
theorem dX4_takeDigits_17 : decode cX4_takeDigits 17 = .ok (.bipush 10, 2) := by decide +kernel
theorem dX4_takeDigits_19 : decode cX4_takeDigits 19 = .ok (.idiv, 1) := by decide +kernel
theorem dX4_takeDigits_20 : decode cX4_takeDigits 20 = .ok (.istore_n 2, 1) := by decide +kernel
theorem dX4_takeDigits_21 : decode cX4_takeDigits 21 = .ok (.aload_n 0, 1) := by decide +kernel
theorem dX4_takeDigits_22 : decode cX4_takeDigits 22 = .ok (.getfield 19, 3) := by decide +kernel
theorem dX4_takeDigits_25 : decode cX4_takeDigits 25 = .ok (.getfield 158, 3) := by decide +kernel
theorem dX4_takeDigits_28 : decode cX4_takeDigits 28 = .ok (.iload_n 3, 1) := by decide +kernel
theorem dX4_takeDigits_29 : decode cX4_takeDigits 29 = .ok (.invokestatic 161, 3) := by decide +kernel
theorem dX4_takeDigits_32 : decode cX4_takeDigits 32 = .ok (.ifCond .eq 15, 3) := by decide +kernel
theorem dX4_takeDigits_35 : decode cX4_takeDigits 35 = .ok (.aload_n 0, 1) := by decide +kernel
theorem dX4_takeDigits_36 : decode cX4_takeDigits 36 = .ok (.getfield 19, 3) := by decide +kernel
theorem dX4_takeDigits_39 : decode cX4_takeDigits 39 = .ok (.getfield 183, 3) := by decide +kernel
theorem dX4_takeDigits_42 : decode cX4_takeDigits 42 = .ok (.iload_n 3, 1) := by decide +kernel
theorem dX4_takeDigits_43 : decode cX4_takeDigits 43 = .ok (.iaload, 1) := by decide +kernel
theorem dX4_takeDigits_44 : decode cX4_takeDigits 44 = .ok (.goto 4, 3) := by decide +kernel
theorem dX4_takeDigits_47 : decode cX4_takeDigits 47 = .ok (.iconst 1, 1) := by decide +kernel
theorem dX4_takeDigits_48 : decode cX4_takeDigits 48 = .ok (.istore 5, 2) := by decide +kernel
theorem dX4_takeDigits_50 : decode cX4_takeDigits 50 = .ok (.iload 5, 2) := by decide +kernel
theorem dX4_takeDigits_52 : decode cX4_takeDigits 52 = .ok (.iload 4, 2) := by decide +kernel
theorem dX4_takeDigits_54 : decode cX4_takeDigits 54 = .ok (.invokestatic 161, 3) := by decide +kernel
theorem dX4_takeDigits_57 : decode cX4_takeDigits 57 = .ok (.ifCond .ne 5, 3) := by decide +kernel
theorem dX4_takeDigits_60 : decode cX4_takeDigits 60 = .ok (.iconst 0, 1) := by decide +kernel
theorem dX4_takeDigits_61 : decode cX4_takeDigits 61 = .ok (.ireturn, 1) := by decide +kernel
theorem dX4_takeDigits_62 : decode cX4_takeDigits 62 = .ok (.aload_n 0, 1) := by decide +kernel
theorem dX4_takeDigits_63 : decode cX4_takeDigits 63 = .ok (.getfield 31, 3) := by decide +kernel
theorem dX4_takeDigits_66 : decode cX4_takeDigits 66 = .ok (.getfield 134, 3) := by decide +kernel
theorem dX4_takeDigits_69 : decode cX4_takeDigits 69 = .ok (.iload_n 3, 1) := by decide +kernel
theorem dX4_takeDigits_70 : decode cX4_takeDigits 70 = .ok (.iload 4, 2) := by decide +kernel
theorem dX4_takeDigits_72 : decode cX4_takeDigits 72 = .ok (.iastore, 1) := by decide +kernel
theorem dX4_takeDigits_73 : decode cX4_takeDigits 73 = .ok (.iinc 3 1, 3) := by decide +kernel
theorem dX4_takeDigits_76 : decode cX4_takeDigits 76 = .ok (.goto (-72), 3) := by decide +kernel
theorem dX4_takeDigits_79 : decode cX4_takeDigits 79 = .ok (.iconst 1, 1) := by decide +kernel
theorem dX4_takeDigits_80 : decode cX4_takeDigits 80 = .ok (.ireturn, 1) := by decide +kernel
theorem dX4_fewestBarring_0 : decode cX4_fewestBarring 0 = .ok (.aload_n 0, 1) := by decide +kernel
theorem dX4_fewestBarring_1 : decode cX4_fewestBarring 1 = .ok (.getfield 19, 3) := by decide +kernel
theorem dX4_fewestBarring_4 : decode cX4_fewestBarring 4 = .ok (.getfield 158, 3) := by decide +kernel
theorem dX4_fewestBarring_7 : decode cX4_fewestBarring 7 = .ok (.istore_n 1, 1) := by decide +kernel
theorem dX4_fewestBarring_8 : decode cX4_fewestBarring 8 = .ok (.iconst 0, 1) := by decide +kernel
theorem dX4_fewestBarring_9 : decode cX4_fewestBarring 9 = .ok (.istore_n 2, 1) := by decide +kernel
theorem dX4_fewestBarring_10 : decode cX4_fewestBarring 10 = .ok (.iload_n 2, 1) := by decide +kernel
theorem dX4_fewestBarring_11 : decode cX4_fewestBarring 11 = .ok (.bipush 63, 2) := by decide +kernel
theorem dX4_fewestBarring_13 : decode cX4_fewestBarring 13 = .ok (.if_icmp .gt 57, 3) := by decide +kernel
theorem dX4_fewestBarring_16 : decode cX4_fewestBarring 16 = .ok (.iload_n 2, 1) := by decide +kernel
theorem dX4_fewestBarring_17 : decode cX4_fewestBarring 17 = .ok (.invokestatic 218, 3) := by decide +kernel
