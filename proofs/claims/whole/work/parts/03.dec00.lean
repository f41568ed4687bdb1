theorem dX0_init_0 : decode cX0_init 0 = .ok (.aload_n 0, 1) := by decide +kernel
theorem dX0_init_1 : decode cX0_init 1 = .ok (.invokespecial 3, 3) := by decide +kernel
theorem dX0_init_4 : decode cX0_init 4 = .ok (.aload_n 0, 1) := by decide +kernel
theorem dX0_init_5 : decode cX0_init 5 = .ok (.iconst 5, 1) := by decide +kernel
theorem dX0_init_6 : decode cX0_init 6 = .ok (.newarray .int, 2) := by decide +kernel
theorem dX0_init_8 : decode cX0_init 8 = .ok (.putfield 9, 3) := by decide +kernel
theorem dX0_init_11 : decode cX0_init 11 = .ok (.aload_n 0, 1) := by decide +kernel
theorem dX0_init_12 : decode cX0_init 12 = .ok (.iconst 5, 1) := by decide +kernel
theorem dX0_init_13 : decode cX0_init 13 = .ok (.newarray .int, 2) := by decide +kernel
theorem dX0_init_15 : decode cX0_init 15 = .ok (.putfield 15, 3) := by decide +kernel
theorem dX0_init_18 : decode cX0_init 18 = .ok (.aload_n 0, 1) := by decide +kernel
theorem dX0_init_19 : decode cX0_init 19 = .ok (.iconst 5, 1) := by decide +kernel
theorem dX0_init_20 : decode cX0_init 20 = .ok (.newarray .int, 2) := by decide +kernel
theorem dX0_init_22 : decode cX0_init 22 = .ok (.putfield 18, 3) := by decide +kernel
theorem dX0_init_25 : decode cX0_init 25 = .ok (.aload_n 0, 1) := by decide +kernel
theorem dX0_init_26 : decode cX0_init 26 = .ok (.iconst 5, 1) := by decide +kernel
theorem dX0_init_27 : decode cX0_init 27 = .ok (.newarray .int, 2) := by decide +kernel
theorem dX0_init_29 : decode cX0_init 29 = .ok (.putfield 21, 3) := by decide +kernel
theorem dX0_init_32 : decode cX0_init 32 = .ok (.aload_n 0, 1) := by decide +kernel
theorem dX0_init_33 : decode cX0_init 33 = .ok (.bipush 6, 2) := by decide +kernel
theorem dX0_init_35 : decode cX0_init 35 = .ok (.newarray .int, 2) := by decide +kernel
theorem dX0_init_37 : decode cX0_init 37 = .ok (.putfield 24, 3) := by decide +kernel
theorem dX0_init_40 : decode cX0_init 40 = .ok (.aload_n 0, 1) := by decide +kernel
theorem dX0_init_41 : decode cX0_init 41 = .ok (.bipush 6, 2) := by decide +kernel
theorem dX0_init_43 : decode cX0_init 43 = .ok (.newarray .int, 2) := by decide +kernel
theorem dX0_init_45 : decode cX0_init 45 = .ok (.putfield 27, 3) := by decide +kernel
theorem dX0_init_48 : decode cX0_init 48 = .ok (.aload_n 0, 1) := by decide +kernel
theorem dX0_init_49 : decode cX0_init 49 = .ok (.bipush 6, 2) := by decide +kernel
theorem dX0_init_51 : decode cX0_init 51 = .ok (.newarray .int, 2) := by decide +kernel
theorem dX0_init_53 : decode cX0_init 53 = .ok (.putfield 30, 3) := by decide +kernel
theorem dX0_init_56 : decode cX0_init 56 = .ok (.aload_n 0, 1) := by decide +kernel
theorem dX0_init_57 : decode cX0_init 57 = .ok (.bipush 6, 2) := by decide +kernel
theorem dX0_init_59 : decode cX0_init 59 = .ok (.newarray .int, 2) := by decide +kernel
theorem dX0_init_61 : decode cX0_init 61 = .ok (.putfield 33, 3) := by decide +kernel
theorem dX0_init_64 : decode cX0_init 64 = .ok (.aload_n 0, 1) := by decide +kernel
theorem dX0_init_65 : decode cX0_init 65 = .ok (.bipush 36, 2) := by decide +kernel
theorem dX0_init_67 : decode cX0_init 67 = .ok (.newarray .int, 2) := by decide +kernel
theorem dX0_init_69 : decode cX0_init 69 = .ok (.putfield 36, 3) := by decide +kernel
theorem dX0_init_72 : decode cX0_init 72 = .ok (.aload_n 0, 1) := by decide +kernel
theorem dX0_init_73 : decode cX0_init 73 = .ok (.iconst 5, 1) := by decide +kernel
theorem dX0_init_74 : decode cX0_init 74 = .ok (.putfield 39, 3) := by decide +kernel
theorem dX0_init_77 : decode cX0_init 77 = .ok (.aload_n 0, 1) := by decide +kernel
theorem dX0_init_78 : decode cX0_init 78 = .ok (.iconst 5, 1) := by decide +kernel
theorem dX0_init_79 : decode cX0_init 79 = .ok (.putfield 43, 3) := by decide +kernel
theorem dX0_init_82 : decode cX0_init 82 = .ok (.iconst 0, 1) := by decide +kernel
theorem dX0_init_83 : decode cX0_init 83 = .ok (.istore_n 1, 1) := by decide +kernel
theorem dX0_init_84 : decode cX0_init 84 = .ok (.iload_n 1, 1) := by decide +kernel
theorem dX0_init_85 : decode cX0_init 85 = .ok (.iconst 5, 1) := by decide +kernel
theorem dX0_init_86 : decode cX0_init 86 = .ok (.if_icmp .ge 32, 3) := by decide +kernel
theorem dX0_init_89 : decode cX0_init 89 = .ok (.aload_n 0, 1) := by decide +kernel
theorem dX0_init_90 : decode cX0_init 90 = .ok (.getfield 15, 3) := by decide +kernel
theorem dX0_init_93 : decode cX0_init 93 = .ok (.iload_n 1, 1) := by decide +kernel
theorem dX0_init_94 : decode cX0_init 94 = .ok (.iconst 3, 1) := by decide +kernel
theorem dX0_init_95 : decode cX0_init 95 = .ok (.iastore, 1) := by decide +kernel
theorem dX0_init_96 : decode cX0_init 96 = .ok (.aload_n 0, 1) := by decide +kernel
theorem dX0_init_97 : decode cX0_init 97 = .ok (.getfield 18, 3) := by decide +kernel
theorem dX0_init_100 : decode cX0_init 100 = .ok (.iload_n 1, 1) := by decide +kernel
theorem dX0_init_101 : decode cX0_init 101 = .ok (.bipush 31, 2) := by decide +kernel
theorem dX0_init_103 : decode cX0_init 103 = .ok (.iastore, 1) := by decide +kernel
theorem dX0_init_104 : decode cX0_init 104 = .ok (.aload_n 0, 1) := by decide +kernel
theorem dX0_init_105 : decode cX0_init 105 = .ok (.getfield 21, 3) := by decide +kernel
theorem dX0_init_108 : decode cX0_init 108 = .ok (.iload_n 1, 1) := by decide +kernel
theorem dX0_init_109 : decode cX0_init 109 = .ok (.bipush (-6), 2) := by decide +kernel
theorem dX0_init_111 : decode cX0_init 111 = .ok (.iastore, 1) := by decide +kernel
theorem dX0_init_112 : decode cX0_init 112 = .ok (.iinc 1 1, 3) := by decide +kernel
theorem dX0_init_115 : decode cX0_init 115 = .ok (.goto (-31), 3) := by decide +kernel
theorem dX0_init_118 : decode cX0_init 118 = .ok (.iconst 0, 1) := by decide +kernel
theorem dX0_init_119 : decode cX0_init 119 = .ok (.istore_n 1, 1) := by decide +kernel
theorem dX0_init_120 : decode cX0_init 120 = .ok (.iload_n 1, 1) := by decide +kernel
theorem dX0_init_121 : decode cX0_init 121 = .ok (.bipush 6, 2) := by decide +kernel
theorem dX0_init_123 : decode cX0_init 123 = .ok (.if_icmp .ge 31, 3) := by decide +kernel
theorem dX0_init_126 : decode cX0_init 126 = .ok (.aload_n 0, 1) := by decide +kernel
theorem dX0_init_127 : decode cX0_init 127 = .ok (.getfield 24, 3) := by decide +kernel
theorem dX0_init_130 : decode cX0_init 130 = .ok (.iload_n 1, 1) := by decide +kernel
theorem dX0_init_131 : decode cX0_init 131 = .ok (.iconst 1, 1) := by decide +kernel
theorem dX0_init_132 : decode cX0_init 132 = .ok (.iastore, 1) := by decide +kernel
theorem dX0_init_133 : decode cX0_init 133 = .ok (.aload_n 0, 1) := by decide +kernel
theorem dX0_init_134 : decode cX0_init 134 = .ok (.getfield 30, 3) := by decide +kernel
theorem dX0_init_137 : decode cX0_init 137 = .ok (.iload_n 1, 1) := by decide +kernel
theorem dX0_init_138 : decode cX0_init 138 = .ok (.iconst 1, 1) := by decide +kernel
theorem dX0_init_139 : decode cX0_init 139 = .ok (.iastore, 1) := by decide +kernel
theorem dX0_init_140 : decode cX0_init 140 = .ok (.aload_n 0, 1) := by decide +kernel
theorem dX0_init_141 : decode cX0_init 141 = .ok (.getfield 33, 3) := by decide +kernel
theorem dX0_init_144 : decode cX0_init 144 = .ok (.iload_n 1, 1) := by decide +kernel
theorem dX0_init_145 : decode cX0_init 145 = .ok (.bipush 10, 2) := by decide +kernel
theorem dX0_init_147 : decode cX0_init 147 = .ok (.iastore, 1) := by decide +kernel
theorem dX0_init_148 : decode cX0_init 148 = .ok (.iinc 1 1, 3) := by decide +kernel
theorem dX0_init_151 : decode cX0_init 151 = .ok (.goto (-31), 3) := by decide +kernel
theorem dX0_init_154 : decode cX0_init 154 = .ok (.iconst 0, 1) := by decide +kernel
theorem dX0_init_155 : decode cX0_init 155 = .ok (.istore_n 1, 1) := by decide +kernel
theorem dX0_init_156 : decode cX0_init 156 = .ok (.iload_n 1, 1) := by decide +kernel
theorem dX0_init_157 : decode cX0_init 157 = .ok (.bipush 36, 2) := by decide +kernel
theorem dX0_init_159 : decode cX0_init 159 = .ok (.if_icmp .ge 17, 3) := by decide +kernel
theorem dX0_init_162 : decode cX0_init 162 = .ok (.aload_n 0, 1) := by decide +kernel
theorem dX0_init_163 : decode cX0_init 163 = .ok (.getfield 36, 3) := by decide +kernel
theorem dX0_init_166 : decode cX0_init 166 = .ok (.iload_n 1, 1) := by decide +kernel
theorem dX0_init_167 : decode cX0_init 167 = .ok (.bipush (-6), 2) := by decide +kernel
theorem dX0_init_169 : decode cX0_init 169 = .ok (.iastore, 1) := by decide +kernel
theorem dX0_init_170 : decode cX0_init 170 = .ok (.iinc 1 1, 3) := by decide +kernel
theorem dX0_init_173 : decode cX0_init 173 = .ok (.goto (-17), 3) := by decide +kernel
theorem dX0_init_176 : decode cX0_init 176 = .ok (.return_, 1) := by decide +kernel
theorem dX0_takeFrom_0 : decode cX0_takeFrom 0 = .ok (.aload_n 1, 1) := by decide +kernel
theorem dX0_takeFrom_1 : decode cX0_takeFrom 1 = .ok (.getfield 9, 3) := by decide +kernel
theorem dX0_takeFrom_4 : decode cX0_takeFrom 4 = .ok (.iconst 0, 1) := by decide +kernel
theorem dX0_takeFrom_5 : decode cX0_takeFrom 5 = .ok (.aload_n 0, 1) := by decide +kernel
theorem dX0_takeFrom_6 : decode cX0_takeFrom 6 = .ok (.getfield 9, 3) := by decide +kernel
theorem dX0_takeFrom_9 : decode cX0_takeFrom 9 = .ok (.iconst 0, 1) := by decide +kernel
theorem dX0_takeFrom_10 : decode cX0_takeFrom 10 = .ok (.iconst 5, 1) := by decide +kernel
theorem dX0_takeFrom_11 : decode cX0_takeFrom 11 = .ok (.invokestatic 46, 3) := by decide +kernel
theorem dX0_takeFrom_14 : decode cX0_takeFrom 14 = .ok (.aload_n 1, 1) := by decide +kernel
theorem dX0_takeFrom_15 : decode cX0_takeFrom 15 = .ok (.getfield 15, 3) := by decide +kernel
theorem dX0_takeFrom_18 : decode cX0_takeFrom 18 = .ok (.iconst 0, 1) := by decide +kernel
theorem dX0_takeFrom_19 : decode cX0_takeFrom 19 = .ok (.aload_n 0, 1) := by decide +kernel
theorem dX0_takeFrom_20 : decode cX0_takeFrom 20 = .ok (.getfield 15, 3) := by decide +kernel
theorem dX0_takeFrom_23 : decode cX0_takeFrom 23 = .ok (.iconst 0, 1) := by decide +kernel
theorem dX0_takeFrom_24 : decode cX0_takeFrom 24 = .ok (.iconst 5, 1) := by decide +kernel
theorem dX0_takeFrom_25 : decode cX0_takeFrom 25 = .ok (.invokestatic 46, 3) := by decide +kernel
theorem dX0_takeFrom_28 : decode cX0_takeFrom 28 = .ok (.aload_n 1, 1) := by decide +kernel
theorem dX0_takeFrom_29 : decode cX0_takeFrom 29 = .ok (.getfield 18, 3) := by decide +kernel
theorem dX0_takeFrom_32 : decode cX0_takeFrom 32 = .ok (.iconst 0, 1) := by decide +kernel
theorem dX0_takeFrom_33 : decode cX0_takeFrom 33 = .ok (.aload_n 0, 1) := by decide +kernel
theorem dX0_takeFrom_34 : decode cX0_takeFrom 34 = .ok (.getfield 18, 3) := by decide +kernel
theorem dX0_takeFrom_37 : decode cX0_takeFrom 37 = .ok (.iconst 0, 1) := by decide +kernel
theorem dX0_takeFrom_38 : decode cX0_takeFrom 38 = .ok (.iconst 5, 1) := by decide +kernel
theorem dX0_takeFrom_39 : decode cX0_takeFrom 39 = .ok (.invokestatic 46, 3) := by decide +kernel
theorem dX0_takeFrom_42 : decode cX0_takeFrom 42 = .ok (.aload_n 1, 1) := by decide +kernel
theorem dX0_takeFrom_43 : decode cX0_takeFrom 43 = .ok (.getfield 21, 3) := by decide +kernel
theorem dX0_takeFrom_46 : decode cX0_takeFrom 46 = .ok (.iconst 0, 1) := by decide +kernel
theorem dX0_takeFrom_47 : decode cX0_takeFrom 47 = .ok (.aload_n 0, 1) := by decide +kernel
theorem dX0_takeFrom_48 : decode cX0_takeFrom 48 = .ok (.getfield 21, 3) := by decide +kernel
theorem dX0_takeFrom_51 : decode cX0_takeFrom 51 = .ok (.iconst 0, 1) := by decide +kernel
theorem dX0_takeFrom_52 : decode cX0_takeFrom 52 = .ok (.iconst 5, 1) := by decide +kernel
theorem dX0_takeFrom_53 : decode cX0_takeFrom 53 = .ok (.invokestatic 46, 3) := by decide +kernel
theorem dX0_takeFrom_56 : decode cX0_takeFrom 56 = .ok (.aload_n 1, 1) := by decide +kernel
theorem dX0_takeFrom_57 : decode cX0_takeFrom 57 = .ok (.getfield 24, 3) := by decide +kernel
theorem dX0_takeFrom_60 : decode cX0_takeFrom 60 = .ok (.iconst 0, 1) := by decide +kernel
theorem dX0_takeFrom_61 : decode cX0_takeFrom 61 = .ok (.aload_n 0, 1) := by decide +kernel
theorem dX0_takeFrom_62 : decode cX0_takeFrom 62 = .ok (.getfield 24, 3) := by decide +kernel
theorem dX0_takeFrom_65 : decode cX0_takeFrom 65 = .ok (.iconst 0, 1) := by decide +kernel
theorem dX0_takeFrom_66 : decode cX0_takeFrom 66 = .ok (.bipush 6, 2) := by decide +kernel
theorem dX0_takeFrom_68 : decode cX0_takeFrom 68 = .ok (.invokestatic 46, 3) := by decide +kernel
theorem dX0_takeFrom_71 : decode cX0_takeFrom 71 = .ok (.aload_n 1, 1) := by decide +kernel
theorem dX0_takeFrom_72 : decode cX0_takeFrom 72 = .ok (.getfield 27, 3) := by decide +kernel
theorem dX0_takeFrom_75 : decode cX0_takeFrom 75 = .ok (.iconst 0, 1) := by decide +kernel
theorem dX0_takeFrom_76 : decode cX0_takeFrom 76 = .ok (.aload_n 0, 1) := by decide +kernel
theorem dX0_takeFrom_77 : decode cX0_takeFrom 77 = .ok (.getfield 27, 3) := by decide +kernel
theorem dX0_takeFrom_80 : decode cX0_takeFrom 80 = .ok (.iconst 0, 1) := by decide +kernel
theorem dX0_takeFrom_81 : decode cX0_takeFrom 81 = .ok (.bipush 6, 2) := by decide +kernel
theorem dX0_takeFrom_83 : decode cX0_takeFrom 83 = .ok (.invokestatic 46, 3) := by decide +kernel
theorem dX0_takeFrom_86 : decode cX0_takeFrom 86 = .ok (.aload_n 1, 1) := by decide +kernel
theorem dX0_takeFrom_87 : decode cX0_takeFrom 87 = .ok (.getfield 30, 3) := by decide +kernel
theorem dX0_takeFrom_90 : decode cX0_takeFrom 90 = .ok (.iconst 0, 1) := by decide +kernel
theorem dX0_takeFrom_91 : decode cX0_takeFrom 91 = .ok (.aload_n 0, 1) := by decide +kernel
theorem dX0_takeFrom_92 : decode cX0_takeFrom 92 = .ok (.getfield 30, 3) := by decide +kernel
theorem dX0_takeFrom_95 : decode cX0_takeFrom 95 = .ok (.iconst 0, 1) := by decide +kernel
theorem dX0_takeFrom_96 : decode cX0_takeFrom 96 = .ok (.bipush 6, 2) := by decide +kernel
theorem dX0_takeFrom_98 : decode cX0_takeFrom 98 = .ok (.invokestatic 46, 3) := by decide +kernel
theorem dX0_takeFrom_101 : decode cX0_takeFrom 101 = .ok (.aload_n 1, 1) := by decide +kernel
theorem dX0_takeFrom_102 : decode cX0_takeFrom 102 = .ok (.getfield 33, 3) := by decide +kernel
theorem dX0_takeFrom_105 : decode cX0_takeFrom 105 = .ok (.iconst 0, 1) := by decide +kernel
theorem dX0_takeFrom_106 : decode cX0_takeFrom 106 = .ok (.aload_n 0, 1) := by decide +kernel
theorem dX0_takeFrom_107 : decode cX0_takeFrom 107 = .ok (.getfield 33, 3) := by decide +kernel
theorem dX0_takeFrom_110 : decode cX0_takeFrom 110 = .ok (.iconst 0, 1) := by decide +kernel
theorem dX0_takeFrom_111 : decode cX0_takeFrom 111 = .ok (.bipush 6, 2) := by decide +kernel
theorem dX0_takeFrom_113 : decode cX0_takeFrom 113 = .ok (.invokestatic 46, 3) := by decide +kernel
theorem dX0_takeFrom_116 : decode cX0_takeFrom 116 = .ok (.aload_n 1, 1) := by decide +kernel
theorem dX0_takeFrom_117 : decode cX0_takeFrom 117 = .ok (.getfield 36, 3) := by decide +kernel
theorem dX0_takeFrom_120 : decode cX0_takeFrom 120 = .ok (.iconst 0, 1) := by decide +kernel
theorem dX0_takeFrom_121 : decode cX0_takeFrom 121 = .ok (.aload_n 0, 1) := by decide +kernel
theorem dX0_takeFrom_122 : decode cX0_takeFrom 122 = .ok (.getfield 36, 3) := by decide +kernel
theorem dX0_takeFrom_125 : decode cX0_takeFrom 125 = .ok (.iconst 0, 1) := by decide +kernel
theorem dX0_takeFrom_126 : decode cX0_takeFrom 126 = .ok (.bipush 36, 2) := by decide +kernel
theorem dX0_takeFrom_128 : decode cX0_takeFrom 128 = .ok (.invokestatic 46, 3) := by decide +kernel
theorem dX0_takeFrom_131 : decode cX0_takeFrom 131 = .ok (.aload_n 0, 1) := by decide +kernel
theorem dX0_takeFrom_132 : decode cX0_takeFrom 132 = .ok (.aload_n 1, 1) := by decide +kernel
theorem dX0_takeFrom_133 : decode cX0_takeFrom 133 = .ok (.getfield 39, 3) := by decide +kernel
theorem dX0_takeFrom_136 : decode cX0_takeFrom 136 = .ok (.putfield 39, 3) := by decide +kernel
theorem dX0_takeFrom_139 : decode cX0_takeFrom 139 = .ok (.aload_n 0, 1) := by decide +kernel
theorem dX0_takeFrom_140 : decode cX0_takeFrom 140 = .ok (.aload_n 1, 1) := by decide +kernel
theorem dX0_takeFrom_141 : decode cX0_takeFrom 141 = .ok (.getfield 43, 3) := by decide +kernel
theorem dX0_takeFrom_144 : decode cX0_takeFrom 144 = .ok (.putfield 43, 3) := by decide +kernel
theorem dX0_takeFrom_147 : decode cX0_takeFrom 147 = .ok (.return_, 1) := by decide +kernel
theorem dX0_choicesOf_0 : decode cX0_choicesOf 0 = .ok (.aload_n 0, 1) := by decide +kernel
theorem dX0_choicesOf_1 : decode cX0_choicesOf 1 = .ok (.getfield 24, 3) := by decide +kernel
theorem dX0_choicesOf_4 : decode cX0_choicesOf 4 = .ok (.iload_n 1, 1) := by decide +kernel
theorem dX0_choicesOf_5 : decode cX0_choicesOf 5 = .ok (.iaload, 1) := by decide +kernel
theorem dX0_choicesOf_6 : decode cX0_choicesOf 6 = .ok (.istore_n 2, 1) := by decide +kernel
theorem dX0_choicesOf_7 : decode cX0_choicesOf 7 = .ok (.aload_n 0, 1) := by decide +kernel
theorem dX0_choicesOf_8 : decode cX0_choicesOf 8 = .ok (.getfield 27, 3) := by decide +kernel
theorem dX0_choicesOf_11 : decode cX0_choicesOf 11 = .ok (.iload_n 1, 1) := by decide +kernel
theorem dX0_choicesOf_12 : decode cX0_choicesOf 12 = .ok (.iaload, 1) := by decide +kernel
theorem dX0_choicesOf_13 : decode cX0_choicesOf 13 = .ok (.ifCond .ne 5, 3) := by decide +kernel
theorem dX0_choicesOf_16 : decode cX0_choicesOf 16 = .ok (.iload_n 2, 1) := by decide +kernel
theorem dX0_choicesOf_17 : decode cX0_choicesOf 17 = .ok (.ireturn, 1) := by decide +kernel
theorem dX0_choicesOf_18 : decode cX0_choicesOf 18 = .ok (.iconst 0, 1) := by decide +kernel
theorem dX0_choicesOf_19 : decode cX0_choicesOf 19 = .ok (.istore_n 3, 1) := by decide +kernel
theorem dX0_choicesOf_20 : decode cX0_choicesOf 20 = .ok (.iload_n 3, 1) := by decide +kernel
theorem dX0_choicesOf_21 : decode cX0_choicesOf 21 = .ok (.iconst 5, 1) := by decide +kernel
theorem dX0_choicesOf_22 : decode cX0_choicesOf 22 = .ok (.if_icmp .ge 57, 3) := by decide +kernel
theorem dX0_choicesOf_25 : decode cX0_choicesOf 25 = .ok (.iconst 0, 1) := by decide +kernel
theorem dX0_choicesOf_26 : decode cX0_choicesOf 26 = .ok (.istore 4, 2) := by decide +kernel
theorem dX0_choicesOf_28 : decode cX0_choicesOf 28 = .ok (.iload 4, 2) := by decide +kernel
theorem dX0_choicesOf_30 : decode cX0_choicesOf 30 = .ok (.iconst 5, 1) := by decide +kernel
theorem dX0_choicesOf_31 : decode cX0_choicesOf 31 = .ok (.if_icmp .ge 42, 3) := by decide +kernel
theorem dX0_choicesOf_34 : decode cX0_choicesOf 34 = .ok (.iload_n 2, 1) := by decide +kernel
theorem dX0_choicesOf_35 : decode cX0_choicesOf 35 = .ok (.iload 4, 2) := by decide +kernel
theorem dX0_choicesOf_37 : decode cX0_choicesOf 37 = .ok (.invokestatic 52, 3) := by decide +kernel
theorem dX0_choicesOf_40 : decode cX0_choicesOf 40 = .ok (.ifCond .eq 27, 3) := by decide +kernel
theorem dX0_choicesOf_43 : decode cX0_choicesOf 43 = .ok (.aload_n 0, 1) := by decide +kernel
theorem dX0_choicesOf_44 : decode cX0_choicesOf 44 = .ok (.getfield 21, 3) := by decide +kernel
theorem dX0_choicesOf_47 : decode cX0_choicesOf 47 = .ok (.iload 4, 2) := by decide +kernel
theorem dX0_choicesOf_49 : decode cX0_choicesOf 49 = .ok (.iaload, 1) := by decide +kernel
theorem dX0_choicesOf_50 : decode cX0_choicesOf 50 = .ok (.bipush (-6), 2) := by decide +kernel
theorem dX0_choicesOf_52 : decode cX0_choicesOf 52 = .ok (.if_icmp .eq 15, 3) := by decide +kernel
theorem dX0_choicesOf_55 : decode cX0_choicesOf 55 = .ok (.iload_n 2, 1) := by decide +kernel
theorem dX0_choicesOf_56 : decode cX0_choicesOf 56 = .ok (.iconst 1, 1) := by decide +kernel
theorem dX0_choicesOf_57 : decode cX0_choicesOf 57 = .ok (.aload_n 0, 1) := by decide +kernel
theorem dX0_choicesOf_58 : decode cX0_choicesOf 58 = .ok (.getfield 21, 3) := by decide +kernel
theorem dX0_choicesOf_61 : decode cX0_choicesOf 61 = .ok (.iload 4, 2) := by decide +kernel
theorem dX0_choicesOf_63 : decode cX0_choicesOf 63 = .ok (.iaload, 1) := by decide +kernel
theorem dX0_choicesOf_64 : decode cX0_choicesOf 64 = .ok (.ishl, 1) := by decide +kernel
theorem dX0_choicesOf_65 : decode cX0_choicesOf 65 = .ok (.ior, 1) := by decide +kernel
theorem dX0_choicesOf_66 : decode cX0_choicesOf 66 = .ok (.istore_n 2, 1) := by decide +kernel
theorem dX0_choicesOf_67 : decode cX0_choicesOf 67 = .ok (.iinc 4 1, 3) := by decide +kernel
theorem dX0_choicesOf_70 : decode cX0_choicesOf 70 = .ok (.goto (-42), 3) := by decide +kernel
theorem dX0_choicesOf_73 : decode cX0_choicesOf 73 = .ok (.iinc 3 1, 3) := by decide +kernel
theorem dX0_choicesOf_76 : decode cX0_choicesOf 76 = .ok (.goto (-56), 3) := by decide +kernel
theorem dX0_choicesOf_79 : decode cX0_choicesOf 79 = .ok (.iload_n 2, 1) := by decide +kernel
theorem dX0_choicesOf_80 : decode cX0_choicesOf 80 = .ok (.ireturn, 1) := by decide +kernel
theorem dX1_init_0 : decode cX1_init 0 = .ok (.aload_n 0, 1) := by decide +kernel
theorem dX1_init_1 : decode cX1_init 1 = .ok (.invokespecial 3, 3) := by decide +kernel
theorem dX1_init_4 : decode cX1_init 4 = .ok (.aload_n 0, 1) := by decide +kernel
theorem dX1_init_5 : decode cX1_init 5 = .ok (.bipush 6, 2) := by decide +kernel
theorem dX1_init_7 : decode cX1_init 7 = .ok (.newarray .int, 2) := by decide +kernel
theorem dX1_init_9 : decode cX1_init 9 = .ok (.putfield 9, 3) := by decide +kernel
theorem dX1_init_12 : decode cX1_init 12 = .ok (.aload_n 0, 1) := by decide +kernel
theorem dX1_init_13 : decode cX1_init 13 = .ok (.iconst 0, 1) := by decide +kernel
theorem dX1_init_14 : decode cX1_init 14 = .ok (.putfield 15, 3) := by decide +kernel
theorem dX1_init_17 : decode cX1_init 17 = .ok (.aload_n 0, 1) := by decide +kernel
theorem dX1_init_18 : decode cX1_init 18 = .ok (.iconst 0, 1) := by decide +kernel
theorem dX1_init_19 : decode cX1_init 19 = .ok (.putfield 19, 3) := by decide +kernel
theorem dX1_init_22 : decode cX1_init 22 = .ok (.return_, 1) := by decide +kernel
theorem dX2_init_0 : decode cX2_init 0 = .ok (.aload_n 0, 1) := by decide +kernel
theorem dX2_init_1 : decode cX2_init 1 = .ok (.invokespecial 3, 3) := by decide +kernel
theorem dX2_init_4 : decode cX2_init 4 = .ok (.aload_n 0, 1) := by decide +kernel
theorem dX2_init_5 : decode cX2_init 5 = .ok (.bipush 20, 2) := by decide +kernel
theorem dX2_init_7 : decode cX2_init 7 = .ok (.newarray .int, 2) := by decide +kernel
theorem dX2_init_9 : decode cX2_init 9 = .ok (.putfield 11, 3) := by decide +kernel
theorem dX2_init_12 : decode cX2_init 12 = .ok (.aload_n 0, 1) := by decide +kernel
theorem dX2_init_13 : decode cX2_init 13 = .ok (.iconst 0, 1) := by decide +kernel
theorem dX2_init_14 : decode cX2_init 14 = .ok (.putfield 15, 3) := by decide +kernel
theorem dX2_init_17 : decode cX2_init 17 = .ok (.aload_n 0, 1) := by decide +kernel
theorem dX2_init_18 : decode cX2_init 18 = .ok (.iconst 0, 1) := by decide +kernel
theorem dX2_init_19 : decode cX2_init 19 = .ok (.putfield 19, 3) := by decide +kernel
theorem dX2_init_22 : decode cX2_init 22 = .ok (.aload_n 0, 1) := by decide +kernel
theorem dX2_init_23 : decode cX2_init 23 = .ok (.iconst 0, 1) := by decide +kernel
theorem dX2_init_24 : decode cX2_init 24 = .ok (.putfield 22, 3) := by decide +kernel
theorem dX2_init_27 : decode cX2_init 27 = .ok (.aload_n 0, 1) := by decide +kernel
theorem dX2_init_28 : decode cX2_init 28 = .ok (.iconst 0, 1) := by decide +kernel
theorem dX2_init_29 : decode cX2_init 29 = .ok (.putfield 25, 3) := by decide +kernel
theorem dX2_init_32 : decode cX2_init 32 = .ok (.return_, 1) := by decide +kernel
theorem dX2_put_0 : decode cX2_put 0 = .ok (.aload_n 0, 1) := by decide +kernel
theorem dX2_put_1 : decode cX2_put 1 = .ok (.getfield 15, 3) := by decide +kernel
theorem dX2_put_4 : decode cX2_put 4 = .ok (.bipush 20, 2) := by decide +kernel
theorem dX2_put_6 : decode cX2_put 6 = .ok (.if_icmp .ge 23, 3) := by decide +kernel
theorem dX2_put_9 : decode cX2_put 9 = .ok (.aload_n 0, 1) := by decide +kernel
theorem dX2_put_10 : decode cX2_put 10 = .ok (.getfield 11, 3) := by decide +kernel
theorem dX2_put_13 : decode cX2_put 13 = .ok (.aload_n 0, 1) := by decide +kernel
theorem dX2_put_14 : decode cX2_put 14 = .ok (.getfield 15, 3) := by decide +kernel
theorem dX2_put_17 : decode cX2_put 17 = .ok (.iload_n 1, 1) := by decide +kernel
theorem dX2_put_18 : decode cX2_put 18 = .ok (.iastore, 1) := by decide +kernel
theorem dX2_put_19 : decode cX2_put 19 = .ok (.aload_n 0, 1) := by decide +kernel
theorem dX2_put_20 : decode cX2_put 20 = .ok (.dup, 1) := by decide +kernel
theorem dX2_put_21 : decode cX2_put 21 = .ok (.getfield 15, 3) := by decide +kernel
theorem dX2_put_24 : decode cX2_put 24 = .ok (.iconst 1, 1) := by decide +kernel
theorem dX2_put_25 : decode cX2_put 25 = .ok (.iadd, 1) := by decide +kernel
theorem dX2_put_26 : decode cX2_put 26 = .ok (.putfield 15, 3) := by decide +kernel
theorem dX2_put_29 : decode cX2_put 29 = .ok (.return_, 1) := by decide +kernel
theorem dX2_read_0 : decode cX2_read 0 = .ok (.aload_n 0, 1) := by decide +kernel
theorem dX2_read_1 : decode cX2_read 1 = .ok (.invokevirtual 28, 3) := by decide +kernel
theorem dX2_read_4 : decode cX2_read 4 = .ok (.istore_n 1, 1) := by decide +kernel
theorem dX2_read_5 : decode cX2_read 5 = .ok (.iload_n 1, 1) := by decide +kernel
theorem dX2_read_6 : decode cX2_read 6 = .ok (.aload_n 0, 1) := by decide +kernel
theorem dX2_read_7 : decode cX2_read 7 = .ok (.getfield 15, 3) := by decide +kernel
theorem dX2_read_10 : decode cX2_read 10 = .ok (.if_icmp .ge 19, 3) := by decide +kernel
theorem dX2_read_13 : decode cX2_read 13 = .ok (.aload_n 0, 1) := by decide +kernel
theorem dX2_read_14 : decode cX2_read 14 = .ok (.getfield 11, 3) := by decide +kernel
theorem dX2_read_17 : decode cX2_read 17 = .ok (.iload_n 1, 1) := by decide +kernel
theorem dX2_read_18 : decode cX2_read 18 = .ok (.iaload, 1) := by decide +kernel
theorem dX2_read_19 : decode cX2_read 19 = .ok (.bipush 48, 2) := by decide +kernel
theorem dX2_read_21 : decode cX2_read 21 = .ok (.bipush 51, 2) := by decide +kernel
theorem dX2_read_23 : decode cX2_read 23 = .ok (.invokestatic 32, 3) := by decide +kernel
theorem dX2_read_26 : decode cX2_read 26 = .ok (.ifCond .ne 5, 3) := by decide +kernel
theorem dX2_read_29 : decode cX2_read 29 = .ok (.iload_n 1, 1) := by decide +kernel
theorem dX2_read_30 : decode cX2_read 30 = .ok (.ireturn, 1) := by decide +kernel
theorem dX2_read_31 : decode cX2_read 31 = .ok (.aload_n 0, 1) := by decide +kernel
theorem dX2_read_32 : decode cX2_read 32 = .ok (.aload_n 0, 1) := by decide +kernel
theorem dX2_read_33 : decode cX2_read 33 = .ok (.getfield 11, 3) := by decide +kernel
theorem dX2_read_36 : decode cX2_read 36 = .ok (.iload_n 1, 1) := by decide +kernel
theorem dX2_read_37 : decode cX2_read 37 = .ok (.iaload, 1) := by decide +kernel
theorem dX2_read_38 : decode cX2_read 38 = .ok (.bipush 48, 2) := by decide +kernel
theorem dX2_read_40 : decode cX2_read 40 = .ok (.isub, 1) := by decide +kernel
theorem dX2_read_41 : decode cX2_read 41 = .ok (.putfield 22, 3) := by decide +kernel
theorem dX2_read_44 : decode cX2_read 44 = .ok (.iinc 1 1, 3) := by decide +kernel
theorem dX2_read_47 : decode cX2_read 47 = .ok (.iload_n 1, 1) := by decide +kernel
theorem dX2_read_48 : decode cX2_read 48 = .ok (.aload_n 0, 1) := by decide +kernel
theorem dX2_read_49 : decode cX2_read 49 = .ok (.getfield 15, 3) := by decide +kernel
theorem dX2_read_52 : decode cX2_read 52 = .ok (.if_icmp .lt 12, 3) := by decide +kernel
theorem dX2_read_55 : decode cX2_read 55 = .ok (.aload_n 0, 1) := by decide +kernel
theorem dX2_read_56 : decode cX2_read 56 = .ok (.bipush 31, 2) := by decide +kernel
theorem dX2_read_58 : decode cX2_read 58 = .ok (.putfield 25, 3) := by decide +kernel
theorem dX2_read_61 : decode cX2_read 61 = .ok (.bipush (-6), 2) := by decide +kernel
theorem dX2_read_63 : decode cX2_read 63 = .ok (.ireturn, 1) := by decide +kernel
theorem dX2_read_64 : decode cX2_read 64 = .ok (.aload_n 0, 1) := by decide +kernel
theorem dX2_read_65 : decode cX2_read 65 = .ok (.getfield 11, 3) := by decide +kernel
theorem dX2_read_68 : decode cX2_read 68 = .ok (.iload_n 1, 1) := by decide +kernel
theorem dX2_read_69 : decode cX2_read 69 = .ok (.iaload, 1) := by decide +kernel
theorem dX2_read_70 : decode cX2_read 70 = .ok (.bipush 58, 2) := by decide +kernel
theorem dX2_read_72 : decode cX2_read 72 = .ok (.if_icmp .ne 13, 3) := by decide +kernel
theorem dX2_read_75 : decode cX2_read 75 = .ok (.aload_n 0, 1) := by decide +kernel
theorem dX2_read_76 : decode cX2_read 76 = .ok (.iload_n 1, 1) := by decide +kernel
theorem dX2_read_77 : decode cX2_read 77 = .ok (.iconst 1, 1) := by decide +kernel
theorem dX2_read_78 : decode cX2_read 78 = .ok (.iadd, 1) := by decide +kernel
theorem dX2_read_79 : decode cX2_read 79 = .ok (.invokevirtual 36, 3) := by decide +kernel
theorem dX2_read_82 : decode cX2_read 82 = .ok (.goto 4, 3) := by decide +kernel
theorem dX2_read_85 : decode cX2_read 85 = .ok (.iload_n 1, 1) := by decide +kernel
theorem dX2_read_86 : decode cX2_read 86 = .ok (.ireturn, 1) := by decide +kernel
theorem dX2_readAsks_0 : decode cX2_readAsks 0 = .ok (.aload_n 0, 1) := by decide +kernel
theorem dX2_readAsks_1 : decode cX2_readAsks 1 = .ok (.iconst 0, 1) := by decide +kernel
theorem dX2_readAsks_2 : decode cX2_readAsks 2 = .ok (.putfield 19, 3) := by decide +kernel
theorem dX2_readAsks_5 : decode cX2_readAsks 5 = .ok (.iconst 0, 1) := by decide +kernel
theorem dX2_readAsks_6 : decode cX2_readAsks 6 = .ok (.istore_n 1, 1) := by decide +kernel
theorem dX2_readAsks_7 : decode cX2_readAsks 7 = .ok (.iload_n 1, 1) := by decide +kernel
theorem dX2_readAsks_8 : decode cX2_readAsks 8 = .ok (.aload_n 0, 1) := by decide +kernel
theorem dX2_readAsks_9 : decode cX2_readAsks 9 = .ok (.getfield 15, 3) := by decide +kernel
theorem dX2_readAsks_12 : decode cX2_readAsks 12 = .ok (.if_icmp .ge 44, 3) := by decide +kernel
theorem dX2_readAsks_15 : decode cX2_readAsks 15 = .ok (.aload_n 0, 1) := by decide +kernel
theorem dX2_readAsks_16 : decode cX2_readAsks 16 = .ok (.getfield 11, 3) := by decide +kernel
theorem dX2_readAsks_19 : decode cX2_readAsks 19 = .ok (.iload_n 1, 1) := by decide +kernel
theorem dX2_readAsks_20 : decode cX2_readAsks 20 = .ok (.iaload, 1) := by decide +kernel
theorem dX2_readAsks_21 : decode cX2_readAsks 21 = .ok (.invokestatic 40, 3) := by decide +kernel
theorem dX2_readAsks_24 : decode cX2_readAsks 24 = .ok (.istore_n 2, 1) := by decide +kernel
theorem dX2_readAsks_25 : decode cX2_readAsks 25 = .ok (.iload_n 2, 1) := by decide +kernel
theorem dX2_readAsks_26 : decode cX2_readAsks 26 = .ok (.ifCond .eq 12, 3) := by decide +kernel
theorem dX2_readAsks_29 : decode cX2_readAsks 29 = .ok (.aload_n 0, 1) := by decide +kernel
theorem dX2_readAsks_30 : decode cX2_readAsks 30 = .ok (.getfield 19, 3) := by decide +kernel
theorem dX2_readAsks_33 : decode cX2_readAsks 33 = .ok (.iload_n 2, 1) := by decide +kernel
theorem dX2_readAsks_34 : decode cX2_readAsks 34 = .ok (.iand, 1) := by decide +kernel
theorem dX2_readAsks_35 : decode cX2_readAsks 35 = .ok (.ifCond .eq 5, 3) := by decide +kernel
theorem dX2_readAsks_38 : decode cX2_readAsks 38 = .ok (.iload_n 1, 1) := by decide +kernel
theorem dX2_readAsks_39 : decode cX2_readAsks 39 = .ok (.ireturn, 1) := by decide +kernel
theorem dX2_readAsks_40 : decode cX2_readAsks 40 = .ok (.aload_n 0, 1) := by decide +kernel
theorem dX2_readAsks_41 : decode cX2_readAsks 41 = .ok (.dup, 1) := by decide +kernel
theorem dX2_readAsks_42 : decode cX2_readAsks 42 = .ok (.getfield 19, 3) := by decide +kernel
theorem dX2_readAsks_45 : decode cX2_readAsks 45 = .ok (.iload_n 2, 1) := by decide +kernel
theorem dX2_readAsks_46 : decode cX2_readAsks 46 = .ok (.ior, 1) := by decide +kernel
theorem dX2_readAsks_47 : decode cX2_readAsks 47 = .ok (.putfield 19, 3) := by decide +kernel
theorem dX2_readAsks_50 : decode cX2_readAsks 50 = .ok (.iinc 1 1, 3) := by decide +kernel
theorem dX2_readAsks_53 : decode cX2_readAsks 53 = .ok (.goto (-46), 3) := by decide +kernel
theorem dX2_readAsks_56 : decode cX2_readAsks 56 = .ok (.aload_n 0, 1) := by decide +kernel
theorem dX2_readAsks_57 : decode cX2_readAsks 57 = .ok (.getfield 15, 3) := by decide +kernel
theorem dX2_readAsks_60 : decode cX2_readAsks 60 = .ok (.ireturn, 1) := by decide +kernel
theorem dX2_readGo_0 : decode cX2_readGo 0 = .ok (.aload_n 0, 1) := by decide +kernel
theorem dX2_readGo_1 : decode cX2_readGo 1 = .ok (.iconst 0, 1) := by decide +kernel
theorem dX2_readGo_2 : decode cX2_readGo 2 = .ok (.putfield 25, 3) := by decide +kernel
theorem dX2_readGo_5 : decode cX2_readGo 5 = .ok (.iload_n 1, 1) := by decide +kernel
theorem dX2_readGo_6 : decode cX2_readGo 6 = .ok (.istore_n 2, 1) := by decide +kernel
theorem dX2_readGo_7 : decode cX2_readGo 7 = .ok (.iload_n 2, 1) := by decide +kernel
theorem dX2_readGo_8 : decode cX2_readGo 8 = .ok (.aload_n 0, 1) := by decide +kernel
theorem dX2_readGo_9 : decode cX2_readGo 9 = .ok (.getfield 15, 3) := by decide +kernel
theorem dX2_readGo_12 : decode cX2_readGo 12 = .ok (.if_icmp .ge 49, 3) := by decide +kernel
theorem dX2_readGo_15 : decode cX2_readGo 15 = .ok (.aload_n 0, 1) := by decide +kernel
theorem dX2_readGo_16 : decode cX2_readGo 16 = .ok (.getfield 11, 3) := by decide +kernel
theorem dX2_readGo_19 : decode cX2_readGo 19 = .ok (.iload_n 2, 1) := by decide +kernel
theorem dX2_readGo_20 : decode cX2_readGo 20 = .ok (.iaload, 1) := by decide +kernel
theorem dX2_readGo_21 : decode cX2_readGo 21 = .ok (.bipush 48, 2) := by decide +kernel
theorem dX2_readGo_23 : decode cX2_readGo 23 = .ok (.isub, 1) := by decide +kernel
theorem dX2_readGo_24 : decode cX2_readGo 24 = .ok (.istore_n 3, 1) := by decide +kernel
theorem dX2_readGo_25 : decode cX2_readGo 25 = .ok (.iload_n 3, 1) := by decide +kernel
theorem dX2_readGo_26 : decode cX2_readGo 26 = .ok (.invokestatic 43, 3) := by decide +kernel
theorem dX2_readGo_29 : decode cX2_readGo 29 = .ok (.ifCond .eq 12, 3) := by decide +kernel
theorem dX2_readGo_32 : decode cX2_readGo 32 = .ok (.aload_n 0, 1) := by decide +kernel
theorem dX2_readGo_33 : decode cX2_readGo 33 = .ok (.getfield 25, 3) := by decide +kernel
theorem dX2_readGo_36 : decode cX2_readGo 36 = .ok (.iload_n 3, 1) := by decide +kernel
theorem dX2_readGo_37 : decode cX2_readGo 37 = .ok (.ishr, 1) := by decide +kernel
theorem dX2_readGo_38 : decode cX2_readGo 38 = .ok (.ifCond .eq 5, 3) := by decide +kernel
theorem dX2_readGo_41 : decode cX2_readGo 41 = .ok (.iload_n 2, 1) := by decide +kernel
theorem dX2_readGo_42 : decode cX2_readGo 42 = .ok (.ireturn, 1) := by decide +kernel
theorem dX2_readGo_43 : decode cX2_readGo 43 = .ok (.aload_n 0, 1) := by decide +kernel
theorem dX2_readGo_44 : decode cX2_readGo 44 = .ok (.dup, 1) := by decide +kernel
theorem dX2_readGo_45 : decode cX2_readGo 45 = .ok (.getfield 25, 3) := by decide +kernel
theorem dX2_readGo_48 : decode cX2_readGo 48 = .ok (.iconst 1, 1) := by decide +kernel
theorem dX2_readGo_49 : decode cX2_readGo 49 = .ok (.iload_n 3, 1) := by decide +kernel
theorem dX2_readGo_50 : decode cX2_readGo 50 = .ok (.ishl, 1) := by decide +kernel
theorem dX2_readGo_51 : decode cX2_readGo 51 = .ok (.ior, 1) := by decide +kernel
theorem dX2_readGo_52 : decode cX2_readGo 52 = .ok (.putfield 25, 3) := by decide +kernel
theorem dX2_readGo_55 : decode cX2_readGo 55 = .ok (.iinc 2 1, 3) := by decide +kernel
theorem dX2_readGo_58 : decode cX2_readGo 58 = .ok (.goto (-51), 3) := by decide +kernel
theorem dX2_readGo_61 : decode cX2_readGo 61 = .ok (.aload_n 0, 1) := by decide +kernel
theorem dX2_readGo_62 : decode cX2_readGo 62 = .ok (.getfield 25, 3) := by decide +kernel
theorem dX2_readGo_65 : decode cX2_readGo 65 = .ok (.ifCond .ne 10, 3) := by decide +kernel
theorem dX2_readGo_68 : decode cX2_readGo 68 = .ok (.aload_n 0, 1) := by decide +kernel
theorem dX2_readGo_69 : decode cX2_readGo 69 = .ok (.getfield 15, 3) := by decide +kernel
theorem dX2_readGo_72 : decode cX2_readGo 72 = .ok (.goto 5, 3) := by decide +kernel
theorem dX2_readGo_75 : decode cX2_readGo 75 = .ok (.bipush (-6), 2) := by decide +kernel
theorem dX2_readGo_77 : decode cX2_readGo 77 = .ok (.ireturn, 1) := by decide +kernel
theorem dX2_askOf_0 : decode cX2_askOf 0 = .ok (.iload_n 0, 1) := by decide +kernel
theorem dX2_askOf_1 : decode cX2_askOf 1 = .ok (.lookupswitch 63 #[(97, 57), (99, 60), (110, 51), (112, 55), (115, 53)], 51) := by decide +kernel
theorem dX2_askOf_52 : decode cX2_askOf 52 = .ok (.iconst 1, 1) := by decide +kernel
theorem dX2_askOf_53 : decode cX2_askOf 53 = .ok (.ireturn, 1) := by decide +kernel
theorem dX2_askOf_54 : decode cX2_askOf 54 = .ok (.iconst 2, 1) := by decide +kernel
theorem dX2_askOf_55 : decode cX2_askOf 55 = .ok (.ireturn, 1) := by decide +kernel
theorem dX2_askOf_56 : decode cX2_askOf 56 = .ok (.iconst 4, 1) := by decide +kernel
theorem dX2_askOf_57 : decode cX2_askOf 57 = .ok (.ireturn, 1) := by decide +kernel
theorem dX2_askOf_58 : decode cX2_askOf 58 = .ok (.bipush 8, 2) := by decide +kernel
theorem dX2_askOf_60 : decode cX2_askOf 60 = .ok (.ireturn, 1) := by decide +kernel
theorem dX2_askOf_61 : decode cX2_askOf 61 = .ok (.bipush 16, 2) := by decide +kernel
theorem dX2_askOf_63 : decode cX2_askOf 63 = .ok (.ireturn, 1) := by decide +kernel
theorem dX2_askOf_64 : decode cX2_askOf 64 = .ok (.iconst 0, 1) := by decide +kernel
theorem dX2_askOf_65 : decode cX2_askOf 65 = .ok (.ireturn, 1) := by decide +kernel
theorem dX3_init_0 : decode cX3_init 0 = .ok (.aload_n 0, 1) := by decide +kernel
theorem dX3_init_1 : decode cX3_init 1 = .ok (.invokespecial 3, 3) := by decide +kernel
theorem dX3_init_4 : decode cX3_init 4 = .ok (.aload_n 0, 1) := by decide +kernel
theorem dX3_init_5 : decode cX3_init 5 = .ok (.new 9, 3) := by decide +kernel
theorem dX3_init_8 : decode cX3_init 8 = .ok (.dup, 1) := by decide +kernel
theorem dX3_init_9 : decode cX3_init 9 = .ok (.invokespecial 11, 3) := by decide +kernel
theorem dX3_init_12 : decode cX3_init 12 = .ok (.putfield 12, 3) := by decide +kernel
theorem dX3_init_15 : decode cX3_init 15 = .ok (.aload_n 0, 1) := by decide +kernel
theorem dX3_init_16 : decode cX3_init 16 = .ok (.bipush 6, 2) := by decide +kernel
theorem dX3_init_18 : decode cX3_init 18 = .ok (.newarray .int, 2) := by decide +kernel
theorem dX3_init_20 : decode cX3_init 20 = .ok (.putfield 18, 3) := by decide +kernel
theorem dX3_init_23 : decode cX3_init 23 = .ok (.aload_n 0, 1) := by decide +kernel
theorem dX3_init_24 : decode cX3_init 24 = .ok (.bipush 6, 2) := by decide +kernel
theorem dX3_init_26 : decode cX3_init 26 = .ok (.newarray .int, 2) := by decide +kernel
theorem dX3_init_28 : decode cX3_init 28 = .ok (.putfield 22, 3) := by decide +kernel
theorem dX3_init_31 : decode cX3_init 31 = .ok (.aload_n 0, 1) := by decide +kernel
theorem dX3_init_32 : decode cX3_init 32 = .ok (.bipush 6, 2) := by decide +kernel
theorem dX3_init_34 : decode cX3_init 34 = .ok (.newarray .int, 2) := by decide +kernel
theorem dX3_init_36 : decode cX3_init 36 = .ok (.putfield 25, 3) := by decide +kernel
theorem dX3_init_39 : decode cX3_init 39 = .ok (.aload_n 0, 1) := by decide +kernel
theorem dX3_init_40 : decode cX3_init 40 = .ok (.iconst 0, 1) := by decide +kernel
theorem dX3_init_41 : decode cX3_init 41 = .ok (.putfield 28, 3) := by decide +kernel
theorem dX3_init_44 : decode cX3_init 44 = .ok (.aload_n 0, 1) := by decide +kernel
theorem dX3_init_45 : decode cX3_init 45 = .ok (.iconst 0, 1) := by decide +kernel
theorem dX3_init_46 : decode cX3_init 46 = .ok (.putfield 32, 3) := by decide +kernel
theorem dX3_init_49 : decode cX3_init 49 = .ok (.aload_n 0, 1) := by decide +kernel
theorem dX3_init_50 : decode cX3_init 50 = .ok (.bipush 36, 2) := by decide +kernel
theorem dX3_init_52 : decode cX3_init 52 = .ok (.newarray .int, 2) := by decide +kernel
theorem dX3_init_54 : decode cX3_init 54 = .ok (.putfield 35, 3) := by decide +kernel
theorem dX3_init_57 : decode cX3_init 57 = .ok (.aload_n 0, 1) := by decide +kernel
theorem dX3_init_58 : decode cX3_init 58 = .ok (.bipush 30, 2) := by decide +kernel
theorem dX3_init_60 : decode cX3_init 60 = .ok (.newarray .int, 2) := by decide +kernel
theorem dX3_init_62 : decode cX3_init 62 = .ok (.putfield 38, 3) := by decide +kernel
theorem dX3_init_65 : decode cX3_init 65 = .ok (.aload_n 0, 1) := by decide +kernel
theorem dX3_init_66 : decode cX3_init 66 = .ok (.bipush 30, 2) := by decide +kernel
theorem dX3_init_68 : decode cX3_init 68 = .ok (.newarray .int, 2) := by decide +kernel
theorem dX3_init_70 : decode cX3_init 70 = .ok (.putfield 41, 3) := by decide +kernel
theorem dX3_init_73 : decode cX3_init 73 = .ok (.aload_n 0, 1) := by decide +kernel
theorem dX3_init_74 : decode cX3_init 74 = .ok (.iconst 4, 1) := by decide +kernel
theorem dX3_init_75 : decode cX3_init 75 = .ok (.newarray .int, 2) := by decide +kernel
theorem dX3_init_77 : decode cX3_init 77 = .ok (.putfield 44, 3) := by decide +kernel
theorem dX3_init_80 : decode cX3_init 80 = .ok (.aload_n 0, 1) := by decide +kernel
theorem dX3_init_81 : decode cX3_init 81 = .ok (.bipush 6, 2) := by decide +kernel
theorem dX3_init_83 : decode cX3_init 83 = .ok (.newarray .int, 2) := by decide +kernel
theorem dX3_init_85 : decode cX3_init 85 = .ok (.putfield 47, 3) := by decide +kernel
theorem dX3_init_88 : decode cX3_init 88 = .ok (.aload_n 0, 1) := by decide +kernel
theorem dX3_init_89 : decode cX3_init 89 = .ok (.bipush 32, 2) := by decide +kernel
theorem dX3_init_91 : decode cX3_init 91 = .ok (.newarray .int, 2) := by decide +kernel
theorem dX3_init_93 : decode cX3_init 93 = .ok (.putfield 50, 3) := by decide +kernel
theorem dX3_init_96 : decode cX3_init 96 = .ok (.aload_n 0, 1) := by decide +kernel
theorem dX3_init_97 : decode cX3_init 97 = .ok (.bipush 32, 2) := by decide +kernel
theorem dX3_init_99 : decode cX3_init 99 = .ok (.newarray .int, 2) := by decide +kernel
theorem dX3_init_101 : decode cX3_init 101 = .ok (.putfield 53, 3) := by decide +kernel
theorem dX3_init_104 : decode cX3_init 104 = .ok (.return_, 1) := by decide +kernel
theorem dX3_spin_0 : decode cX3_spin 0 = .ok (.aload_n 0, 1) := by decide +kernel
theorem dX3_spin_1 : decode cX3_spin 1 = .ok (.getfield 12, 3) := by decide +kernel
theorem dX3_spin_4 : decode cX3_spin 4 = .ok (.getfield 56, 3) := by decide +kernel
theorem dX3_spin_7 : decode cX3_spin 7 = .ok (.iconst 0, 1) := by decide +kernel
theorem dX3_spin_8 : decode cX3_spin 8 = .ok (.aload_n 0, 1) := by decide +kernel
theorem dX3_spin_9 : decode cX3_spin 9 = .ok (.getfield 35, 3) := by decide +kernel
theorem dX3_spin_12 : decode cX3_spin 12 = .ok (.iconst 0, 1) := by decide +kernel
theorem dX3_spin_13 : decode cX3_spin 13 = .ok (.bipush 36, 2) := by decide +kernel
theorem dX3_spin_15 : decode cX3_spin 15 = .ok (.invokestatic 57, 3) := by decide +kernel
theorem dX3_spin_18 : decode cX3_spin 18 = .ok (.iconst 0, 1) := by decide +kernel
theorem dX3_spin_19 : decode cX3_spin 19 = .ok (.istore_n 1, 1) := by decide +kernel
theorem dX3_spin_20 : decode cX3_spin 20 = .ok (.iload_n 1, 1) := by decide +kernel
theorem dX3_spin_21 : decode cX3_spin 21 = .ok (.bipush 6, 2) := by decide +kernel
theorem dX3_spin_23 : decode cX3_spin 23 = .ok (.if_icmp .ge 23, 3) := by decide +kernel
theorem dX3_spin_26 : decode cX3_spin 26 = .ok (.aload_n 0, 1) := by decide +kernel
theorem dX3_spin_27 : decode cX3_spin 27 = .ok (.getfield 18, 3) := by decide +kernel
theorem dX3_spin_30 : decode cX3_spin 30 = .ok (.iload_n 1, 1) := by decide +kernel
theorem dX3_spin_31 : decode cX3_spin 31 = .ok (.aload_n 0, 1) := by decide +kernel
theorem dX3_spin_32 : decode cX3_spin 32 = .ok (.getfield 12, 3) := by decide +kernel
theorem dX3_spin_35 : decode cX3_spin 35 = .ok (.iload_n 1, 1) := by decide +kernel
theorem dX3_spin_36 : decode cX3_spin 36 = .ok (.invokevirtual 63, 3) := by decide +kernel
theorem dX3_spin_39 : decode cX3_spin 39 = .ok (.iastore, 1) := by decide +kernel
theorem dX3_spin_40 : decode cX3_spin 40 = .ok (.iinc 1 1, 3) := by decide +kernel
theorem dX3_spin_43 : decode cX3_spin 43 = .ok (.goto (-23), 3) := by decide +kernel
theorem dX3_spin_46 : decode cX3_spin 46 = .ok (.aload_n 0, 1) := by decide +kernel
theorem dX3_spin_47 : decode cX3_spin 47 = .ok (.invokevirtual 67, 3) := by decide +kernel
theorem dX3_spin_50 : decode cX3_spin 50 = .ok (.return_, 1) := by decide +kernel
theorem dX3_tie_0 : decode cX3_tie 0 = .ok (.aload_n 0, 1) := by decide +kernel
theorem dX3_tie_1 : decode cX3_tie 1 = .ok (.getfield 35, 3) := by decide +kernel
theorem dX3_tie_4 : decode cX3_tie 4 = .ok (.aload_n 0, 1) := by decide +kernel
theorem dX3_tie_5 : decode cX3_tie 5 = .ok (.getfield 12, 3) := by decide +kernel
theorem dX3_tie_8 : decode cX3_tie 8 = .ok (.getfield 70, 3) := by decide +kernel
theorem dX3_tie_11 : decode cX3_tie 11 = .ok (.iload_n 1, 1) := by decide +kernel
theorem dX3_tie_12 : decode cX3_tie 12 = .ok (.invokestatic 73, 3) := by decide +kernel
theorem dX3_tie_15 : decode cX3_tie 15 = .ok (.iload_n 2, 1) := by decide +kernel
theorem dX3_tie_16 : decode cX3_tie 16 = .ok (.iastore, 1) := by decide +kernel
theorem dX3_tie_17 : decode cX3_tie 17 = .ok (.aload_n 0, 1) := by decide +kernel
theorem dX3_tie_18 : decode cX3_tie 18 = .ok (.invokevirtual 67, 3) := by decide +kernel
theorem dX3_tie_21 : decode cX3_tie 21 = .ok (.return_, 1) := by decide +kernel
theorem dX3_loosen_0 : decode cX3_loosen 0 = .ok (.iconst 0, 1) := by decide +kernel
theorem dX3_loosen_1 : decode cX3_loosen 1 = .ok (.istore_n 3, 1) := by decide +kernel
theorem dX3_loosen_2 : decode cX3_loosen 2 = .ok (.iconst 0, 1) := by decide +kernel
theorem dX3_loosen_3 : decode cX3_loosen 3 = .ok (.istore 4, 2) := by decide +kernel
theorem dX3_loosen_5 : decode cX3_loosen 5 = .ok (.iload 4, 2) := by decide +kernel
theorem dX3_loosen_7 : decode cX3_loosen 7 = .ok (.bipush 6, 2) := by decide +kernel
theorem dX3_loosen_9 : decode cX3_loosen 9 = .ok (.if_icmp .ge 69, 3) := by decide +kernel
theorem dX3_loosen_12 : decode cX3_loosen 12 = .ok (.iconst 0, 1) := by decide +kernel
theorem dX3_loosen_13 : decode cX3_loosen 13 = .ok (.istore 5, 2) := by decide +kernel
theorem dX3_loosen_15 : decode cX3_loosen 15 = .ok (.iload 5, 2) := by decide +kernel
theorem dX3_loosen_17 : decode cX3_loosen 17 = .ok (.iload 4, 2) := by decide +kernel
theorem dX3_loosen_19 : decode cX3_loosen 19 = .ok (.if_icmp .ge 53, 3) := by decide +kernel
theorem dX3_loosen_22 : decode cX3_loosen 22 = .ok (.aload_n 0, 1) := by decide +kernel
theorem dX3_loosen_23 : decode cX3_loosen 23 = .ok (.getfield 28, 3) := by decide +kernel
theorem dX3_loosen_26 : decode cX3_loosen 26 = .ok (.iload 4, 2) := by decide +kernel
theorem dX3_loosen_28 : decode cX3_loosen 28 = .ok (.invokestatic 77, 3) := by decide +kernel
theorem dX3_loosen_31 : decode cX3_loosen 31 = .ok (.ifCond .eq 35, 3) := by decide +kernel
theorem dX3_loosen_34 : decode cX3_loosen 34 = .ok (.aload_n 0, 1) := by decide +kernel
theorem dX3_loosen_35 : decode cX3_loosen 35 = .ok (.getfield 35, 3) := by decide +kernel
theorem dX3_loosen_38 : decode cX3_loosen 38 = .ok (.iload 4, 2) := by decide +kernel
theorem dX3_loosen_40 : decode cX3_loosen 40 = .ok (.iload 5, 2) := by decide +kernel
theorem dX3_loosen_42 : decode cX3_loosen 42 = .ok (.invokestatic 73, 3) := by decide +kernel
theorem dX3_loosen_45 : decode cX3_loosen 45 = .ok (.iaload, 1) := by decide +kernel
theorem dX3_loosen_46 : decode cX3_loosen 46 = .ok (.iload_n 1, 1) := by decide +kernel
theorem dX3_loosen_47 : decode cX3_loosen 47 = .ok (.if_icmp .ne 19, 3) := by decide +kernel
theorem dX3_loosen_50 : decode cX3_loosen 50 = .ok (.aload_n 0, 1) := by decide +kernel
theorem dX3_loosen_51 : decode cX3_loosen 51 = .ok (.getfield 35, 3) := by decide +kernel
theorem dX3_loosen_54 : decode cX3_loosen 54 = .ok (.iload 4, 2) := by decide +kernel
theorem dX3_loosen_56 : decode cX3_loosen 56 = .ok (.iload 5, 2) := by decide +kernel
theorem dX3_loosen_58 : decode cX3_loosen 58 = .ok (.invokestatic 73, 3) := by decide +kernel
theorem dX3_loosen_61 : decode cX3_loosen 61 = .ok (.iload_n 2, 1) := by decide +kernel
theorem dX3_loosen_62 : decode cX3_loosen 62 = .ok (.iastore, 1) := by decide +kernel
theorem dX3_loosen_63 : decode cX3_loosen 63 = .ok (.iinc 3 1, 3) := by decide +kernel
theorem dX3_loosen_66 : decode cX3_loosen 66 = .ok (.iinc 5 1, 3) := by decide +kernel
theorem dX3_loosen_69 : decode cX3_loosen 69 = .ok (.goto (-54), 3) := by decide +kernel
theorem dX3_loosen_72 : decode cX3_loosen 72 = .ok (.iinc 4 1, 3) := by decide +kernel
theorem dX3_loosen_75 : decode cX3_loosen 75 = .ok (.goto (-70), 3) := by decide +kernel
theorem dX3_loosen_78 : decode cX3_loosen 78 = .ok (.aload_n 0, 1) := by decide +kernel
theorem dX3_loosen_79 : decode cX3_loosen 79 = .ok (.invokevirtual 67, 3) := by decide +kernel
theorem dX3_loosen_82 : decode cX3_loosen 82 = .ok (.iload_n 3, 1) := by decide +kernel
theorem dX3_loosen_83 : decode cX3_loosen 83 = .ok (.ireturn, 1) := by decide +kernel
theorem dX3_spread_0 : decode cX3_spread 0 = .ok (.iconst 0, 1) := by decide +kernel
theorem dX3_spread_1 : decode cX3_spread 1 = .ok (.istore_n 1, 1) := by decide +kernel
theorem dX3_spread_2 : decode cX3_spread 2 = .ok (.iload_n 1, 1) := by decide +kernel
theorem dX3_spread_3 : decode cX3_spread 3 = .ok (.iconst 3, 1) := by decide +kernel
theorem dX3_spread_4 : decode cX3_spread 4 = .ok (.if_icmp .gt 20, 3) := by decide +kernel
theorem dX3_spread_7 : decode cX3_spread 7 = .ok (.aload_n 0, 1) := by decide +kernel
theorem dX3_spread_8 : decode cX3_spread 8 = .ok (.getfield 44, 3) := by decide +kernel
theorem dX3_spread_11 : decode cX3_spread 11 = .ok (.iload_n 1, 1) := by decide +kernel
theorem dX3_spread_12 : decode cX3_spread 12 = .ok (.aload_n 0, 1) := by decide +kernel
theorem dX3_spread_13 : decode cX3_spread 13 = .ok (.iload_n 1, 1) := by decide +kernel
theorem dX3_spread_14 : decode cX3_spread 14 = .ok (.invokevirtual 81, 3) := by decide +kernel
theorem dX3_spread_17 : decode cX3_spread 17 = .ok (.iastore, 1) := by decide +kernel
theorem dX3_spread_18 : decode cX3_spread 18 = .ok (.iinc 1 1, 3) := by decide +kernel
theorem dX3_spread_21 : decode cX3_spread 21 = .ok (.goto (-19), 3) := by decide +kernel
theorem dX3_spread_24 : decode cX3_spread 24 = .ok (.aload_n 0, 1) := by decide +kernel
theorem dX3_spread_25 : decode cX3_spread 25 = .ok (.aload_n 0, 1) := by decide +kernel
theorem dX3_spread_26 : decode cX3_spread 26 = .ok (.getfield 44, 3) := by decide +kernel
theorem dX3_spread_29 : decode cX3_spread 29 = .ok (.iconst 3, 1) := by decide +kernel
theorem dX3_spread_30 : decode cX3_spread 30 = .ok (.iaload, 1) := by decide +kernel
theorem dX3_spread_31 : decode cX3_spread 31 = .ok (.putfield 28, 3) := by decide +kernel
theorem dX3_spread_34 : decode cX3_spread 34 = .ok (.aload_n 0, 1) := by decide +kernel
theorem dX3_spread_35 : decode cX3_spread 35 = .ok (.aload_n 0, 1) := by decide +kernel
theorem dX3_spread_36 : decode cX3_spread 36 = .ok (.getfield 28, 3) := by decide +kernel
theorem dX3_spread_39 : decode cX3_spread 39 = .ok (.iconst 1, 1) := by decide +kernel
theorem dX3_spread_40 : decode cX3_spread 40 = .ok (.aload_n 0, 1) := by decide +kernel
theorem dX3_spread_41 : decode cX3_spread 41 = .ok (.getfield 12, 3) := by decide +kernel
theorem dX3_spread_44 : decode cX3_spread 44 = .ok (.getfield 70, 3) := by decide +kernel
theorem dX3_spread_47 : decode cX3_spread 47 = .ok (.ishl, 1) := by decide +kernel
theorem dX3_spread_48 : decode cX3_spread 48 = .ok (.iconst (-1), 1) := by decide +kernel
theorem dX3_spread_49 : decode cX3_spread 49 = .ok (.ixor, 1) := by decide +kernel
theorem dX3_spread_50 : decode cX3_spread 50 = .ok (.iand, 1) := by decide +kernel
theorem dX3_spread_51 : decode cX3_spread 51 = .ok (.putfield 32, 3) := by decide +kernel
theorem dX3_spread_54 : decode cX3_spread 54 = .ok (.iconst 0, 1) := by decide +kernel
theorem dX3_spread_55 : decode cX3_spread 55 = .ok (.istore_n 1, 1) := by decide +kernel
theorem dX3_spread_56 : decode cX3_spread 56 = .ok (.iload_n 1, 1) := by decide +kernel
theorem dX3_spread_57 : decode cX3_spread 57 = .ok (.bipush 6, 2) := by decide +kernel
theorem dX3_spread_59 : decode cX3_spread 59 = .ok (.if_icmp .ge 84, 3) := by decide +kernel
theorem dX3_spread_62 : decode cX3_spread 62 = .ok (.iconst 0, 1) := by decide +kernel
theorem dX3_spread_63 : decode cX3_spread 63 = .ok (.istore_n 2, 1) := by decide +kernel
theorem dX3_spread_64 : decode cX3_spread 64 = .ok (.iload_n 2, 1) := by decide +kernel
theorem dX3_spread_65 : decode cX3_spread 65 = .ok (.iconst 5, 1) := by decide +kernel
theorem dX3_spread_66 : decode cX3_spread 66 = .ok (.if_icmp .ge 71, 3) := by decide +kernel
theorem dX3_spread_69 : decode cX3_spread 69 = .ok (.aload_n 0, 1) := by decide +kernel
theorem dX3_spread_70 : decode cX3_spread 70 = .ok (.iload_n 1, 1) := by decide +kernel
theorem dX3_spread_71 : decode cX3_spread 71 = .ok (.iload_n 2, 1) := by decide +kernel
theorem dX3_spread_72 : decode cX3_spread 72 = .ok (.invokevirtual 84, 3) := by decide +kernel
theorem dX3_spread_75 : decode cX3_spread 75 = .ok (.istore_n 3, 1) := by decide +kernel
theorem dX3_spread_76 : decode cX3_spread 76 = .ok (.aload_n 0, 1) := by decide +kernel
theorem dX3_spread_77 : decode cX3_spread 77 = .ok (.getfield 38, 3) := by decide +kernel
theorem dX3_spread_80 : decode cX3_spread 80 = .ok (.iload_n 1, 1) := by decide +kernel
theorem dX3_spread_81 : decode cX3_spread 81 = .ok (.iload_n 2, 1) := by decide +kernel
theorem dX3_spread_82 : decode cX3_spread 82 = .ok (.invokestatic 87, 3) := by decide +kernel
theorem dX3_spread_85 : decode cX3_spread 85 = .ok (.iload_n 3, 1) := by decide +kernel
theorem dX3_spread_86 : decode cX3_spread 86 = .ok (.ifCond .eq 15, 3) := by decide +kernel
theorem dX3_spread_89 : decode cX3_spread 89 = .ok (.aload_n 0, 1) := by decide +kernel
theorem dX3_spread_90 : decode cX3_spread 90 = .ok (.getfield 12, 3) := by decide +kernel
theorem dX3_spread_93 : decode cX3_spread 93 = .ok (.getfield 90, 3) := by decide +kernel
theorem dX3_spread_96 : decode cX3_spread 96 = .ok (.iload_n 2, 1) := by decide +kernel
theorem dX3_spread_97 : decode cX3_spread 97 = .ok (.iaload, 1) := by decide +kernel
theorem dX3_spread_98 : decode cX3_spread 98 = .ok (.goto 5, 3) := by decide +kernel
theorem dX3_spread_101 : decode cX3_spread 101 = .ok (.bipush 31, 2) := by decide +kernel
theorem dX3_spread_103 : decode cX3_spread 103 = .ok (.iastore, 1) := by decide +kernel
theorem dX3_spread_104 : decode cX3_spread 104 = .ok (.aload_n 0, 1) := by decide +kernel
theorem dX3_spread_105 : decode cX3_spread 105 = .ok (.getfield 41, 3) := by decide +kernel
theorem dX3_spread_108 : decode cX3_spread 108 = .ok (.iload_n 1, 1) := by decide +kernel
theorem dX3_spread_109 : decode cX3_spread 109 = .ok (.iload_n 2, 1) := by decide +kernel
theorem dX3_spread_110 : decode cX3_spread 110 = .ok (.invokestatic 87, 3) := by decide +kernel
theorem dX3_spread_113 : decode cX3_spread 113 = .ok (.iload_n 3, 1) := by decide +kernel
theorem dX3_spread_114 : decode cX3_spread 114 = .ok (.ifCond .eq 15, 3) := by decide +kernel
theorem dX3_spread_117 : decode cX3_spread 117 = .ok (.aload_n 0, 1) := by decide +kernel
theorem dX3_spread_118 : decode cX3_spread 118 = .ok (.getfield 12, 3) := by decide +kernel
theorem dX3_spread_121 : decode cX3_spread 121 = .ok (.getfield 93, 3) := by decide +kernel
theorem dX3_spread_124 : decode cX3_spread 124 = .ok (.iload_n 2, 1) := by decide +kernel
theorem dX3_spread_125 : decode cX3_spread 125 = .ok (.iaload, 1) := by decide +kernel
theorem dX3_spread_126 : decode cX3_spread 126 = .ok (.goto 4, 3) := by decide +kernel
theorem dX3_spread_129 : decode cX3_spread 129 = .ok (.iconst 0, 1) := by decide +kernel
theorem dX3_spread_130 : decode cX3_spread 130 = .ok (.iastore, 1) := by decide +kernel
theorem dX3_spread_131 : decode cX3_spread 131 = .ok (.iinc 2 1, 3) := by decide +kernel
theorem dX3_spread_134 : decode cX3_spread 134 = .ok (.goto (-70), 3) := by decide +kernel
theorem dX3_spread_137 : decode cX3_spread 137 = .ok (.iinc 1 1, 3) := by decide +kernel
theorem dX3_spread_140 : decode cX3_spread 140 = .ok (.goto (-84), 3) := by decide +kernel
theorem dX3_spread_143 : decode cX3_spread 143 = .ok (.return_, 1) := by decide +kernel
theorem dX3_reachedBy_0 : decode cX3_reachedBy 0 = .ok (.iconst 1, 1) := by decide +kernel
theorem dX3_reachedBy_1 : decode cX3_reachedBy 1 = .ok (.aload_n 0, 1) := by decide +kernel
theorem dX3_reachedBy_2 : decode cX3_reachedBy 2 = .ok (.getfield 12, 3) := by decide +kernel
theorem dX3_reachedBy_5 : decode cX3_reachedBy 5 = .ok (.getfield 70, 3) := by decide +kernel
theorem dX3_reachedBy_8 : decode cX3_reachedBy 8 = .ok (.ishl, 1) := by decide +kernel
theorem dX3_reachedBy_9 : decode cX3_reachedBy 9 = .ok (.istore_n 2, 1) := by decide +kernel
theorem dX3_reachedBy_10 : decode cX3_reachedBy 10 = .ok (.aload_n 0, 1) := by decide +kernel
theorem dX3_reachedBy_11 : decode cX3_reachedBy 11 = .ok (.getfield 12, 3) := by decide +kernel
theorem dX3_reachedBy_14 : decode cX3_reachedBy 14 = .ok (.getfield 70, 3) := by decide +kernel
theorem dX3_reachedBy_17 : decode cX3_reachedBy 17 = .ok (.istore_n 3, 1) := by decide +kernel
theorem dX3_reachedBy_18 : decode cX3_reachedBy 18 = .ok (.iload_n 3, 1) := by decide +kernel
theorem dX3_reachedBy_19 : decode cX3_reachedBy 19 = .ok (.ifCond .le 58, 3) := by decide +kernel
theorem dX3_reachedBy_22 : decode cX3_reachedBy 22 = .ok (.iconst 0, 1) := by decide +kernel
theorem dX3_reachedBy_23 : decode cX3_reachedBy 23 = .ok (.istore 4, 2) := by decide +kernel
theorem dX3_reachedBy_25 : decode cX3_reachedBy 25 = .ok (.iload 4, 2) := by decide +kernel
theorem dX3_reachedBy_27 : decode cX3_reachedBy 27 = .ok (.iload_n 3, 1) := by decide +kernel
theorem dX3_reachedBy_28 : decode cX3_reachedBy 28 = .ok (.if_icmp .ge 43, 3) := by decide +kernel
theorem dX3_reachedBy_31 : decode cX3_reachedBy 31 = .ok (.iload_n 2, 1) := by decide +kernel
theorem dX3_reachedBy_32 : decode cX3_reachedBy 32 = .ok (.iload_n 3, 1) := by decide +kernel
theorem dX3_reachedBy_33 : decode cX3_reachedBy 33 = .ok (.invokestatic 77, 3) := by decide +kernel
theorem dX3_reachedBy_36 : decode cX3_reachedBy 36 = .ok (.ifCond .eq 29, 3) := by decide +kernel
theorem dX3_reachedBy_39 : decode cX3_reachedBy 39 = .ok (.aload_n 0, 1) := by decide +kernel
theorem dX3_reachedBy_40 : decode cX3_reachedBy 40 = .ok (.getfield 35, 3) := by decide +kernel
theorem dX3_reachedBy_43 : decode cX3_reachedBy 43 = .ok (.iload_n 3, 1) := by decide +kernel
theorem dX3_reachedBy_44 : decode cX3_reachedBy 44 = .ok (.iload 4, 2) := by decide +kernel
theorem dX3_reachedBy_46 : decode cX3_reachedBy 46 = .ok (.invokestatic 73, 3) := by decide +kernel
theorem dX3_reachedBy_49 : decode cX3_reachedBy 49 = .ok (.iaload, 1) := by decide +kernel
theorem dX3_reachedBy_50 : decode cX3_reachedBy 50 = .ok (.iconst 0, 1) := by decide +kernel
theorem dX3_reachedBy_51 : decode cX3_reachedBy 51 = .ok (.iload_n 1, 1) := by decide +kernel
theorem dX3_reachedBy_52 : decode cX3_reachedBy 52 = .ok (.invokestatic 94, 3) := by decide +kernel
theorem dX3_reachedBy_55 : decode cX3_reachedBy 55 = .ok (.ifCond .eq 10, 3) := by decide +kernel
theorem dX3_reachedBy_58 : decode cX3_reachedBy 58 = .ok (.iload_n 2, 1) := by decide +kernel
theorem dX3_reachedBy_59 : decode cX3_reachedBy 59 = .ok (.iconst 1, 1) := by decide +kernel
theorem dX3_reachedBy_60 : decode cX3_reachedBy 60 = .ok (.iload 4, 2) := by decide +kernel
theorem dX3_reachedBy_62 : decode cX3_reachedBy 62 = .ok (.ishl, 1) := by decide +kernel
theorem dX3_reachedBy_63 : decode cX3_reachedBy 63 = .ok (.ior, 1) := by decide +kernel
theorem dX3_reachedBy_64 : decode cX3_reachedBy 64 = .ok (.istore_n 2, 1) := by decide +kernel
theorem dX3_reachedBy_65 : decode cX3_reachedBy 65 = .ok (.iinc 4 1, 3) := by decide +kernel
theorem dX3_reachedBy_68 : decode cX3_reachedBy 68 = .ok (.goto (-43), 3) := by decide +kernel
theorem dX3_reachedBy_71 : decode cX3_reachedBy 71 = .ok (.iinc 3 (-1), 3) := by decide +kernel
theorem dX3_reachedBy_74 : decode cX3_reachedBy 74 = .ok (.goto (-56), 3) := by decide +kernel
theorem dX3_reachedBy_77 : decode cX3_reachedBy 77 = .ok (.iload_n 2, 1) := by decide +kernel
theorem dX3_reachedBy_78 : decode cX3_reachedBy 78 = .ok (.ireturn, 1) := by decide +kernel
theorem dX3_reaches_0 : decode cX3_reaches 0 = .ok (.aload_n 0, 1) := by decide +kernel
theorem dX3_reaches_1 : decode cX3_reaches 1 = .ok (.getfield 32, 3) := by decide +kernel
theorem dX3_reaches_4 : decode cX3_reaches 4 = .ok (.aload_n 0, 1) := by decide +kernel
theorem dX3_reaches_5 : decode cX3_reaches 5 = .ok (.getfield 44, 3) := by decide +kernel
theorem dX3_reaches_8 : decode cX3_reaches 8 = .ok (.aload_n 0, 1) := by decide +kernel
theorem dX3_reaches_9 : decode cX3_reaches 9 = .ok (.getfield 12, 3) := by decide +kernel
theorem dX3_reaches_12 : decode cX3_reaches 12 = .ok (.getfield 98, 3) := by decide +kernel
theorem dX3_reaches_15 : decode cX3_reaches 15 = .ok (.iload_n 2, 1) := by decide +kernel
theorem dX3_reaches_16 : decode cX3_reaches 16 = .ok (.iaload, 1) := by decide +kernel
theorem dX3_reaches_17 : decode cX3_reaches 17 = .ok (.iaload, 1) := by decide +kernel
theorem dX3_reaches_18 : decode cX3_reaches 18 = .ok (.iand, 1) := by decide +kernel
theorem dX3_reaches_19 : decode cX3_reaches 19 = .ok (.iload_n 1, 1) := by decide +kernel
theorem dX3_reaches_20 : decode cX3_reaches 20 = .ok (.invokestatic 77, 3) := by decide +kernel
theorem dX3_reaches_23 : decode cX3_reaches 23 = .ok (.ireturn, 1) := by decide +kernel
theorem dX3_offer_0 : decode cX3_offer 0 = .ok (.iload_n 0, 1) := by decide +kernel
theorem dX3_offer_1 : decode cX3_offer 1 = .ok (.iconst 5, 1) := by decide +kernel
theorem dX3_offer_2 : decode cX3_offer 2 = .ok (.imul, 1) := by decide +kernel
theorem dX3_offer_3 : decode cX3_offer 3 = .ok (.iload_n 1, 1) := by decide +kernel
theorem dX3_offer_4 : decode cX3_offer 4 = .ok (.iadd, 1) := by decide +kernel
theorem dX3_offer_5 : decode cX3_offer 5 = .ok (.ireturn, 1) := by decide +kernel
theorem dX3_askedBy_0 : decode cX3_askedBy 0 = .ok (.iload_n 0, 1) := by decide +kernel
