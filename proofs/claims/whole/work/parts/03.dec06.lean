theorem dX5_names_41 : decode cX5_names 41 = .ok (.if_icmp .ge 91, 3) := by decide +kernel
theorem dX5_names_44 : decode cX5_names 44 = .ok (.aload_n 0, 1) := by decide +kernel
theorem dX5_names_45 : decode cX5_names 45 = .ok (.getfield 44, 3) := by decide +kernel
theorem dX5_names_48 : decode cX5_names 48 = .ok (.iload_n 2, 1) := by decide +kernel
theorem dX5_names_49 : decode cX5_names 49 = .ok (.aload_n 0, 1) := by decide +kernel
theorem dX5_names_50 : decode cX5_names 50 = .ok (.getfield 47, 3) := by decide +kernel
theorem dX5_names_53 : decode cX5_names 53 = .ok (.iload_n 2, 1) := by decide +kernel
theorem dX5_names_54 : decode cX5_names 54 = .ok (.iaload, 1) := by decide +kernel
theorem dX5_names_55 : decode cX5_names 55 = .ok (.iastore, 1) := by decide +kernel
theorem dX5_names_56 : decode cX5_names 56 = .ok (.iconst 0, 1) := by decide +kernel
theorem dX5_names_57 : decode cX5_names 57 = .ok (.istore_n 3, 1) := by decide +kernel
theorem dX5_names_58 : decode cX5_names 58 = .ok (.iload_n 3, 1) := by decide +kernel
theorem dX5_names_59 : decode cX5_names 59 = .ok (.bipush 6, 2) := by decide +kernel
theorem dX5_names_61 : decode cX5_names 61 = .ok (.if_icmp .ge 65, 3) := by decide +kernel
theorem dX5_names_64 : decode cX5_names 64 = .ok (.aload_n 0, 1) := by decide +kernel
theorem dX5_names_65 : decode cX5_names 65 = .ok (.iload_n 2, 1) := by decide +kernel
theorem dX5_names_66 : decode cX5_names 66 = .ok (.invokevirtual 119, 3) := by decide +kernel
theorem dX5_names_69 : decode cX5_names 69 = .ok (.ifCond .eq 57, 3) := by decide +kernel
theorem dX5_names_72 : decode cX5_names 72 = .ok (.aload_n 0, 1) := by decide +kernel
theorem dX5_names_73 : decode cX5_names 73 = .ok (.getfield 13, 3) := by decide +kernel
theorem dX5_names_76 : decode cX5_names 76 = .ok (.aload_n 0, 1) := by decide +kernel
theorem dX5_names_77 : decode cX5_names 77 = .ok (.getfield 44, 3) := by decide +kernel
theorem dX5_names_80 : decode cX5_names 80 = .ok (.iload_n 2, 1) := by decide +kernel
theorem dX5_names_81 : decode cX5_names 81 = .ok (.iaload, 1) := by decide +kernel
theorem dX5_names_82 : decode cX5_names 82 = .ok (.iaload, 1) := by decide +kernel
theorem dX5_names_83 : decode cX5_names 83 = .ok (.iconst 1, 1) := by decide +kernel
theorem dX5_names_84 : decode cX5_names 84 = .ok (.iand, 1) := by decide +kernel
theorem dX5_names_85 : decode cX5_names 85 = .ok (.iconst 1, 1) := by decide +kernel
theorem dX5_names_86 : decode cX5_names 86 = .ok (.if_icmp .ne 40, 3) := by decide +kernel
theorem dX5_names_89 : decode cX5_names 89 = .ok (.aload_n 0, 1) := by decide +kernel
theorem dX5_names_90 : decode cX5_names 90 = .ok (.getfield 53, 3) := by decide +kernel
theorem dX5_names_93 : decode cX5_names 93 = .ok (.iload_n 3, 1) := by decide +kernel
theorem dX5_names_94 : decode cX5_names 94 = .ok (.dup2, 1) := by decide +kernel
theorem dX5_names_95 : decode cX5_names 95 = .ok (.iaload, 1) := by decide +kernel
theorem dX5_names_96 : decode cX5_names 96 = .ok (.aload_n 0, 1) := by decide +kernel
theorem dX5_names_97 : decode cX5_names 97 = .ok (.getfield 25, 3) := by decide +kernel
theorem dX5_names_100 : decode cX5_names 100 = .ok (.iconst 4, 1) := by decide +kernel
theorem dX5_names_101 : decode cX5_names 101 = .ok (.iload_n 2, 1) := by decide +kernel
theorem dX5_names_102 : decode cX5_names 102 = .ok (.imul, 1) := by decide +kernel
theorem dX5_names_103 : decode cX5_names 103 = .ok (.iconst 2, 1) := by decide +kernel
theorem dX5_names_104 : decode cX5_names 104 = .ok (.iadd, 1) := by decide +kernel
theorem dX5_names_105 : decode cX5_names 105 = .ok (.iaload, 1) := by decide +kernel
theorem dX5_names_106 : decode cX5_names 106 = .ok (.iload_n 3, 1) := by decide +kernel
theorem dX5_names_107 : decode cX5_names 107 = .ok (.invokestatic 103, 3) := by decide +kernel
theorem dX5_names_110 : decode cX5_names 110 = .ok (.ifCond .eq 7, 3) := by decide +kernel
theorem dX5_names_113 : decode cX5_names 113 = .ok (.iconst 1, 1) := by decide +kernel
theorem dX5_names_114 : decode cX5_names 114 = .ok (.goto 4, 3) := by decide +kernel
theorem dX5_names_117 : decode cX5_names 117 = .ok (.iconst 0, 1) := by decide +kernel
theorem dX5_names_118 : decode cX5_names 118 = .ok (.iadd, 1) := by decide +kernel
theorem dX5_names_119 : decode cX5_names 119 = .ok (.iastore, 1) := by decide +kernel
theorem dX5_names_120 : decode cX5_names 120 = .ok (.iinc 3 1, 3) := by decide +kernel
theorem dX5_names_123 : decode cX5_names 123 = .ok (.goto (-65), 3) := by decide +kernel
theorem dX5_names_126 : decode cX5_names 126 = .ok (.iinc 2 1, 3) := by decide +kernel
theorem dX5_names_129 : decode cX5_names 129 = .ok (.goto (-91), 3) := by decide +kernel
theorem dX5_names_132 : decode cX5_names 132 = .ok (.iconst 0, 1) := by decide +kernel
theorem dX5_names_133 : decode cX5_names 133 = .ok (.istore_n 2, 1) := by decide +kernel
theorem dX5_names_134 : decode cX5_names 134 = .ok (.bipush 6, 2) := by decide +kernel
theorem dX5_names_136 : decode cX5_names 136 = .ok (.istore_n 3, 1) := by decide +kernel
theorem dX5_names_137 : decode cX5_names 137 = .ok (.iload_n 3, 1) := by decide +kernel
theorem dX5_names_138 : decode cX5_names 138 = .ok (.ifCond .le 47, 3) := by decide +kernel
theorem dX5_names_141 : decode cX5_names 141 = .ok (.iconst 0, 1) := by decide +kernel
theorem dX5_names_142 : decode cX5_names 142 = .ok (.istore 4, 2) := by decide +kernel
theorem dX5_names_144 : decode cX5_names 144 = .ok (.iload 4, 2) := by decide +kernel
theorem dX5_names_146 : decode cX5_names 146 = .ok (.bipush 6, 2) := by decide +kernel
theorem dX5_names_148 : decode cX5_names 148 = .ok (.if_icmp .ge 31, 3) := by decide +kernel
theorem dX5_names_151 : decode cX5_names 151 = .ok (.aload_n 0, 1) := by decide +kernel
theorem dX5_names_152 : decode cX5_names 152 = .ok (.getfield 53, 3) := by decide +kernel
theorem dX5_names_155 : decode cX5_names 155 = .ok (.iload 4, 2) := by decide +kernel
theorem dX5_names_157 : decode cX5_names 157 = .ok (.iaload, 1) := by decide +kernel
theorem dX5_names_158 : decode cX5_names 158 = .ok (.iload_n 3, 1) := by decide +kernel
theorem dX5_names_159 : decode cX5_names 159 = .ok (.if_icmp .ne 14, 3) := by decide +kernel
theorem dX5_names_162 : decode cX5_names 162 = .ok (.iload_n 2, 1) := by decide +kernel
theorem dX5_names_163 : decode cX5_names 163 = .ok (.iload_n 1, 1) := by decide +kernel
theorem dX5_names_164 : decode cX5_names 164 = .ok (.if_icmp .ne 6, 3) := by decide +kernel
theorem dX5_names_167 : decode cX5_names 167 = .ok (.iload 4, 2) := by decide +kernel
theorem dX5_names_169 : decode cX5_names 169 = .ok (.ireturn, 1) := by decide +kernel
theorem dX5_names_170 : decode cX5_names 170 = .ok (.iinc 2 1, 3) := by decide +kernel
theorem dX5_names_173 : decode cX5_names 173 = .ok (.iinc 4 1, 3) := by decide +kernel
theorem dX5_names_176 : decode cX5_names 176 = .ok (.goto (-32), 3) := by decide +kernel
theorem dX5_names_179 : decode cX5_names 179 = .ok (.iinc 3 (-1), 3) := by decide +kernel
theorem dX5_names_182 : decode cX5_names 182 = .ok (.goto (-45), 3) := by decide +kernel
theorem dX5_names_185 : decode cX5_names 185 = .ok (.iload_n 1, 1) := by decide +kernel
theorem dX5_names_186 : decode cX5_names 186 = .ok (.iconst (-1), 1) := by decide +kernel
theorem dX5_names_187 : decode cX5_names 187 = .ok (.if_icmp .ne 7, 3) := by decide +kernel
theorem dX5_names_190 : decode cX5_names 190 = .ok (.iload_n 2, 1) := by decide +kernel
theorem dX5_names_191 : decode cX5_names 191 = .ok (.goto 5, 3) := by decide +kernel
theorem dX5_names_194 : decode cX5_names 194 = .ok (.bipush (-6), 2) := by decide +kernel
theorem dX5_names_196 : decode cX5_names 196 = .ok (.ireturn, 1) := by decide +kernel
theorem dX5_audit_0 : decode cX5_audit 0 = .ok (.iload_n 1, 1) := by decide +kernel
theorem dX5_audit_1 : decode cX5_audit 1 = .ok (.invokestatic 97, 3) := by decide +kernel
theorem dX5_audit_4 : decode cX5_audit 4 = .ok (.ifCond .ne 5, 3) := by decide +kernel
theorem dX5_audit_7 : decode cX5_audit 7 = .ok (.iconst (-1), 1) := by decide +kernel
theorem dX5_audit_8 : decode cX5_audit 8 = .ok (.ireturn, 1) := by decide +kernel
theorem dX5_audit_9 : decode cX5_audit 9 = .ok (.iload_n 2, 1) := by decide +kernel
theorem dX5_audit_10 : decode cX5_audit 10 = .ok (.iconst 0, 1) := by decide +kernel
theorem dX5_audit_11 : decode cX5_audit 11 = .ok (.iconst 1, 1) := by decide +kernel
theorem dX5_audit_12 : decode cX5_audit 12 = .ok (.invokestatic 69, 3) := by decide +kernel
theorem dX5_audit_15 : decode cX5_audit 15 = .ok (.ifCond .ne 6, 3) := by decide +kernel
theorem dX5_audit_18 : decode cX5_audit 18 = .ok (.bipush (-2), 2) := by decide +kernel
theorem dX5_audit_20 : decode cX5_audit 20 = .ok (.ireturn, 1) := by decide +kernel
theorem dX5_audit_21 : decode cX5_audit 21 = .ok (.iconst 0, 1) := by decide +kernel
theorem dX5_audit_22 : decode cX5_audit 22 = .ok (.istore_n 3, 1) := by decide +kernel
theorem dX5_audit_23 : decode cX5_audit 23 = .ok (.iload_n 3, 1) := by decide +kernel
theorem dX5_audit_24 : decode cX5_audit 24 = .ok (.bipush 6, 2) := by decide +kernel
theorem dX5_audit_26 : decode cX5_audit 26 = .ok (.if_icmp .ge 48, 3) := by decide +kernel
theorem dX5_audit_29 : decode cX5_audit 29 = .ok (.aload_n 0, 1) := by decide +kernel
theorem dX5_audit_30 : decode cX5_audit 30 = .ok (.getfield 56, 3) := by decide +kernel
theorem dX5_audit_33 : decode cX5_audit 33 = .ok (.iload_n 3, 1) := by decide +kernel
theorem dX5_audit_34 : decode cX5_audit 34 = .ok (.iload_n 3, 1) := by decide +kernel
theorem dX5_audit_35 : decode cX5_audit 35 = .ok (.aload_n 0, 1) := by decide +kernel
theorem dX5_audit_36 : decode cX5_audit 36 = .ok (.getfield 31, 3) := by decide +kernel
theorem dX5_audit_39 : decode cX5_audit 39 = .ok (.if_icmp .ne 7, 3) := by decide +kernel
theorem dX5_audit_42 : decode cX5_audit 42 = .ok (.iconst 0, 1) := by decide +kernel
theorem dX5_audit_43 : decode cX5_audit 43 = .ok (.goto 5, 3) := by decide +kernel
theorem dX5_audit_46 : decode cX5_audit 46 = .ok (.bipush (-6), 2) := by decide +kernel
theorem dX5_audit_48 : decode cX5_audit 48 = .ok (.iastore, 1) := by decide +kernel
theorem dX5_audit_49 : decode cX5_audit 49 = .ok (.aload_n 0, 1) := by decide +kernel
theorem dX5_audit_50 : decode cX5_audit 50 = .ok (.getfield 59, 3) := by decide +kernel
theorem dX5_audit_53 : decode cX5_audit 53 = .ok (.iload_n 3, 1) := by decide +kernel
theorem dX5_audit_54 : decode cX5_audit 54 = .ok (.iload_n 3, 1) := by decide +kernel
theorem dX5_audit_55 : decode cX5_audit 55 = .ok (.aload_n 0, 1) := by decide +kernel
theorem dX5_audit_56 : decode cX5_audit 56 = .ok (.getfield 31, 3) := by decide +kernel
theorem dX5_audit_59 : decode cX5_audit 59 = .ok (.if_icmp .ne 7, 3) := by decide +kernel
theorem dX5_audit_62 : decode cX5_audit 62 = .ok (.iconst 1, 1) := by decide +kernel
theorem dX5_audit_63 : decode cX5_audit 63 = .ok (.goto 4, 3) := by decide +kernel
theorem dX5_audit_66 : decode cX5_audit 66 = .ok (.iconst 0, 1) := by decide +kernel
theorem dX5_audit_67 : decode cX5_audit 67 = .ok (.iastore, 1) := by decide +kernel
theorem dX5_audit_68 : decode cX5_audit 68 = .ok (.iinc 3 1, 3) := by decide +kernel
theorem dX5_audit_71 : decode cX5_audit 71 = .ok (.goto (-48), 3) := by decide +kernel
theorem dX5_audit_74 : decode cX5_audit 74 = .ok (.aload_n 0, 1) := by decide +kernel
theorem dX5_audit_75 : decode cX5_audit 75 = .ok (.getfield 31, 3) := by decide +kernel
theorem dX5_audit_78 : decode cX5_audit 78 = .ok (.istore_n 3, 1) := by decide +kernel
theorem dX5_audit_79 : decode cX5_audit 79 = .ok (.iload_n 3, 1) := by decide +kernel
theorem dX5_audit_80 : decode cX5_audit 80 = .ok (.ifCond .le 107, 3) := by decide +kernel
theorem dX5_audit_83 : decode cX5_audit 83 = .ok (.iconst 0, 1) := by decide +kernel
theorem dX5_audit_84 : decode cX5_audit 84 = .ok (.istore 4, 2) := by decide +kernel
theorem dX5_audit_86 : decode cX5_audit 86 = .ok (.iload 4, 2) := by decide +kernel
theorem dX5_audit_88 : decode cX5_audit 88 = .ok (.iload_n 3, 1) := by decide +kernel
theorem dX5_audit_89 : decode cX5_audit 89 = .ok (.if_icmp .ge 92, 3) := by decide +kernel
theorem dX5_audit_92 : decode cX5_audit 92 = .ok (.aload_n 0, 1) := by decide +kernel
theorem dX5_audit_93 : decode cX5_audit 93 = .ok (.getfield 56, 3) := by decide +kernel
theorem dX5_audit_96 : decode cX5_audit 96 = .ok (.iload_n 3, 1) := by decide +kernel
theorem dX5_audit_97 : decode cX5_audit 97 = .ok (.iaload, 1) := by decide +kernel
theorem dX5_audit_98 : decode cX5_audit 98 = .ok (.ifCond .lt 77, 3) := by decide +kernel
theorem dX5_audit_101 : decode cX5_audit 101 = .ok (.aload_n 0, 1) := by decide +kernel
theorem dX5_audit_102 : decode cX5_audit 102 = .ok (.getfield 28, 3) := by decide +kernel
theorem dX5_audit_105 : decode cX5_audit 105 = .ok (.bipush 6, 2) := by decide +kernel
theorem dX5_audit_107 : decode cX5_audit 107 = .ok (.iload_n 3, 1) := by decide +kernel
theorem dX5_audit_108 : decode cX5_audit 108 = .ok (.imul, 1) := by decide +kernel
theorem dX5_audit_109 : decode cX5_audit 109 = .ok (.iload 4, 2) := by decide +kernel
theorem dX5_audit_111 : decode cX5_audit 111 = .ok (.iadd, 1) := by decide +kernel
theorem dX5_audit_112 : decode cX5_audit 112 = .ok (.iaload, 1) := by decide +kernel
theorem dX5_audit_113 : decode cX5_audit 113 = .ok (.ifCond .lt 62, 3) := by decide +kernel
theorem dX5_audit_116 : decode cX5_audit 116 = .ok (.aload_n 0, 1) := by decide +kernel
theorem dX5_audit_117 : decode cX5_audit 117 = .ok (.getfield 56, 3) := by decide +kernel
theorem dX5_audit_120 : decode cX5_audit 120 = .ok (.iload 4, 2) := by decide +kernel
theorem dX5_audit_122 : decode cX5_audit 122 = .ok (.aload_n 0, 1) := by decide +kernel
theorem dX5_audit_123 : decode cX5_audit 123 = .ok (.getfield 56, 3) := by decide +kernel
theorem dX5_audit_126 : decode cX5_audit 126 = .ok (.iload_n 3, 1) := by decide +kernel
theorem dX5_audit_127 : decode cX5_audit 127 = .ok (.iaload, 1) := by decide +kernel
theorem dX5_audit_128 : decode cX5_audit 128 = .ok (.iconst 1, 1) := by decide +kernel
theorem dX5_audit_129 : decode cX5_audit 129 = .ok (.iadd, 1) := by decide +kernel
theorem dX5_audit_130 : decode cX5_audit 130 = .ok (.aload_n 0, 1) := by decide +kernel
theorem dX5_audit_131 : decode cX5_audit 131 = .ok (.getfield 56, 3) := by decide +kernel
theorem dX5_audit_134 : decode cX5_audit 134 = .ok (.iload 4, 2) := by decide +kernel
theorem dX5_audit_136 : decode cX5_audit 136 = .ok (.iaload, 1) := by decide +kernel
theorem dX5_audit_137 : decode cX5_audit 137 = .ok (.if_icmp .le 14, 3) := by decide +kernel
theorem dX5_audit_140 : decode cX5_audit 140 = .ok (.aload_n 0, 1) := by decide +kernel
theorem dX5_audit_141 : decode cX5_audit 141 = .ok (.getfield 56, 3) := by decide +kernel
theorem dX5_audit_144 : decode cX5_audit 144 = .ok (.iload_n 3, 1) := by decide +kernel
theorem dX5_audit_145 : decode cX5_audit 145 = .ok (.iaload, 1) := by decide +kernel
theorem dX5_audit_146 : decode cX5_audit 146 = .ok (.iconst 1, 1) := by decide +kernel
theorem dX5_audit_147 : decode cX5_audit 147 = .ok (.iadd, 1) := by decide +kernel
theorem dX5_audit_148 : decode cX5_audit 148 = .ok (.goto 10, 3) := by decide +kernel
theorem dX5_audit_151 : decode cX5_audit 151 = .ok (.aload_n 0, 1) := by decide +kernel
theorem dX5_audit_152 : decode cX5_audit 152 = .ok (.getfield 56, 3) := by decide +kernel
theorem dX5_audit_155 : decode cX5_audit 155 = .ok (.iload 4, 2) := by decide +kernel
theorem dX5_audit_157 : decode cX5_audit 157 = .ok (.iaload, 1) := by decide +kernel
theorem dX5_audit_158 : decode cX5_audit 158 = .ok (.iastore, 1) := by decide +kernel
theorem dX5_audit_159 : decode cX5_audit 159 = .ok (.aload_n 0, 1) := by decide +kernel
theorem dX5_audit_160 : decode cX5_audit 160 = .ok (.getfield 59, 3) := by decide +kernel
theorem dX5_audit_163 : decode cX5_audit 163 = .ok (.iload 4, 2) := by decide +kernel
theorem dX5_audit_165 : decode cX5_audit 165 = .ok (.dup2, 1) := by decide +kernel
theorem dX5_audit_166 : decode cX5_audit 166 = .ok (.iaload, 1) := by decide +kernel
theorem dX5_audit_167 : decode cX5_audit 167 = .ok (.aload_n 0, 1) := by decide +kernel
theorem dX5_audit_168 : decode cX5_audit 168 = .ok (.getfield 59, 3) := by decide +kernel
theorem dX5_audit_171 : decode cX5_audit 171 = .ok (.iload_n 3, 1) := by decide +kernel
theorem dX5_audit_172 : decode cX5_audit 172 = .ok (.iaload, 1) := by decide +kernel
theorem dX5_audit_173 : decode cX5_audit 173 = .ok (.iadd, 1) := by decide +kernel
theorem dX5_audit_174 : decode cX5_audit 174 = .ok (.iastore, 1) := by decide +kernel
theorem dX5_audit_175 : decode cX5_audit 175 = .ok (.iinc 4 1, 3) := by decide +kernel
theorem dX5_audit_178 : decode cX5_audit 178 = .ok (.goto (-92), 3) := by decide +kernel
theorem dX5_audit_181 : decode cX5_audit 181 = .ok (.iinc 3 (-1), 3) := by decide +kernel
theorem dX5_audit_184 : decode cX5_audit 184 = .ok (.goto (-105), 3) := by decide +kernel
theorem dX5_audit_187 : decode cX5_audit 187 = .ok (.aload_n 0, 1) := by decide +kernel
theorem dX5_audit_188 : decode cX5_audit 188 = .ok (.getfield 56, 3) := by decide +kernel
theorem dX5_audit_191 : decode cX5_audit 191 = .ok (.iload_n 1, 1) := by decide +kernel
theorem dX5_audit_192 : decode cX5_audit 192 = .ok (.iaload, 1) := by decide +kernel
theorem dX5_audit_193 : decode cX5_audit 193 = .ok (.ifCond .ge 8, 3) := by decide +kernel
theorem dX5_audit_196 : decode cX5_audit 196 = .ok (.bipush (-6), 2) := by decide +kernel
theorem dX5_audit_198 : decode cX5_audit 198 = .ok (.goto 22, 3) := by decide +kernel
theorem dX5_audit_201 : decode cX5_audit 201 = .ok (.iload_n 2, 1) := by decide +kernel
theorem dX5_audit_202 : decode cX5_audit 202 = .ok (.ifCond .ne 12, 3) := by decide +kernel
theorem dX5_audit_205 : decode cX5_audit 205 = .ok (.aload_n 0, 1) := by decide +kernel
theorem dX5_audit_206 : decode cX5_audit 206 = .ok (.getfield 56, 3) := by decide +kernel
theorem dX5_audit_209 : decode cX5_audit 209 = .ok (.iload_n 1, 1) := by decide +kernel
theorem dX5_audit_210 : decode cX5_audit 210 = .ok (.iaload, 1) := by decide +kernel
theorem dX5_audit_211 : decode cX5_audit 211 = .ok (.goto 9, 3) := by decide +kernel
theorem dX5_audit_214 : decode cX5_audit 214 = .ok (.aload_n 0, 1) := by decide +kernel
theorem dX5_audit_215 : decode cX5_audit 215 = .ok (.getfield 59, 3) := by decide +kernel
theorem dX5_audit_218 : decode cX5_audit 218 = .ok (.iload_n 1, 1) := by decide +kernel
theorem dX5_audit_219 : decode cX5_audit 219 = .ok (.iaload, 1) := by decide +kernel
theorem dX5_audit_220 : decode cX5_audit 220 = .ok (.ireturn, 1) := by decide +kernel
theorem dX5_image_0 : decode cX5_image 0 = .ok (.iload_n 1, 1) := by decide +kernel
theorem dX5_image_1 : decode cX5_image 1 = .ok (.iconst 0, 1) := by decide +kernel
theorem dX5_image_2 : decode cX5_image 2 = .ok (.iconst 1, 1) := by decide +kernel
theorem dX5_image_3 : decode cX5_image 3 = .ok (.invokestatic 69, 3) := by decide +kernel
theorem dX5_image_6 : decode cX5_image 6 = .ok (.ifCond .ne 6, 3) := by decide +kernel
theorem dX5_image_9 : decode cX5_image 9 = .ok (.bipush (-2), 2) := by decide +kernel
theorem dX5_image_11 : decode cX5_image 11 = .ok (.ireturn, 1) := by decide +kernel
theorem dX5_image_12 : decode cX5_image 12 = .ok (.bipush 82, 2) := by decide +kernel
theorem dX5_image_14 : decode cX5_image 14 = .ok (.iload_n 1, 1) := by decide +kernel
theorem dX5_image_15 : decode cX5_image 15 = .ok (.imul, 1) := by decide +kernel
theorem dX5_image_16 : decode cX5_image 16 = .ok (.istore_n 2, 1) := by decide +kernel
theorem dX5_image_17 : decode cX5_image 17 = .ok (.iconst 0, 1) := by decide +kernel
theorem dX5_image_18 : decode cX5_image 18 = .ok (.istore_n 3, 1) := by decide +kernel
theorem dX5_image_19 : decode cX5_image 19 = .ok (.iload_n 3, 1) := by decide +kernel
theorem dX5_image_20 : decode cX5_image 20 = .ok (.iconst 5, 1) := by decide +kernel
theorem dX5_image_21 : decode cX5_image 21 = .ok (.if_icmp .ge 73, 3) := by decide +kernel
theorem dX5_image_24 : decode cX5_image 24 = .ok (.aload_n 0, 1) := by decide +kernel
theorem dX5_image_25 : decode cX5_image 25 = .ok (.getfield 62, 3) := by decide +kernel
theorem dX5_image_28 : decode cX5_image 28 = .ok (.iload_n 2, 1) := by decide +kernel
theorem dX5_image_29 : decode cX5_image 29 = .ok (.iload_n 3, 1) := by decide +kernel
theorem dX5_image_30 : decode cX5_image 30 = .ok (.iadd, 1) := by decide +kernel
theorem dX5_image_31 : decode cX5_image 31 = .ok (.aload_n 0, 1) := by decide +kernel
theorem dX5_image_32 : decode cX5_image 32 = .ok (.getfield 13, 3) := by decide +kernel
theorem dX5_image_35 : decode cX5_image 35 = .ok (.iload_n 3, 1) := by decide +kernel
theorem dX5_image_36 : decode cX5_image 36 = .ok (.iaload, 1) := by decide +kernel
theorem dX5_image_37 : decode cX5_image 37 = .ok (.iastore, 1) := by decide +kernel
theorem dX5_image_38 : decode cX5_image 38 = .ok (.aload_n 0, 1) := by decide +kernel
theorem dX5_image_39 : decode cX5_image 39 = .ok (.getfield 62, 3) := by decide +kernel
theorem dX5_image_42 : decode cX5_image 42 = .ok (.iload_n 2, 1) := by decide +kernel
theorem dX5_image_43 : decode cX5_image 43 = .ok (.iconst 5, 1) := by decide +kernel
theorem dX5_image_44 : decode cX5_image 44 = .ok (.iadd, 1) := by decide +kernel
theorem dX5_image_45 : decode cX5_image 45 = .ok (.iload_n 3, 1) := by decide +kernel
theorem dX5_image_46 : decode cX5_image 46 = .ok (.iadd, 1) := by decide +kernel
theorem dX5_image_47 : decode cX5_image 47 = .ok (.aload_n 0, 1) := by decide +kernel
theorem dX5_image_48 : decode cX5_image 48 = .ok (.getfield 16, 3) := by decide +kernel
theorem dX5_image_51 : decode cX5_image 51 = .ok (.iload_n 3, 1) := by decide +kernel
theorem dX5_image_52 : decode cX5_image 52 = .ok (.iaload, 1) := by decide +kernel
theorem dX5_image_53 : decode cX5_image 53 = .ok (.iastore, 1) := by decide +kernel
theorem dX5_image_54 : decode cX5_image 54 = .ok (.aload_n 0, 1) := by decide +kernel
theorem dX5_image_55 : decode cX5_image 55 = .ok (.getfield 62, 3) := by decide +kernel
theorem dX5_image_58 : decode cX5_image 58 = .ok (.iload_n 2, 1) := by decide +kernel
theorem dX5_image_59 : decode cX5_image 59 = .ok (.bipush 10, 2) := by decide +kernel
theorem dX5_image_61 : decode cX5_image 61 = .ok (.iadd, 1) := by decide +kernel
theorem dX5_image_62 : decode cX5_image 62 = .ok (.iload_n 3, 1) := by decide +kernel
theorem dX5_image_63 : decode cX5_image 63 = .ok (.iadd, 1) := by decide +kernel
theorem dX5_image_64 : decode cX5_image 64 = .ok (.aload_n 0, 1) := by decide +kernel
theorem dX5_image_65 : decode cX5_image 65 = .ok (.getfield 19, 3) := by decide +kernel
theorem dX5_image_68 : decode cX5_image 68 = .ok (.iload_n 3, 1) := by decide +kernel
theorem dX5_image_69 : decode cX5_image 69 = .ok (.iaload, 1) := by decide +kernel
theorem dX5_image_70 : decode cX5_image 70 = .ok (.iastore, 1) := by decide +kernel
theorem dX5_image_71 : decode cX5_image 71 = .ok (.aload_n 0, 1) := by decide +kernel
theorem dX5_image_72 : decode cX5_image 72 = .ok (.getfield 62, 3) := by decide +kernel
theorem dX5_image_75 : decode cX5_image 75 = .ok (.iload_n 2, 1) := by decide +kernel
theorem dX5_image_76 : decode cX5_image 76 = .ok (.bipush 15, 2) := by decide +kernel
theorem dX5_image_78 : decode cX5_image 78 = .ok (.iadd, 1) := by decide +kernel
theorem dX5_image_79 : decode cX5_image 79 = .ok (.iload_n 3, 1) := by decide +kernel
theorem dX5_image_80 : decode cX5_image 80 = .ok (.iadd, 1) := by decide +kernel
theorem dX5_image_81 : decode cX5_image 81 = .ok (.aload_n 0, 1) := by decide +kernel
theorem dX5_image_82 : decode cX5_image 82 = .ok (.getfield 22, 3) := by decide +kernel
theorem dX5_image_85 : decode cX5_image 85 = .ok (.iload_n 3, 1) := by decide +kernel
theorem dX5_image_86 : decode cX5_image 86 = .ok (.iaload, 1) := by decide +kernel
theorem dX5_image_87 : decode cX5_image 87 = .ok (.iastore, 1) := by decide +kernel
theorem dX5_image_88 : decode cX5_image 88 = .ok (.iinc 3 1, 3) := by decide +kernel
theorem dX5_image_91 : decode cX5_image 91 = .ok (.goto (-72), 3) := by decide +kernel
theorem dX5_image_94 : decode cX5_image 94 = .ok (.iconst 0, 1) := by decide +kernel
theorem dX5_image_95 : decode cX5_image 95 = .ok (.istore_n 3, 1) := by decide +kernel
theorem dX5_image_96 : decode cX5_image 96 = .ok (.iload_n 3, 1) := by decide +kernel
theorem dX5_image_97 : decode cX5_image 97 = .ok (.bipush 24, 2) := by decide +kernel
theorem dX5_image_99 : decode cX5_image 99 = .ok (.if_icmp .ge 26, 3) := by decide +kernel
theorem dX5_image_102 : decode cX5_image 102 = .ok (.aload_n 0, 1) := by decide +kernel
theorem dX5_image_103 : decode cX5_image 103 = .ok (.getfield 62, 3) := by decide +kernel
theorem dX5_image_106 : decode cX5_image 106 = .ok (.iload_n 2, 1) := by decide +kernel
theorem dX5_image_107 : decode cX5_image 107 = .ok (.bipush 20, 2) := by decide +kernel
theorem dX5_image_109 : decode cX5_image 109 = .ok (.iadd, 1) := by decide +kernel
theorem dX5_image_110 : decode cX5_image 110 = .ok (.iload_n 3, 1) := by decide +kernel
theorem dX5_image_111 : decode cX5_image 111 = .ok (.iadd, 1) := by decide +kernel
theorem dX5_image_112 : decode cX5_image 112 = .ok (.aload_n 0, 1) := by decide +kernel
theorem dX5_image_113 : decode cX5_image 113 = .ok (.getfield 25, 3) := by decide +kernel
theorem dX5_image_116 : decode cX5_image 116 = .ok (.iload_n 3, 1) := by decide +kernel
theorem dX5_image_117 : decode cX5_image 117 = .ok (.iaload, 1) := by decide +kernel
theorem dX5_image_118 : decode cX5_image 118 = .ok (.iastore, 1) := by decide +kernel
theorem dX5_image_119 : decode cX5_image 119 = .ok (.iinc 3 1, 3) := by decide +kernel
theorem dX5_image_122 : decode cX5_image 122 = .ok (.goto (-26), 3) := by decide +kernel
theorem dX5_image_125 : decode cX5_image 125 = .ok (.iconst 0, 1) := by decide +kernel
theorem dX5_image_126 : decode cX5_image 126 = .ok (.istore_n 3, 1) := by decide +kernel
theorem dX5_image_127 : decode cX5_image 127 = .ok (.iload_n 3, 1) := by decide +kernel
theorem dX5_image_128 : decode cX5_image 128 = .ok (.bipush 36, 2) := by decide +kernel
theorem dX5_image_130 : decode cX5_image 130 = .ok (.if_icmp .ge 26, 3) := by decide +kernel
theorem dX5_image_133 : decode cX5_image 133 = .ok (.aload_n 0, 1) := by decide +kernel
theorem dX5_image_134 : decode cX5_image 134 = .ok (.getfield 62, 3) := by decide +kernel
theorem dX5_image_137 : decode cX5_image 137 = .ok (.iload_n 2, 1) := by decide +kernel
theorem dX5_image_138 : decode cX5_image 138 = .ok (.bipush 44, 2) := by decide +kernel
theorem dX5_image_140 : decode cX5_image 140 = .ok (.iadd, 1) := by decide +kernel
theorem dX5_image_141 : decode cX5_image 141 = .ok (.iload_n 3, 1) := by decide +kernel
theorem dX5_image_142 : decode cX5_image 142 = .ok (.iadd, 1) := by decide +kernel
theorem dX5_image_143 : decode cX5_image 143 = .ok (.aload_n 0, 1) := by decide +kernel
theorem dX5_image_144 : decode cX5_image 144 = .ok (.getfield 28, 3) := by decide +kernel
theorem dX5_image_147 : decode cX5_image 147 = .ok (.iload_n 3, 1) := by decide +kernel
theorem dX5_image_148 : decode cX5_image 148 = .ok (.iaload, 1) := by decide +kernel
theorem dX5_image_149 : decode cX5_image 149 = .ok (.iastore, 1) := by decide +kernel
theorem dX5_image_150 : decode cX5_image 150 = .ok (.iinc 3 1, 3) := by decide +kernel
theorem dX5_image_153 : decode cX5_image 153 = .ok (.goto (-26), 3) := by decide +kernel
theorem dX5_image_156 : decode cX5_image 156 = .ok (.aload_n 0, 1) := by decide +kernel
theorem dX5_image_157 : decode cX5_image 157 = .ok (.getfield 62, 3) := by decide +kernel
theorem dX5_image_160 : decode cX5_image 160 = .ok (.iload_n 2, 1) := by decide +kernel
theorem dX5_image_161 : decode cX5_image 161 = .ok (.bipush 80, 2) := by decide +kernel
theorem dX5_image_163 : decode cX5_image 163 = .ok (.iadd, 1) := by decide +kernel
theorem dX5_image_164 : decode cX5_image 164 = .ok (.aload_n 0, 1) := by decide +kernel
theorem dX5_image_165 : decode cX5_image 165 = .ok (.getfield 31, 3) := by decide +kernel
theorem dX5_image_168 : decode cX5_image 168 = .ok (.iastore, 1) := by decide +kernel
theorem dX5_image_169 : decode cX5_image 169 = .ok (.aload_n 0, 1) := by decide +kernel
theorem dX5_image_170 : decode cX5_image 170 = .ok (.getfield 62, 3) := by decide +kernel
theorem dX5_image_173 : decode cX5_image 173 = .ok (.iload_n 2, 1) := by decide +kernel
theorem dX5_image_174 : decode cX5_image 174 = .ok (.bipush 81, 2) := by decide +kernel
theorem dX5_image_176 : decode cX5_image 176 = .ok (.iadd, 1) := by decide +kernel
theorem dX5_image_177 : decode cX5_image 177 = .ok (.aload_n 0, 1) := by decide +kernel
theorem dX5_image_178 : decode cX5_image 178 = .ok (.getfield 35, 3) := by decide +kernel
theorem dX5_image_181 : decode cX5_image 181 = .ok (.iastore, 1) := by decide +kernel
theorem dX5_image_182 : decode cX5_image 182 = .ok (.aload_n 0, 1) := by decide +kernel
theorem dX5_image_183 : decode cX5_image 183 = .ok (.getfield 65, 3) := by decide +kernel
theorem dX5_image_186 : decode cX5_image 186 = .ok (.iload_n 1, 1) := by decide +kernel
theorem dX5_image_187 : decode cX5_image 187 = .ok (.iconst 1, 1) := by decide +kernel
theorem dX5_image_188 : decode cX5_image 188 = .ok (.bastore, 1) := by decide +kernel
theorem dX5_image_189 : decode cX5_image 189 = .ok (.iconst 1, 1) := by decide +kernel
theorem dX5_image_190 : decode cX5_image 190 = .ok (.ireturn, 1) := by decide +kernel
theorem dX5_restore_0 : decode cX5_restore 0 = .ok (.iload_n 1, 1) := by decide +kernel
theorem dX5_restore_1 : decode cX5_restore 1 = .ok (.iconst 0, 1) := by decide +kernel
theorem dX5_restore_2 : decode cX5_restore 2 = .ok (.iconst 1, 1) := by decide +kernel
theorem dX5_restore_3 : decode cX5_restore 3 = .ok (.invokestatic 69, 3) := by decide +kernel
theorem dX5_restore_6 : decode cX5_restore 6 = .ok (.ifCond .ne 6, 3) := by decide +kernel
theorem dX5_restore_9 : decode cX5_restore 9 = .ok (.bipush (-2), 2) := by decide +kernel
theorem dX5_restore_11 : decode cX5_restore 11 = .ok (.ireturn, 1) := by decide +kernel
theorem dX5_restore_12 : decode cX5_restore 12 = .ok (.aload_n 0, 1) := by decide +kernel
theorem dX5_restore_13 : decode cX5_restore 13 = .ok (.getfield 65, 3) := by decide +kernel
theorem dX5_restore_16 : decode cX5_restore 16 = .ok (.iload_n 1, 1) := by decide +kernel
theorem dX5_restore_17 : decode cX5_restore 17 = .ok (.baload, 1) := by decide +kernel
theorem dX5_restore_18 : decode cX5_restore 18 = .ok (.ifCond .ne 6, 3) := by decide +kernel
theorem dX5_restore_21 : decode cX5_restore 21 = .ok (.bipush (-3), 2) := by decide +kernel
theorem dX5_restore_23 : decode cX5_restore 23 = .ok (.ireturn, 1) := by decide +kernel
theorem dX5_restore_24 : decode cX5_restore 24 = .ok (.bipush 82, 2) := by decide +kernel
theorem dX5_restore_26 : decode cX5_restore 26 = .ok (.iload_n 1, 1) := by decide +kernel
theorem dX5_restore_27 : decode cX5_restore 27 = .ok (.imul, 1) := by decide +kernel
theorem dX5_restore_28 : decode cX5_restore 28 = .ok (.istore_n 2, 1) := by decide +kernel
theorem dX5_restore_29 : decode cX5_restore 29 = .ok (.iconst 0, 1) := by decide +kernel
theorem dX5_restore_30 : decode cX5_restore 30 = .ok (.istore_n 3, 1) := by decide +kernel
theorem dX5_restore_31 : decode cX5_restore 31 = .ok (.iload_n 3, 1) := by decide +kernel
theorem dX5_restore_32 : decode cX5_restore 32 = .ok (.iconst 5, 1) := by decide +kernel
theorem dX5_restore_33 : decode cX5_restore 33 = .ok (.if_icmp .ge 73, 3) := by decide +kernel
theorem dX5_restore_36 : decode cX5_restore 36 = .ok (.aload_n 0, 1) := by decide +kernel
theorem dX5_restore_37 : decode cX5_restore 37 = .ok (.getfield 13, 3) := by decide +kernel
theorem dX5_restore_40 : decode cX5_restore 40 = .ok (.iload_n 3, 1) := by decide +kernel
theorem dX5_restore_41 : decode cX5_restore 41 = .ok (.aload_n 0, 1) := by decide +kernel
theorem dX5_restore_42 : decode cX5_restore 42 = .ok (.getfield 62, 3) := by decide +kernel
theorem dX5_restore_45 : decode cX5_restore 45 = .ok (.iload_n 2, 1) := by decide +kernel
theorem dX5_restore_46 : decode cX5_restore 46 = .ok (.iload_n 3, 1) := by decide +kernel
theorem dX5_restore_47 : decode cX5_restore 47 = .ok (.iadd, 1) := by decide +kernel
theorem dX5_restore_48 : decode cX5_restore 48 = .ok (.iaload, 1) := by decide +kernel
theorem dX5_restore_49 : decode cX5_restore 49 = .ok (.iastore, 1) := by decide +kernel
theorem dX5_restore_50 : decode cX5_restore 50 = .ok (.aload_n 0, 1) := by decide +kernel
theorem dX5_restore_51 : decode cX5_restore 51 = .ok (.getfield 16, 3) := by decide +kernel
theorem dX5_restore_54 : decode cX5_restore 54 = .ok (.iload_n 3, 1) := by decide +kernel
theorem dX5_restore_55 : decode cX5_restore 55 = .ok (.aload_n 0, 1) := by decide +kernel
theorem dX5_restore_56 : decode cX5_restore 56 = .ok (.getfield 62, 3) := by decide +kernel
theorem dX5_restore_59 : decode cX5_restore 59 = .ok (.iload_n 2, 1) := by decide +kernel
theorem dX5_restore_60 : decode cX5_restore 60 = .ok (.iconst 5, 1) := by decide +kernel
theorem dX5_restore_61 : decode cX5_restore 61 = .ok (.iadd, 1) := by decide +kernel
theorem dX5_restore_62 : decode cX5_restore 62 = .ok (.iload_n 3, 1) := by decide +kernel
theorem dX5_restore_63 : decode cX5_restore 63 = .ok (.iadd, 1) := by decide +kernel
theorem dX5_restore_64 : decode cX5_restore 64 = .ok (.iaload, 1) := by decide +kernel
theorem dX5_restore_65 : decode cX5_restore 65 = .ok (.iastore, 1) := by decide +kernel
theorem dX5_restore_66 : decode cX5_restore 66 = .ok (.aload_n 0, 1) := by decide +kernel
theorem dX5_restore_67 : decode cX5_restore 67 = .ok (.getfield 19, 3) := by decide +kernel
theorem dX5_restore_70 : decode cX5_restore 70 = .ok (.iload_n 3, 1) := by decide +kernel
theorem dX5_restore_71 : decode cX5_restore 71 = .ok (.aload_n 0, 1) := by decide +kernel
theorem dX5_restore_72 : decode cX5_restore 72 = .ok (.getfield 62, 3) := by decide +kernel
theorem dX5_restore_75 : decode cX5_restore 75 = .ok (.iload_n 2, 1) := by decide +kernel
theorem dX5_restore_76 : decode cX5_restore 76 = .ok (.bipush 10, 2) := by decide +kernel
theorem dX5_restore_78 : decode cX5_restore 78 = .ok (.iadd, 1) := by decide +kernel
theorem dX5_restore_79 : decode cX5_restore 79 = .ok (.iload_n 3, 1) := by decide +kernel
theorem dX5_restore_80 : decode cX5_restore 80 = .ok (.iadd, 1) := by decide +kernel
theorem dX5_restore_81 : decode cX5_restore 81 = .ok (.iaload, 1) := by decide +kernel
theorem dX5_restore_82 : decode cX5_restore 82 = .ok (.iastore, 1) := by decide +kernel
theorem dX5_restore_83 : decode cX5_restore 83 = .ok (.aload_n 0, 1) := by decide +kernel
theorem dX5_restore_84 : decode cX5_restore 84 = .ok (.getfield 22, 3) := by decide +kernel
theorem dX5_restore_87 : decode cX5_restore 87 = .ok (.iload_n 3, 1) := by decide +kernel
theorem dX5_restore_88 : decode cX5_restore 88 = .ok (.aload_n 0, 1) := by decide +kernel
theorem dX5_restore_89 : decode cX5_restore 89 = .ok (.getfield 62, 3) := by decide +kernel
theorem dX5_restore_92 : decode cX5_restore 92 = .ok (.iload_n 2, 1) := by decide +kernel
theorem dX5_restore_93 : decode cX5_restore 93 = .ok (.bipush 15, 2) := by decide +kernel
theorem dX5_restore_95 : decode cX5_restore 95 = .ok (.iadd, 1) := by decide +kernel
theorem dX5_restore_96 : decode cX5_restore 96 = .ok (.iload_n 3, 1) := by decide +kernel
theorem dX5_restore_97 : decode cX5_restore 97 = .ok (.iadd, 1) := by decide +kernel
theorem dX5_restore_98 : decode cX5_restore 98 = .ok (.iaload, 1) := by decide +kernel
theorem dX5_restore_99 : decode cX5_restore 99 = .ok (.iastore, 1) := by decide +kernel
theorem dX5_restore_100 : decode cX5_restore 100 = .ok (.iinc 3 1, 3) := by decide +kernel
theorem dX5_restore_103 : decode cX5_restore 103 = .ok (.goto (-72), 3) := by decide +kernel
theorem dX5_restore_106 : decode cX5_restore 106 = .ok (.iconst 0, 1) := by decide +kernel
theorem dX5_restore_107 : decode cX5_restore 107 = .ok (.istore_n 3, 1) := by decide +kernel
theorem dX5_restore_108 : decode cX5_restore 108 = .ok (.iload_n 3, 1) := by decide +kernel
theorem dX5_restore_109 : decode cX5_restore 109 = .ok (.bipush 24, 2) := by decide +kernel
theorem dX5_restore_111 : decode cX5_restore 111 = .ok (.if_icmp .ge 26, 3) := by decide +kernel
theorem dX5_restore_114 : decode cX5_restore 114 = .ok (.aload_n 0, 1) := by decide +kernel
theorem dX5_restore_115 : decode cX5_restore 115 = .ok (.getfield 25, 3) := by decide +kernel
theorem dX5_restore_118 : decode cX5_restore 118 = .ok (.iload_n 3, 1) := by decide +kernel
theorem dX5_restore_119 : decode cX5_restore 119 = .ok (.aload_n 0, 1) := by decide +kernel
theorem dX5_restore_120 : decode cX5_restore 120 = .ok (.getfield 62, 3) := by decide +kernel
theorem dX5_restore_123 : decode cX5_restore 123 = .ok (.iload_n 2, 1) := by decide +kernel
theorem dX5_restore_124 : decode cX5_restore 124 = .ok (.bipush 20, 2) := by decide +kernel
theorem dX5_restore_126 : decode cX5_restore 126 = .ok (.iadd, 1) := by decide +kernel
theorem dX5_restore_127 : decode cX5_restore 127 = .ok (.iload_n 3, 1) := by decide +kernel
theorem dX5_restore_128 : decode cX5_restore 128 = .ok (.iadd, 1) := by decide +kernel
theorem dX5_restore_129 : decode cX5_restore 129 = .ok (.iaload, 1) := by decide +kernel
theorem dX5_restore_130 : decode cX5_restore 130 = .ok (.iastore, 1) := by decide +kernel
theorem dX5_restore_131 : decode cX5_restore 131 = .ok (.iinc 3 1, 3) := by decide +kernel
theorem dX5_restore_134 : decode cX5_restore 134 = .ok (.goto (-26), 3) := by decide +kernel
theorem dX5_restore_137 : decode cX5_restore 137 = .ok (.iconst 0, 1) := by decide +kernel
theorem dX5_restore_138 : decode cX5_restore 138 = .ok (.istore_n 3, 1) := by decide +kernel
theorem dX5_restore_139 : decode cX5_restore 139 = .ok (.iload_n 3, 1) := by decide +kernel
theorem dX5_restore_140 : decode cX5_restore 140 = .ok (.bipush 36, 2) := by decide +kernel
theorem dX5_restore_142 : decode cX5_restore 142 = .ok (.if_icmp .ge 26, 3) := by decide +kernel
theorem dX5_restore_145 : decode cX5_restore 145 = .ok (.aload_n 0, 1) := by decide +kernel
theorem dX5_restore_146 : decode cX5_restore 146 = .ok (.getfield 28, 3) := by decide +kernel
theorem dX5_restore_149 : decode cX5_restore 149 = .ok (.iload_n 3, 1) := by decide +kernel
theorem dX5_restore_150 : decode cX5_restore 150 = .ok (.aload_n 0, 1) := by decide +kernel
theorem dX5_restore_151 : decode cX5_restore 151 = .ok (.getfield 62, 3) := by decide +kernel
theorem dX5_restore_154 : decode cX5_restore 154 = .ok (.iload_n 2, 1) := by decide +kernel
theorem dX5_restore_155 : decode cX5_restore 155 = .ok (.bipush 44, 2) := by decide +kernel
theorem dX5_restore_157 : decode cX5_restore 157 = .ok (.iadd, 1) := by decide +kernel
theorem dX5_restore_158 : decode cX5_restore 158 = .ok (.iload_n 3, 1) := by decide +kernel
theorem dX5_restore_159 : decode cX5_restore 159 = .ok (.iadd, 1) := by decide +kernel
theorem dX5_restore_160 : decode cX5_restore 160 = .ok (.iaload, 1) := by decide +kernel
theorem dX5_restore_161 : decode cX5_restore 161 = .ok (.iastore, 1) := by decide +kernel
theorem dX5_restore_162 : decode cX5_restore 162 = .ok (.iinc 3 1, 3) := by decide +kernel
theorem dX5_restore_165 : decode cX5_restore 165 = .ok (.goto (-26), 3) := by decide +kernel
theorem dX5_restore_168 : decode cX5_restore 168 = .ok (.aload_n 0, 1) := by decide +kernel
theorem dX5_restore_169 : decode cX5_restore 169 = .ok (.aload_n 0, 1) := by decide +kernel
theorem dX5_restore_170 : decode cX5_restore 170 = .ok (.getfield 62, 3) := by decide +kernel
theorem dX5_restore_173 : decode cX5_restore 173 = .ok (.iload_n 2, 1) := by decide +kernel
theorem dX5_restore_174 : decode cX5_restore 174 = .ok (.bipush 80, 2) := by decide +kernel
theorem dX5_restore_176 : decode cX5_restore 176 = .ok (.iadd, 1) := by decide +kernel
theorem dX5_restore_177 : decode cX5_restore 177 = .ok (.iaload, 1) := by decide +kernel
theorem dX5_restore_178 : decode cX5_restore 178 = .ok (.putfield 31, 3) := by decide +kernel
theorem dX5_restore_181 : decode cX5_restore 181 = .ok (.aload_n 0, 1) := by decide +kernel
theorem dX5_restore_182 : decode cX5_restore 182 = .ok (.aload_n 0, 1) := by decide +kernel
theorem dX5_restore_183 : decode cX5_restore 183 = .ok (.getfield 62, 3) := by decide +kernel
theorem dX5_restore_186 : decode cX5_restore 186 = .ok (.iload_n 2, 1) := by decide +kernel
theorem dX5_restore_187 : decode cX5_restore 187 = .ok (.bipush 81, 2) := by decide +kernel
theorem dX5_restore_189 : decode cX5_restore 189 = .ok (.iadd, 1) := by decide +kernel
theorem dX5_restore_190 : decode cX5_restore 190 = .ok (.iaload, 1) := by decide +kernel
theorem dX5_restore_191 : decode cX5_restore 191 = .ok (.putfield 35, 3) := by decide +kernel
theorem dX5_restore_194 : decode cX5_restore 194 = .ok (.iconst 1, 1) := by decide +kernel
theorem dX5_restore_195 : decode cX5_restore 195 = .ok (.ireturn, 1) := by decide +kernel
theorem dX5_told_0 : decode cX5_told 0 = .ok (.iload_n 1, 1) := by decide +kernel
theorem dX5_told_1 : decode cX5_told 1 = .ok (.bipush 10, 2) := by decide +kernel
theorem dX5_told_3 : decode cX5_told 3 = .ok (.irem, 1) := by decide +kernel
theorem dX5_told_4 : decode cX5_told 4 = .ok (.istore_n 2, 1) := by decide +kernel
theorem dX5_told_5 : decode cX5_told 5 = .ok (.iload_n 1, 1) := by decide +kernel
theorem dX5_told_6 : decode cX5_told 6 = .ok (.bipush 10, 2) := by decide +kernel
theorem dX5_told_8 : decode cX5_told 8 = .ok (.bipush 15, 2) := by decide +kernel
theorem dX5_told_10 : decode cX5_told 10 = .ok (.invokestatic 69, 3) := by decide +kernel
theorem dX5_told_13 : decode cX5_told 13 = .ok (.ifCond .eq 12, 3) := by decide +kernel
theorem dX5_told_16 : decode cX5_told 16 = .ok (.aload_n 0, 1) := by decide +kernel
theorem dX5_told_17 : decode cX5_told 17 = .ok (.getfield 25, 3) := by decide +kernel
theorem dX5_told_20 : decode cX5_told 20 = .ok (.iconst 4, 1) := by decide +kernel
theorem dX5_told_21 : decode cX5_told 21 = .ok (.iload_n 2, 1) := by decide +kernel
theorem dX5_told_22 : decode cX5_told 22 = .ok (.imul, 1) := by decide +kernel
theorem dX5_told_23 : decode cX5_told 23 = .ok (.iaload, 1) := by decide +kernel
theorem dX5_told_24 : decode cX5_told 24 = .ok (.ireturn, 1) := by decide +kernel
theorem dX5_told_25 : decode cX5_told 25 = .ok (.iload_n 1, 1) := by decide +kernel
theorem dX5_told_26 : decode cX5_told 26 = .ok (.bipush 20, 2) := by decide +kernel
theorem dX5_told_28 : decode cX5_told 28 = .ok (.bipush 25, 2) := by decide +kernel
theorem dX5_told_30 : decode cX5_told 30 = .ok (.invokestatic 69, 3) := by decide +kernel
theorem dX5_told_33 : decode cX5_told 33 = .ok (.ifCond .eq 14, 3) := by decide +kernel
theorem dX5_told_36 : decode cX5_told 36 = .ok (.aload_n 0, 1) := by decide +kernel
theorem dX5_told_37 : decode cX5_told 37 = .ok (.getfield 25, 3) := by decide +kernel
theorem dX5_told_40 : decode cX5_told 40 = .ok (.iconst 4, 1) := by decide +kernel
theorem dX5_told_41 : decode cX5_told 41 = .ok (.iload_n 2, 1) := by decide +kernel
theorem dX5_told_42 : decode cX5_told 42 = .ok (.imul, 1) := by decide +kernel
theorem dX5_told_43 : decode cX5_told 43 = .ok (.iconst 2, 1) := by decide +kernel
theorem dX5_told_44 : decode cX5_told 44 = .ok (.iadd, 1) := by decide +kernel
theorem dX5_told_45 : decode cX5_told 45 = .ok (.iaload, 1) := by decide +kernel
theorem dX5_told_46 : decode cX5_told 46 = .ok (.ireturn, 1) := by decide +kernel
theorem dX5_told_47 : decode cX5_told 47 = .ok (.iload_n 1, 1) := by decide +kernel
theorem dX5_told_48 : decode cX5_told 48 = .ok (.bipush 30, 2) := by decide +kernel
theorem dX5_told_50 : decode cX5_told 50 = .ok (.bipush 35, 2) := by decide +kernel
theorem dX5_told_52 : decode cX5_told 52 = .ok (.invokestatic 69, 3) := by decide +kernel
theorem dX5_told_55 : decode cX5_told 55 = .ok (.ifCond .eq 14, 3) := by decide +kernel
theorem dX5_told_58 : decode cX5_told 58 = .ok (.aload_n 0, 1) := by decide +kernel
theorem dX5_told_59 : decode cX5_told 59 = .ok (.getfield 25, 3) := by decide +kernel
theorem dX5_told_62 : decode cX5_told 62 = .ok (.iconst 4, 1) := by decide +kernel
theorem dX5_told_63 : decode cX5_told 63 = .ok (.iload_n 2, 1) := by decide +kernel
theorem dX5_told_64 : decode cX5_told 64 = .ok (.imul, 1) := by decide +kernel
theorem dX5_told_65 : decode cX5_told 65 = .ok (.iconst 3, 1) := by decide +kernel
theorem dX5_told_66 : decode cX5_told 66 = .ok (.iadd, 1) := by decide +kernel
theorem dX5_told_67 : decode cX5_told 67 = .ok (.iaload, 1) := by decide +kernel
theorem dX5_told_68 : decode cX5_told 68 = .ok (.ireturn, 1) := by decide +kernel
theorem dX5_told_69 : decode cX5_told 69 = .ok (.iload_n 1, 1) := by decide +kernel
theorem dX5_told_70 : decode cX5_told 70 = .ok (.bipush 40, 2) := by decide +kernel
theorem dX5_told_72 : decode cX5_told 72 = .ok (.bipush 45, 2) := by decide +kernel
theorem dX5_told_74 : decode cX5_told 74 = .ok (.invokestatic 69, 3) := by decide +kernel
theorem dX5_told_77 : decode cX5_told 77 = .ok (.ifCond .eq 14, 3) := by decide +kernel
theorem dX5_told_80 : decode cX5_told 80 = .ok (.aload_n 0, 1) := by decide +kernel
theorem dX5_told_81 : decode cX5_told 81 = .ok (.getfield 25, 3) := by decide +kernel
theorem dX5_told_84 : decode cX5_told 84 = .ok (.iconst 4, 1) := by decide +kernel
theorem dX5_told_85 : decode cX5_told 85 = .ok (.iload_n 2, 1) := by decide +kernel
theorem dX5_told_86 : decode cX5_told 86 = .ok (.imul, 1) := by decide +kernel
theorem dX5_told_87 : decode cX5_told 87 = .ok (.iconst 1, 1) := by decide +kernel
theorem dX5_told_88 : decode cX5_told 88 = .ok (.iadd, 1) := by decide +kernel
theorem dX5_told_89 : decode cX5_told 89 = .ok (.iaload, 1) := by decide +kernel
theorem dX5_told_90 : decode cX5_told 90 = .ok (.ireturn, 1) := by decide +kernel
theorem dX5_told_91 : decode cX5_told 91 = .ok (.iload_n 1, 1) := by decide +kernel
theorem dX5_told_92 : decode cX5_told 92 = .ok (.bipush 100, 2) := by decide +kernel
theorem dX5_told_94 : decode cX5_told 94 = .ok (.sipush 145, 3) := by decide +kernel
theorem dX5_told_97 : decode cX5_told 97 = .ok (.invokestatic 69, 3) := by decide +kernel
theorem dX5_told_100 : decode cX5_told 100 = .ok (.ifCond .eq 39, 3) := by decide +kernel
theorem dX5_told_103 : decode cX5_told 103 = .ok (.iload_n 1, 1) := by decide +kernel
theorem dX5_told_104 : decode cX5_told 104 = .ok (.bipush 100, 2) := by decide +kernel
theorem dX5_told_106 : decode cX5_told 106 = .ok (.isub, 1) := by decide +kernel
theorem dX5_told_107 : decode cX5_told 107 = .ok (.bipush 8, 2) := by decide +kernel
theorem dX5_told_109 : decode cX5_told 109 = .ok (.irem, 1) := by decide +kernel
theorem dX5_told_110 : decode cX5_told 110 = .ok (.bipush 6, 2) := by decide +kernel
theorem dX5_told_112 : decode cX5_told 112 = .ok (.if_icmp .ge 27, 3) := by decide +kernel
theorem dX5_told_115 : decode cX5_told 115 = .ok (.aload_n 0, 1) := by decide +kernel
theorem dX5_told_116 : decode cX5_told 116 = .ok (.getfield 28, 3) := by decide +kernel
theorem dX5_told_119 : decode cX5_told 119 = .ok (.bipush 6, 2) := by decide +kernel
theorem dX5_told_121 : decode cX5_told 121 = .ok (.iload_n 1, 1) := by decide +kernel
theorem dX5_told_122 : decode cX5_told 122 = .ok (.bipush 100, 2) := by decide +kernel
theorem dX5_told_124 : decode cX5_told 124 = .ok (.isub, 1) := by decide +kernel
theorem dX5_told_125 : decode cX5_told 125 = .ok (.bipush 8, 2) := by decide +kernel
theorem dX5_told_127 : decode cX5_told 127 = .ok (.idiv, 1) := by decide +kernel
theorem dX5_told_128 : decode cX5_told 128 = .ok (.imul, 1) := by decide +kernel
theorem dX5_told_129 : decode cX5_told 129 = .ok (.iload_n 1, 1) := by decide +kernel
theorem dX5_told_130 : decode cX5_told 130 = .ok (.bipush 100, 2) := by decide +kernel
theorem dX5_told_132 : decode cX5_told 132 = .ok (.isub, 1) := by decide +kernel
theorem dX5_told_133 : decode cX5_told 133 = .ok (.bipush 8, 2) := by decide +kernel
theorem dX5_told_135 : decode cX5_told 135 = .ok (.irem, 1) := by decide +kernel
theorem dX5_told_136 : decode cX5_told 136 = .ok (.iadd, 1) := by decide +kernel
theorem dX5_told_137 : decode cX5_told 137 = .ok (.iaload, 1) := by decide +kernel
theorem dX5_told_138 : decode cX5_told 138 = .ok (.ireturn, 1) := by decide +kernel
theorem dX5_told_139 : decode cX5_told 139 = .ok (.iload_n 1, 1) := by decide +kernel
theorem dX5_told_140 : decode cX5_told 140 = .ok (.ifCond .ne 10, 3) := by decide +kernel
theorem dX5_told_143 : decode cX5_told 143 = .ok (.aload_n 0, 1) := by decide +kernel
theorem dX5_told_144 : decode cX5_told 144 = .ok (.getfield 73, 3) := by decide +kernel
theorem dX5_told_147 : decode cX5_told 147 = .ok (.goto 29, 3) := by decide +kernel
theorem dX5_told_150 : decode cX5_told 150 = .ok (.iload_n 1, 1) := by decide +kernel
theorem dX5_told_151 : decode cX5_told 151 = .ok (.iconst 1, 1) := by decide +kernel
theorem dX5_told_152 : decode cX5_told 152 = .ok (.if_icmp .ne 10, 3) := by decide +kernel
theorem dX5_told_155 : decode cX5_told 155 = .ok (.aload_n 0, 1) := by decide +kernel
theorem dX5_told_156 : decode cX5_told 156 = .ok (.getfield 31, 3) := by decide +kernel
theorem dX5_told_159 : decode cX5_told 159 = .ok (.goto 17, 3) := by decide +kernel
theorem dX5_told_162 : decode cX5_told 162 = .ok (.iload_n 1, 1) := by decide +kernel
theorem dX5_told_163 : decode cX5_told 163 = .ok (.iconst 2, 1) := by decide +kernel
theorem dX5_told_164 : decode cX5_told 164 = .ok (.if_icmp .ne 10, 3) := by decide +kernel
theorem dX5_told_167 : decode cX5_told 167 = .ok (.aload_n 0, 1) := by decide +kernel
theorem dX5_told_168 : decode cX5_told 168 = .ok (.getfield 35, 3) := by decide +kernel
theorem dX5_told_171 : decode cX5_told 171 = .ok (.goto 5, 3) := by decide +kernel
theorem dX5_told_174 : decode cX5_told 174 = .ok (.bipush (-2), 2) := by decide +kernel
theorem dX5_told_176 : decode cX5_told 176 = .ok (.ireturn, 1) := by decide +kernel
theorem dJ6_bitCount_0f7a4_0 : decode cJ6_bitCount_0f7a4 0 = .ok (.iload_n 0, 1) := by decide +kernel
theorem dJ6_bitCount_0f7a4_1 : decode cJ6_bitCount_0f7a4 1 = .ok (.iload_n 0, 1) := by decide +kernel
theorem dJ6_bitCount_0f7a4_2 : decode cJ6_bitCount_0f7a4 2 = .ok (.iconst 1, 1) := by decide +kernel
theorem dJ6_bitCount_0f7a4_3 : decode cJ6_bitCount_0f7a4 3 = .ok (.iushr, 1) := by decide +kernel
theorem dJ6_bitCount_0f7a4_4 : decode cJ6_bitCount_0f7a4 4 = .ok (.ldc_w 265, 3) := by decide +kernel
theorem dJ6_bitCount_0f7a4_7 : decode cJ6_bitCount_0f7a4 7 = .ok (.iand, 1) := by decide +kernel
theorem dJ6_bitCount_0f7a4_8 : decode cJ6_bitCount_0f7a4 8 = .ok (.isub, 1) := by decide +kernel
theorem dJ6_bitCount_0f7a4_9 : decode cJ6_bitCount_0f7a4 9 = .ok (.istore_n 0, 1) := by decide +kernel
theorem dJ6_bitCount_0f7a4_10 : decode cJ6_bitCount_0f7a4 10 = .ok (.iload_n 0, 1) := by decide +kernel
theorem dJ6_bitCount_0f7a4_11 : decode cJ6_bitCount_0f7a4 11 = .ok (.ldc_w 266, 3) := by decide +kernel
theorem dJ6_bitCount_0f7a4_14 : decode cJ6_bitCount_0f7a4 14 = .ok (.iand, 1) := by decide +kernel
theorem dJ6_bitCount_0f7a4_15 : decode cJ6_bitCount_0f7a4 15 = .ok (.iload_n 0, 1) := by decide +kernel
theorem dJ6_bitCount_0f7a4_16 : decode cJ6_bitCount_0f7a4 16 = .ok (.iconst 2, 1) := by decide +kernel
theorem dJ6_bitCount_0f7a4_17 : decode cJ6_bitCount_0f7a4 17 = .ok (.iushr, 1) := by decide +kernel
theorem dJ6_bitCount_0f7a4_18 : decode cJ6_bitCount_0f7a4 18 = .ok (.ldc_w 266, 3) := by decide +kernel
theorem dJ6_bitCount_0f7a4_21 : decode cJ6_bitCount_0f7a4 21 = .ok (.iand, 1) := by decide +kernel
theorem dJ6_bitCount_0f7a4_22 : decode cJ6_bitCount_0f7a4 22 = .ok (.iadd, 1) := by decide +kernel
theorem dJ6_bitCount_0f7a4_23 : decode cJ6_bitCount_0f7a4 23 = .ok (.istore_n 0, 1) := by decide +kernel
theorem dJ6_bitCount_0f7a4_24 : decode cJ6_bitCount_0f7a4 24 = .ok (.iload_n 0, 1) := by decide +kernel
theorem dJ6_bitCount_0f7a4_25 : decode cJ6_bitCount_0f7a4 25 = .ok (.iload_n 0, 1) := by decide +kernel
theorem dJ6_bitCount_0f7a4_26 : decode cJ6_bitCount_0f7a4 26 = .ok (.iconst 4, 1) := by decide +kernel
theorem dJ6_bitCount_0f7a4_27 : decode cJ6_bitCount_0f7a4 27 = .ok (.iushr, 1) := by decide +kernel
theorem dJ6_bitCount_0f7a4_28 : decode cJ6_bitCount_0f7a4 28 = .ok (.iadd, 1) := by decide +kernel
theorem dJ6_bitCount_0f7a4_29 : decode cJ6_bitCount_0f7a4 29 = .ok (.ldc_w 267, 3) := by decide +kernel
theorem dJ6_bitCount_0f7a4_32 : decode cJ6_bitCount_0f7a4 32 = .ok (.iand, 1) := by decide +kernel
theorem dJ6_bitCount_0f7a4_33 : decode cJ6_bitCount_0f7a4 33 = .ok (.istore_n 0, 1) := by decide +kernel
theorem dJ6_bitCount_0f7a4_34 : decode cJ6_bitCount_0f7a4 34 = .ok (.iload_n 0, 1) := by decide +kernel
theorem dJ6_bitCount_0f7a4_35 : decode cJ6_bitCount_0f7a4 35 = .ok (.iload_n 0, 1) := by decide +kernel
theorem dJ6_bitCount_0f7a4_36 : decode cJ6_bitCount_0f7a4 36 = .ok (.bipush 8, 2) := by decide +kernel
theorem dJ6_bitCount_0f7a4_38 : decode cJ6_bitCount_0f7a4 38 = .ok (.iushr, 1) := by decide +kernel
theorem dJ6_bitCount_0f7a4_39 : decode cJ6_bitCount_0f7a4 39 = .ok (.iadd, 1) := by decide +kernel
theorem dJ6_bitCount_0f7a4_40 : decode cJ6_bitCount_0f7a4 40 = .ok (.istore_n 0, 1) := by decide +kernel
theorem dJ6_bitCount_0f7a4_41 : decode cJ6_bitCount_0f7a4 41 = .ok (.iload_n 0, 1) := by decide +kernel
theorem dJ6_bitCount_0f7a4_42 : decode cJ6_bitCount_0f7a4 42 = .ok (.iload_n 0, 1) := by decide +kernel
theorem dJ6_bitCount_0f7a4_43 : decode cJ6_bitCount_0f7a4 43 = .ok (.bipush 16, 2) := by decide +kernel
theorem dJ6_bitCount_0f7a4_45 : decode cJ6_bitCount_0f7a4 45 = .ok (.iushr, 1) := by decide +kernel
theorem dJ6_bitCount_0f7a4_46 : decode cJ6_bitCount_0f7a4 46 = .ok (.iadd, 1) := by decide +kernel
theorem dJ6_bitCount_0f7a4_47 : decode cJ6_bitCount_0f7a4 47 = .ok (.istore_n 0, 1) := by decide +kernel
theorem dJ6_bitCount_0f7a4_48 : decode cJ6_bitCount_0f7a4 48 = .ok (.iload_n 0, 1) := by decide +kernel
theorem dJ6_bitCount_0f7a4_49 : decode cJ6_bitCount_0f7a4 49 = .ok (.bipush 63, 2) := by decide +kernel
theorem dJ6_bitCount_0f7a4_51 : decode cJ6_bitCount_0f7a4 51 = .ok (.iand, 1) := by decide +kernel
theorem dJ6_bitCount_0f7a4_52 : decode cJ6_bitCount_0f7a4 52 = .ok (.ireturn, 1) := by decide +kernel
theorem dJ9_max_7cf53_0 : decode cJ9_max_7cf53 0 = .ok (.iload_n 0, 1) := by decide +kernel
theorem dJ9_max_7cf53_1 : decode cJ9_max_7cf53 1 = .ok (.iload_n 1, 1) := by decide +kernel
theorem dJ9_max_7cf53_2 : decode cJ9_max_7cf53 2 = .ok (.if_icmp .lt 7, 3) := by decide +kernel
theorem dJ9_max_7cf53_5 : decode cJ9_max_7cf53 5 = .ok (.iload_n 0, 1) := by decide +kernel
theorem dJ9_max_7cf53_6 : decode cJ9_max_7cf53 6 = .ok (.goto 4, 3) := by decide +kernel
theorem dJ9_max_7cf53_9 : decode cJ9_max_7cf53 9 = .ok (.iload_n 1, 1) := by decide +kernel
theorem dJ9_max_7cf53_10 : decode cJ9_max_7cf53 10 = .ok (.ireturn, 1) := by decide +kernel
theorem dL_law_0 : decode cL_law 0 = .ok (.new 7, 3) := by decide +kernel
theorem dL_law_3 : decode cL_law 3 = .ok (.dup, 1) := by decide +kernel
theorem dL_law_4 : decode cL_law 4 = .ok (.invokespecial 9, 3) := by decide +kernel
theorem dL_law_7 : decode cL_law 7 = .ok (.astore_n 1, 1) := by decide +kernel
theorem dL_law_8 : decode cL_law 8 = .ok (.new 10, 3) := by decide +kernel
theorem dL_law_11 : decode cL_law 11 = .ok (.dup, 1) := by decide +kernel
theorem dL_law_12 : decode cL_law 12 = .ok (.invokespecial 12, 3) := by decide +kernel
theorem dL_law_15 : decode cL_law 15 = .ok (.astore_n 2, 1) := by decide +kernel
theorem dL_law_16 : decode cL_law 16 = .ok (.iconst 0, 1) := by decide +kernel
theorem dL_law_17 : decode cL_law 17 = .ok (.istore_n 3, 1) := by decide +kernel
theorem dL_law_18 : decode cL_law 18 = .ok (.iload_n 3, 1) := by decide +kernel
theorem dL_law_19 : decode cL_law 19 = .ok (.aload_n 0, 1) := by decide +kernel
theorem dL_law_20 : decode cL_law 20 = .ok (.arraylength, 1) := by decide +kernel
theorem dL_law_21 : decode cL_law 21 = .ok (.iconst 4, 1) := by decide +kernel
theorem dL_law_22 : decode cL_law 22 = .ok (.isub, 1) := by decide +kernel
theorem dL_law_23 : decode cL_law 23 = .ok (.if_icmp .gt 776, 3) := by decide +kernel
theorem dL_law_26 : decode cL_law 26 = .ok (.aload_n 0, 1) := by decide +kernel
theorem dL_law_27 : decode cL_law 27 = .ok (.iload_n 3, 1) := by decide +kernel
theorem dL_law_28 : decode cL_law 28 = .ok (.iaload, 1) := by decide +kernel
theorem dL_law_29 : decode cL_law 29 = .ok (.bipush 31, 2) := by decide +kernel
theorem dL_law_31 : decode cL_law 31 = .ok (.iand, 1) := by decide +kernel
theorem dL_law_32 : decode cL_law 32 = .ok (.tableswitch 761 0 24 #[116, 139, 152, 165, 188, 221, 254, 297, 340, 363, 386, 409, 422, 455, 488, 501, 514, 537, 560, 593, 636, 659, 692, 715, 738], 116) := by decide +kernel
theorem dL_law_148 : decode cL_law 148 = .ok (.aload_n 1, 1) := by decide +kernel
theorem dL_law_149 : decode cL_law 149 = .ok (.aload_n 0, 1) := by decide +kernel
theorem dL_law_150 : decode cL_law 150 = .ok (.iload_n 3, 1) := by decide +kernel
theorem dL_law_151 : decode cL_law 151 = .ok (.iconst 1, 1) := by decide +kernel
theorem dL_law_152 : decode cL_law 152 = .ok (.iadd, 1) := by decide +kernel
theorem dL_law_153 : decode cL_law 153 = .ok (.iaload, 1) := by decide +kernel
theorem dL_law_154 : decode cL_law 154 = .ok (.invokevirtual 13, 3) := by decide +kernel
theorem dL_law_157 : decode cL_law 157 = .ok (.aload_n 2, 1) := by decide +kernel
theorem dL_law_158 : decode cL_law 158 = .ok (.aload_n 0, 1) := by decide +kernel
theorem dL_law_159 : decode cL_law 159 = .ok (.iload_n 3, 1) := by decide +kernel
theorem dL_law_160 : decode cL_law 160 = .ok (.iconst 1, 1) := by decide +kernel
theorem dL_law_161 : decode cL_law 161 = .ok (.iadd, 1) := by decide +kernel
theorem dL_law_162 : decode cL_law 162 = .ok (.iaload, 1) := by decide +kernel
theorem dL_law_163 : decode cL_law 163 = .ok (.invokevirtual 17, 3) := by decide +kernel
theorem dL_law_166 : decode cL_law 166 = .ok (.if_icmp .eq 627, 3) := by decide +kernel
theorem dL_law_169 : decode cL_law 169 = .ok (.iconst 0, 1) := by decide +kernel
theorem dL_law_170 : decode cL_law 170 = .ok (.ireturn, 1) := by decide +kernel
theorem dL_law_171 : decode cL_law 171 = .ok (.aload_n 1, 1) := by decide +kernel
theorem dL_law_172 : decode cL_law 172 = .ok (.invokevirtual 18, 3) := by decide +kernel
theorem dL_law_175 : decode cL_law 175 = .ok (.aload_n 2, 1) := by decide +kernel
theorem dL_law_176 : decode cL_law 176 = .ok (.invokevirtual 22, 3) := by decide +kernel
theorem dL_law_179 : decode cL_law 179 = .ok (.if_icmp .eq 614, 3) := by decide +kernel
theorem dL_law_182 : decode cL_law 182 = .ok (.iconst 0, 1) := by decide +kernel
theorem dL_law_183 : decode cL_law 183 = .ok (.ireturn, 1) := by decide +kernel
theorem dL_law_184 : decode cL_law 184 = .ok (.aload_n 1, 1) := by decide +kernel
theorem dL_law_185 : decode cL_law 185 = .ok (.invokevirtual 23, 3) := by decide +kernel
theorem dL_law_188 : decode cL_law 188 = .ok (.aload_n 2, 1) := by decide +kernel
theorem dL_law_189 : decode cL_law 189 = .ok (.invokevirtual 26, 3) := by decide +kernel
theorem dL_law_192 : decode cL_law 192 = .ok (.if_icmp .eq 601, 3) := by decide +kernel
theorem dL_law_195 : decode cL_law 195 = .ok (.iconst 0, 1) := by decide +kernel
theorem dL_law_196 : decode cL_law 196 = .ok (.ireturn, 1) := by decide +kernel
theorem dL_law_197 : decode cL_law 197 = .ok (.aload_n 1, 1) := by decide +kernel
theorem dL_law_198 : decode cL_law 198 = .ok (.aload_n 0, 1) := by decide +kernel
theorem dL_law_199 : decode cL_law 199 = .ok (.iload_n 3, 1) := by decide +kernel
theorem dL_law_200 : decode cL_law 200 = .ok (.iconst 1, 1) := by decide +kernel
theorem dL_law_201 : decode cL_law 201 = .ok (.iadd, 1) := by decide +kernel
theorem dL_law_202 : decode cL_law 202 = .ok (.iaload, 1) := by decide +kernel
theorem dL_law_203 : decode cL_law 203 = .ok (.invokevirtual 27, 3) := by decide +kernel
theorem dL_law_206 : decode cL_law 206 = .ok (.aload_n 2, 1) := by decide +kernel
theorem dL_law_207 : decode cL_law 207 = .ok (.aload_n 0, 1) := by decide +kernel
theorem dL_law_208 : decode cL_law 208 = .ok (.iload_n 3, 1) := by decide +kernel
theorem dL_law_209 : decode cL_law 209 = .ok (.iconst 1, 1) := by decide +kernel
theorem dL_law_210 : decode cL_law 210 = .ok (.iadd, 1) := by decide +kernel
theorem dL_law_211 : decode cL_law 211 = .ok (.iaload, 1) := by decide +kernel
theorem dL_law_212 : decode cL_law 212 = .ok (.invokevirtual 30, 3) := by decide +kernel
theorem dL_law_215 : decode cL_law 215 = .ok (.if_icmp .eq 578, 3) := by decide +kernel
theorem dL_law_218 : decode cL_law 218 = .ok (.iconst 0, 1) := by decide +kernel
theorem dL_law_219 : decode cL_law 219 = .ok (.ireturn, 1) := by decide +kernel
theorem dL_law_220 : decode cL_law 220 = .ok (.aload_n 1, 1) := by decide +kernel
theorem dL_law_221 : decode cL_law 221 = .ok (.aload_n 0, 1) := by decide +kernel
theorem dL_law_222 : decode cL_law 222 = .ok (.iload_n 3, 1) := by decide +kernel
theorem dL_law_223 : decode cL_law 223 = .ok (.iconst 1, 1) := by decide +kernel
theorem dL_law_224 : decode cL_law 224 = .ok (.iadd, 1) := by decide +kernel
theorem dL_law_225 : decode cL_law 225 = .ok (.iaload, 1) := by decide +kernel
theorem dL_law_226 : decode cL_law 226 = .ok (.aload_n 0, 1) := by decide +kernel
theorem dL_law_227 : decode cL_law 227 = .ok (.iload_n 3, 1) := by decide +kernel
theorem dL_law_228 : decode cL_law 228 = .ok (.iconst 2, 1) := by decide +kernel
theorem dL_law_229 : decode cL_law 229 = .ok (.iadd, 1) := by decide +kernel
