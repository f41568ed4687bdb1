theorem dX5_faultOf_169 : decode cX5_faultOf 169 = .ok (.aload_n 0, 1) := by decide +kernel
theorem dX5_faultOf_170 : decode cX5_faultOf 170 = .ok (.dup, 1) := by decide +kernel
theorem dX5_faultOf_171 : decode cX5_faultOf 171 = .ok (.getfield 82, 3) := by decide +kernel
theorem dX5_faultOf_174 : decode cX5_faultOf 174 = .ok (.iconst 1, 1) := by decide +kernel
theorem dX5_faultOf_175 : decode cX5_faultOf 175 = .ok (.iload_n 2, 1) := by decide +kernel
theorem dX5_faultOf_176 : decode cX5_faultOf 176 = .ok (.ishl, 1) := by decide +kernel
theorem dX5_faultOf_177 : decode cX5_faultOf 177 = .ok (.ior, 1) := by decide +kernel
theorem dX5_faultOf_178 : decode cX5_faultOf 178 = .ok (.putfield 82, 3) := by decide +kernel
theorem dX5_faultOf_181 : decode cX5_faultOf 181 = .ok (.goto 5, 3) := by decide +kernel
theorem dX5_faultOf_184 : decode cX5_faultOf 184 = .ok (.iload_n 3, 1) := by decide +kernel
theorem dX5_faultOf_185 : decode cX5_faultOf 185 = .ok (.ireturn, 1) := by decide +kernel
theorem dX5_faultOf_186 : decode cX5_faultOf 186 = .ok (.iinc 3 1, 3) := by decide +kernel
theorem dX5_faultOf_189 : decode cX5_faultOf 189 = .ok (.goto (-166), 3) := by decide +kernel
theorem dX5_faultOf_192 : decode cX5_faultOf 192 = .ok (.aload_n 0, 1) := by decide +kernel
theorem dX5_faultOf_193 : decode cX5_faultOf 193 = .ok (.getfield 79, 3) := by decide +kernel
theorem dX5_faultOf_196 : decode cX5_faultOf 196 = .ok (.ifCond .lt 14, 3) := by decide +kernel
theorem dX5_faultOf_199 : decode cX5_faultOf 199 = .ok (.iload_n 1, 1) := by decide +kernel
theorem dX5_faultOf_200 : decode cX5_faultOf 200 = .ok (.ifCond .eq 15, 3) := by decide +kernel
theorem dX5_faultOf_203 : decode cX5_faultOf 203 = .ok (.aload_n 0, 1) := by decide +kernel
theorem dX5_faultOf_204 : decode cX5_faultOf 204 = .ok (.getfield 82, 3) := by decide +kernel
theorem dX5_faultOf_207 : decode cX5_faultOf 207 = .ok (.ifCond .ne 8, 3) := by decide +kernel
theorem dX5_faultOf_210 : decode cX5_faultOf 210 = .ok (.aload_n 0, 1) := by decide +kernel
theorem dX5_faultOf_211 : decode cX5_faultOf 211 = .ok (.getfield 73, 3) := by decide +kernel
theorem dX5_faultOf_214 : decode cX5_faultOf 214 = .ok (.ireturn, 1) := by decide +kernel
theorem dX5_faultOf_215 : decode cX5_faultOf 215 = .ok (.aload_n 0, 1) := by decide +kernel
theorem dX5_faultOf_216 : decode cX5_faultOf 216 = .ok (.iload_n 1, 1) := by decide +kernel
theorem dX5_faultOf_217 : decode cX5_faultOf 217 = .ok (.ifCond .eq 10, 3) := by decide +kernel
theorem dX5_faultOf_220 : decode cX5_faultOf 220 = .ok (.aload_n 0, 1) := by decide +kernel
theorem dX5_faultOf_221 : decode cX5_faultOf 221 = .ok (.getfield 82, 3) := by decide +kernel
theorem dX5_faultOf_224 : decode cX5_faultOf 224 = .ok (.goto 5, 3) := by decide +kernel
theorem dX5_faultOf_227 : decode cX5_faultOf 227 = .ok (.bipush 31, 2) := by decide +kernel
theorem dX5_faultOf_229 : decode cX5_faultOf 229 = .ok (.putfield 82, 3) := by decide +kernel
theorem dX5_faultOf_232 : decode cX5_faultOf 232 = .ok (.bipush (-6), 2) := by decide +kernel
theorem dX5_faultOf_234 : decode cX5_faultOf 234 = .ok (.ireturn, 1) := by decide +kernel
theorem dX5_fault_0 : decode cX5_fault 0 = .ok (.aload_n 0, 1) := by decide +kernel
theorem dX5_fault_1 : decode cX5_fault 1 = .ok (.invokevirtual 89, 3) := by decide +kernel
theorem dX5_fault_4 : decode cX5_fault 4 = .ok (.ireturn, 1) := by decide +kernel
theorem dX5_terms_0 : decode cX5_terms 0 = .ok (.iload_n 1, 1) := by decide +kernel
theorem dX5_terms_1 : decode cX5_terms 1 = .ok (.invokestatic 93, 3) := by decide +kernel
theorem dX5_terms_4 : decode cX5_terms 4 = .ok (.ifCond .ne 5, 3) := by decide +kernel
theorem dX5_terms_7 : decode cX5_terms 7 = .ok (.iconst (-1), 1) := by decide +kernel
theorem dX5_terms_8 : decode cX5_terms 8 = .ok (.ireturn, 1) := by decide +kernel
theorem dX5_terms_9 : decode cX5_terms 9 = .ok (.aload_n 0, 1) := by decide +kernel
theorem dX5_terms_10 : decode cX5_terms 10 = .ok (.invokevirtual 89, 3) := by decide +kernel
theorem dX5_terms_13 : decode cX5_terms 13 = .ok (.ifCond .lt 6, 3) := by decide +kernel
theorem dX5_terms_16 : decode cX5_terms 16 = .ok (.bipush (-5), 2) := by decide +kernel
theorem dX5_terms_18 : decode cX5_terms 18 = .ok (.ireturn, 1) := by decide +kernel
theorem dX5_terms_19 : decode cX5_terms 19 = .ok (.aload_n 0, 1) := by decide +kernel
theorem dX5_terms_20 : decode cX5_terms 20 = .ok (.getfield 13, 3) := by decide +kernel
theorem dX5_terms_23 : decode cX5_terms 23 = .ok (.iload_n 1, 1) := by decide +kernel
theorem dX5_terms_24 : decode cX5_terms 24 = .ok (.aload_n 0, 1) := by decide +kernel
theorem dX5_terms_25 : decode cX5_terms 25 = .ok (.getfield 76, 3) := by decide +kernel
theorem dX5_terms_28 : decode cX5_terms 28 = .ok (.iastore, 1) := by decide +kernel
theorem dX5_terms_29 : decode cX5_terms 29 = .ok (.aload_n 0, 1) := by decide +kernel
theorem dX5_terms_30 : decode cX5_terms 30 = .ok (.getfield 16, 3) := by decide +kernel
theorem dX5_terms_33 : decode cX5_terms 33 = .ok (.iload_n 1, 1) := by decide +kernel
theorem dX5_terms_34 : decode cX5_terms 34 = .ok (.aload_n 0, 1) := by decide +kernel
theorem dX5_terms_35 : decode cX5_terms 35 = .ok (.getfield 79, 3) := by decide +kernel
theorem dX5_terms_38 : decode cX5_terms 38 = .ok (.iastore, 1) := by decide +kernel
theorem dX5_terms_39 : decode cX5_terms 39 = .ok (.aload_n 0, 1) := by decide +kernel
theorem dX5_terms_40 : decode cX5_terms 40 = .ok (.getfield 19, 3) := by decide +kernel
theorem dX5_terms_43 : decode cX5_terms 43 = .ok (.iload_n 1, 1) := by decide +kernel
theorem dX5_terms_44 : decode cX5_terms 44 = .ok (.aload_n 0, 1) := by decide +kernel
theorem dX5_terms_45 : decode cX5_terms 45 = .ok (.getfield 82, 3) := by decide +kernel
theorem dX5_terms_48 : decode cX5_terms 48 = .ok (.iastore, 1) := by decide +kernel
theorem dX5_terms_49 : decode cX5_terms 49 = .ok (.aload_n 0, 1) := by decide +kernel
theorem dX5_terms_50 : decode cX5_terms 50 = .ok (.iconst 0, 1) := by decide +kernel
theorem dX5_terms_51 : decode cX5_terms 51 = .ok (.putfield 73, 3) := by decide +kernel
theorem dX5_terms_54 : decode cX5_terms 54 = .ok (.aload_n 0, 1) := by decide +kernel
theorem dX5_terms_55 : decode cX5_terms 55 = .ok (.getfield 13, 3) := by decide +kernel
theorem dX5_terms_58 : decode cX5_terms 58 = .ok (.iload_n 1, 1) := by decide +kernel
theorem dX5_terms_59 : decode cX5_terms 59 = .ok (.iaload, 1) := by decide +kernel
theorem dX5_terms_60 : decode cX5_terms 60 = .ok (.ireturn, 1) := by decide +kernel
theorem dX5_about_0 : decode cX5_about 0 = .ok (.iload_n 1, 1) := by decide +kernel
theorem dX5_about_1 : decode cX5_about 1 = .ok (.invokestatic 93, 3) := by decide +kernel
theorem dX5_about_4 : decode cX5_about 4 = .ok (.ifCond .ne 5, 3) := by decide +kernel
theorem dX5_about_7 : decode cX5_about 7 = .ok (.iconst (-1), 1) := by decide +kernel
theorem dX5_about_8 : decode cX5_about 8 = .ok (.ireturn, 1) := by decide +kernel
theorem dX5_about_9 : decode cX5_about 9 = .ok (.iload_n 2, 1) := by decide +kernel
theorem dX5_about_10 : decode cX5_about 10 = .ok (.ifCond .ne 12, 3) := by decide +kernel
theorem dX5_about_13 : decode cX5_about 13 = .ok (.aload_n 0, 1) := by decide +kernel
theorem dX5_about_14 : decode cX5_about 14 = .ok (.getfield 13, 3) := by decide +kernel
theorem dX5_about_17 : decode cX5_about 17 = .ok (.iload_n 1, 1) := by decide +kernel
theorem dX5_about_18 : decode cX5_about 18 = .ok (.iaload, 1) := by decide +kernel
theorem dX5_about_19 : decode cX5_about 19 = .ok (.goto 47, 3) := by decide +kernel
theorem dX5_about_22 : decode cX5_about 22 = .ok (.iload_n 2, 1) := by decide +kernel
theorem dX5_about_23 : decode cX5_about 23 = .ok (.iconst 1, 1) := by decide +kernel
theorem dX5_about_24 : decode cX5_about 24 = .ok (.if_icmp .ne 12, 3) := by decide +kernel
theorem dX5_about_27 : decode cX5_about 27 = .ok (.aload_n 0, 1) := by decide +kernel
theorem dX5_about_28 : decode cX5_about 28 = .ok (.getfield 16, 3) := by decide +kernel
theorem dX5_about_31 : decode cX5_about 31 = .ok (.iload_n 1, 1) := by decide +kernel
theorem dX5_about_32 : decode cX5_about 32 = .ok (.iaload, 1) := by decide +kernel
theorem dX5_about_33 : decode cX5_about 33 = .ok (.goto 33, 3) := by decide +kernel
theorem dX5_about_36 : decode cX5_about 36 = .ok (.iload_n 2, 1) := by decide +kernel
theorem dX5_about_37 : decode cX5_about 37 = .ok (.iconst 2, 1) := by decide +kernel
theorem dX5_about_38 : decode cX5_about 38 = .ok (.if_icmp .ne 12, 3) := by decide +kernel
theorem dX5_about_41 : decode cX5_about 41 = .ok (.aload_n 0, 1) := by decide +kernel
theorem dX5_about_42 : decode cX5_about 42 = .ok (.getfield 19, 3) := by decide +kernel
theorem dX5_about_45 : decode cX5_about 45 = .ok (.iload_n 1, 1) := by decide +kernel
theorem dX5_about_46 : decode cX5_about 46 = .ok (.iaload, 1) := by decide +kernel
theorem dX5_about_47 : decode cX5_about 47 = .ok (.goto 19, 3) := by decide +kernel
theorem dX5_about_50 : decode cX5_about 50 = .ok (.iload_n 2, 1) := by decide +kernel
theorem dX5_about_51 : decode cX5_about 51 = .ok (.iconst 3, 1) := by decide +kernel
theorem dX5_about_52 : decode cX5_about 52 = .ok (.if_icmp .ne 12, 3) := by decide +kernel
theorem dX5_about_55 : decode cX5_about 55 = .ok (.aload_n 0, 1) := by decide +kernel
theorem dX5_about_56 : decode cX5_about 56 = .ok (.getfield 22, 3) := by decide +kernel
theorem dX5_about_59 : decode cX5_about 59 = .ok (.iload_n 1, 1) := by decide +kernel
theorem dX5_about_60 : decode cX5_about 60 = .ok (.iaload, 1) := by decide +kernel
theorem dX5_about_61 : decode cX5_about 61 = .ok (.goto 5, 3) := by decide +kernel
theorem dX5_about_64 : decode cX5_about 64 = .ok (.bipush (-2), 2) := by decide +kernel
theorem dX5_about_66 : decode cX5_about 66 = .ok (.ireturn, 1) := by decide +kernel
theorem dX5_later_0 : decode cX5_later 0 = .ok (.iload_n 1, 1) := by decide +kernel
theorem dX5_later_1 : decode cX5_later 1 = .ok (.invokestatic 93, 3) := by decide +kernel
theorem dX5_later_4 : decode cX5_later 4 = .ok (.ifCond .ne 5, 3) := by decide +kernel
theorem dX5_later_7 : decode cX5_later 7 = .ok (.iconst (-1), 1) := by decide +kernel
theorem dX5_later_8 : decode cX5_later 8 = .ok (.ireturn, 1) := by decide +kernel
theorem dX5_later_9 : decode cX5_later 9 = .ok (.iload_n 2, 1) := by decide +kernel
theorem dX5_later_10 : decode cX5_later 10 = .ok (.iconst (-1), 1) := by decide +kernel
theorem dX5_later_11 : decode cX5_later 11 = .ok (.iconst 4, 1) := by decide +kernel
theorem dX5_later_12 : decode cX5_later 12 = .ok (.invokestatic 69, 3) := by decide +kernel
theorem dX5_later_15 : decode cX5_later 15 = .ok (.ifCond .eq 8, 3) := by decide +kernel
theorem dX5_later_18 : decode cX5_later 18 = .ok (.iload_n 2, 1) := by decide +kernel
theorem dX5_later_19 : decode cX5_later 19 = .ok (.iload_n 1, 1) := by decide +kernel
theorem dX5_later_20 : decode cX5_later 20 = .ok (.if_icmp .ne 6, 3) := by decide +kernel
theorem dX5_later_23 : decode cX5_later 23 = .ok (.bipush (-2), 2) := by decide +kernel
theorem dX5_later_25 : decode cX5_later 25 = .ok (.ireturn, 1) := by decide +kernel
theorem dX5_later_26 : decode cX5_later 26 = .ok (.aload_n 0, 1) := by decide +kernel
theorem dX5_later_27 : decode cX5_later 27 = .ok (.getfield 22, 3) := by decide +kernel
theorem dX5_later_30 : decode cX5_later 30 = .ok (.iload_n 1, 1) := by decide +kernel
theorem dX5_later_31 : decode cX5_later 31 = .ok (.iaload, 1) := by decide +kernel
theorem dX5_later_32 : decode cX5_later 32 = .ok (.istore_n 3, 1) := by decide +kernel
theorem dX5_later_33 : decode cX5_later 33 = .ok (.aload_n 0, 1) := by decide +kernel
theorem dX5_later_34 : decode cX5_later 34 = .ok (.getfield 22, 3) := by decide +kernel
theorem dX5_later_37 : decode cX5_later 37 = .ok (.iload_n 1, 1) := by decide +kernel
theorem dX5_later_38 : decode cX5_later 38 = .ok (.iload_n 2, 1) := by decide +kernel
theorem dX5_later_39 : decode cX5_later 39 = .ok (.ifCond .ge 8, 3) := by decide +kernel
theorem dX5_later_42 : decode cX5_later 42 = .ok (.bipush (-6), 2) := by decide +kernel
theorem dX5_later_44 : decode cX5_later 44 = .ok (.goto 4, 3) := by decide +kernel
theorem dX5_later_47 : decode cX5_later 47 = .ok (.iload_n 2, 1) := by decide +kernel
theorem dX5_later_48 : decode cX5_later 48 = .ok (.iastore, 1) := by decide +kernel
theorem dX5_later_49 : decode cX5_later 49 = .ok (.iload_n 3, 1) := by decide +kernel
theorem dX5_later_50 : decode cX5_later 50 = .ok (.ireturn, 1) := by decide +kernel
theorem dX5_mostOf_0 : decode cX5_mostOf 0 = .ok (.iload_n 0, 1) := by decide +kernel
theorem dX5_mostOf_1 : decode cX5_mostOf 1 = .ok (.ifCond .ne 8, 3) := by decide +kernel
theorem dX5_mostOf_4 : decode cX5_mostOf 4 = .ok (.bipush 31, 2) := by decide +kernel
theorem dX5_mostOf_6 : decode cX5_mostOf 6 = .ok (.goto 25, 3) := by decide +kernel
theorem dX5_mostOf_9 : decode cX5_mostOf 9 = .ok (.iload_n 0, 1) := by decide +kernel
theorem dX5_mostOf_10 : decode cX5_mostOf 10 = .ok (.iconst 1, 1) := by decide +kernel
theorem dX5_mostOf_11 : decode cX5_mostOf 11 = .ok (.if_icmp .ne 7, 3) := by decide +kernel
theorem dX5_mostOf_14 : decode cX5_mostOf 14 = .ok (.iconst 1, 1) := by decide +kernel
theorem dX5_mostOf_15 : decode cX5_mostOf 15 = .ok (.goto 16, 3) := by decide +kernel
theorem dX5_mostOf_18 : decode cX5_mostOf 18 = .ok (.iload_n 0, 1) := by decide +kernel
theorem dX5_mostOf_19 : decode cX5_mostOf 19 = .ok (.iconst 2, 1) := by decide +kernel
theorem dX5_mostOf_20 : decode cX5_mostOf 20 = .ok (.if_icmp .ne 8, 3) := by decide +kernel
theorem dX5_mostOf_23 : decode cX5_mostOf 23 = .ok (.bipush 63, 2) := by decide +kernel
theorem dX5_mostOf_25 : decode cX5_mostOf 25 = .ok (.goto 6, 3) := by decide +kernel
theorem dX5_mostOf_28 : decode cX5_mostOf 28 = .ok (.sipush 999, 3) := by decide +kernel
theorem dX5_mostOf_31 : decode cX5_mostOf 31 = .ok (.ireturn, 1) := by decide +kernel
theorem dX5_piece_0 : decode cX5_piece 0 = .ok (.iload_n 1, 1) := by decide +kernel
theorem dX5_piece_1 : decode cX5_piece 1 = .ok (.invokestatic 97, 3) := by decide +kernel
theorem dX5_piece_4 : decode cX5_piece 4 = .ok (.ifCond .ne 5, 3) := by decide +kernel
theorem dX5_piece_7 : decode cX5_piece 7 = .ok (.iconst (-1), 1) := by decide +kernel
theorem dX5_piece_8 : decode cX5_piece 8 = .ok (.ireturn, 1) := by decide +kernel
theorem dX5_piece_9 : decode cX5_piece 9 = .ok (.iload_n 2, 1) := by decide +kernel
theorem dX5_piece_10 : decode cX5_piece 10 = .ok (.iconst 0, 1) := by decide +kernel
theorem dX5_piece_11 : decode cX5_piece 11 = .ok (.iconst 3, 1) := by decide +kernel
theorem dX5_piece_12 : decode cX5_piece 12 = .ok (.invokestatic 69, 3) := by decide +kernel
theorem dX5_piece_15 : decode cX5_piece 15 = .ok (.ifCond .eq 23, 3) := by decide +kernel
theorem dX5_piece_18 : decode cX5_piece 18 = .ok (.iload_n 3, 1) := by decide +kernel
theorem dX5_piece_19 : decode cX5_piece 19 = .ok (.iload_n 2, 1) := by decide +kernel
theorem dX5_piece_20 : decode cX5_piece 20 = .ok (.ifCond .ne 7, 3) := by decide +kernel
theorem dX5_piece_23 : decode cX5_piece 23 = .ok (.iconst 1, 1) := by decide +kernel
theorem dX5_piece_24 : decode cX5_piece 24 = .ok (.goto 4, 3) := by decide +kernel
theorem dX5_piece_27 : decode cX5_piece 27 = .ok (.iconst 0, 1) := by decide +kernel
theorem dX5_piece_28 : decode cX5_piece 28 = .ok (.iload_n 2, 1) := by decide +kernel
theorem dX5_piece_29 : decode cX5_piece 29 = .ok (.invokestatic 100, 3) := by decide +kernel
theorem dX5_piece_32 : decode cX5_piece 32 = .ok (.invokestatic 69, 3) := by decide +kernel
theorem dX5_piece_35 : decode cX5_piece 35 = .ok (.ifCond .ne 6, 3) := by decide +kernel
theorem dX5_piece_38 : decode cX5_piece 38 = .ok (.bipush (-2), 2) := by decide +kernel
theorem dX5_piece_40 : decode cX5_piece 40 = .ok (.ireturn, 1) := by decide +kernel
theorem dX5_piece_41 : decode cX5_piece 41 = .ok (.aload_n 0, 1) := by decide +kernel
theorem dX5_piece_42 : decode cX5_piece 42 = .ok (.getfield 25, 3) := by decide +kernel
theorem dX5_piece_45 : decode cX5_piece 45 = .ok (.iconst 4, 1) := by decide +kernel
theorem dX5_piece_46 : decode cX5_piece 46 = .ok (.iload_n 1, 1) := by decide +kernel
theorem dX5_piece_47 : decode cX5_piece 47 = .ok (.imul, 1) := by decide +kernel
theorem dX5_piece_48 : decode cX5_piece 48 = .ok (.iload_n 2, 1) := by decide +kernel
theorem dX5_piece_49 : decode cX5_piece 49 = .ok (.iadd, 1) := by decide +kernel
theorem dX5_piece_50 : decode cX5_piece 50 = .ok (.iaload, 1) := by decide +kernel
theorem dX5_piece_51 : decode cX5_piece 51 = .ok (.istore 4, 2) := by decide +kernel
theorem dX5_piece_53 : decode cX5_piece 53 = .ok (.aload_n 0, 1) := by decide +kernel
theorem dX5_piece_54 : decode cX5_piece 54 = .ok (.getfield 25, 3) := by decide +kernel
theorem dX5_piece_57 : decode cX5_piece 57 = .ok (.iconst 4, 1) := by decide +kernel
theorem dX5_piece_58 : decode cX5_piece 58 = .ok (.iload_n 1, 1) := by decide +kernel
theorem dX5_piece_59 : decode cX5_piece 59 = .ok (.imul, 1) := by decide +kernel
theorem dX5_piece_60 : decode cX5_piece 60 = .ok (.iload_n 2, 1) := by decide +kernel
theorem dX5_piece_61 : decode cX5_piece 61 = .ok (.iadd, 1) := by decide +kernel
theorem dX5_piece_62 : decode cX5_piece 62 = .ok (.iload_n 3, 1) := by decide +kernel
theorem dX5_piece_63 : decode cX5_piece 63 = .ok (.iastore, 1) := by decide +kernel
theorem dX5_piece_64 : decode cX5_piece 64 = .ok (.iload 4, 2) := by decide +kernel
theorem dX5_piece_66 : decode cX5_piece 66 = .ok (.ireturn, 1) := by decide +kernel
theorem dX5_uses_0 : decode cX5_uses 0 = .ok (.iload_n 1, 1) := by decide +kernel
theorem dX5_uses_1 : decode cX5_uses 1 = .ok (.invokestatic 97, 3) := by decide +kernel
theorem dX5_uses_4 : decode cX5_uses 4 = .ok (.ifCond .eq 15, 3) := by decide +kernel
theorem dX5_uses_7 : decode cX5_uses 7 = .ok (.iload_n 2, 1) := by decide +kernel
theorem dX5_uses_8 : decode cX5_uses 8 = .ok (.invokestatic 97, 3) := by decide +kernel
theorem dX5_uses_11 : decode cX5_uses 11 = .ok (.ifCond .eq 8, 3) := by decide +kernel
theorem dX5_uses_14 : decode cX5_uses 14 = .ok (.iload_n 2, 1) := by decide +kernel
theorem dX5_uses_15 : decode cX5_uses 15 = .ok (.iload_n 1, 1) := by decide +kernel
theorem dX5_uses_16 : decode cX5_uses 16 = .ok (.if_icmp .lt 5, 3) := by decide +kernel
theorem dX5_uses_19 : decode cX5_uses 19 = .ok (.iconst (-1), 1) := by decide +kernel
theorem dX5_uses_20 : decode cX5_uses 20 = .ok (.ireturn, 1) := by decide +kernel
theorem dX5_uses_21 : decode cX5_uses 21 = .ok (.iload_n 3, 1) := by decide +kernel
theorem dX5_uses_22 : decode cX5_uses 22 = .ok (.iconst (-1), 1) := by decide +kernel
theorem dX5_uses_23 : decode cX5_uses 23 = .ok (.iconst 3, 1) := by decide +kernel
theorem dX5_uses_24 : decode cX5_uses 24 = .ok (.invokestatic 69, 3) := by decide +kernel
theorem dX5_uses_27 : decode cX5_uses 27 = .ok (.ifCond .ne 6, 3) := by decide +kernel
theorem dX5_uses_30 : decode cX5_uses 30 = .ok (.bipush (-2), 2) := by decide +kernel
theorem dX5_uses_32 : decode cX5_uses 32 = .ok (.ireturn, 1) := by decide +kernel
theorem dX5_uses_33 : decode cX5_uses 33 = .ok (.aload_n 0, 1) := by decide +kernel
theorem dX5_uses_34 : decode cX5_uses 34 = .ok (.getfield 28, 3) := by decide +kernel
theorem dX5_uses_37 : decode cX5_uses 37 = .ok (.bipush 6, 2) := by decide +kernel
theorem dX5_uses_39 : decode cX5_uses 39 = .ok (.iload_n 1, 1) := by decide +kernel
theorem dX5_uses_40 : decode cX5_uses 40 = .ok (.imul, 1) := by decide +kernel
theorem dX5_uses_41 : decode cX5_uses 41 = .ok (.iload_n 2, 1) := by decide +kernel
theorem dX5_uses_42 : decode cX5_uses 42 = .ok (.iadd, 1) := by decide +kernel
theorem dX5_uses_43 : decode cX5_uses 43 = .ok (.iaload, 1) := by decide +kernel
theorem dX5_uses_44 : decode cX5_uses 44 = .ok (.istore 4, 2) := by decide +kernel
theorem dX5_uses_46 : decode cX5_uses 46 = .ok (.aload_n 0, 1) := by decide +kernel
theorem dX5_uses_47 : decode cX5_uses 47 = .ok (.getfield 28, 3) := by decide +kernel
theorem dX5_uses_50 : decode cX5_uses 50 = .ok (.bipush 6, 2) := by decide +kernel
theorem dX5_uses_52 : decode cX5_uses 52 = .ok (.iload_n 1, 1) := by decide +kernel
theorem dX5_uses_53 : decode cX5_uses 53 = .ok (.imul, 1) := by decide +kernel
theorem dX5_uses_54 : decode cX5_uses 54 = .ok (.iload_n 2, 1) := by decide +kernel
theorem dX5_uses_55 : decode cX5_uses 55 = .ok (.iadd, 1) := by decide +kernel
theorem dX5_uses_56 : decode cX5_uses 56 = .ok (.iload_n 3, 1) := by decide +kernel
theorem dX5_uses_57 : decode cX5_uses 57 = .ok (.ifCond .ge 8, 3) := by decide +kernel
theorem dX5_uses_60 : decode cX5_uses 60 = .ok (.bipush (-6), 2) := by decide +kernel
theorem dX5_uses_62 : decode cX5_uses 62 = .ok (.goto 4, 3) := by decide +kernel
theorem dX5_uses_65 : decode cX5_uses 65 = .ok (.iload_n 3, 1) := by decide +kernel
theorem dX5_uses_66 : decode cX5_uses 66 = .ok (.iastore, 1) := by decide +kernel
theorem dX5_uses_67 : decode cX5_uses 67 = .ok (.iload 4, 2) := by decide +kernel
theorem dX5_uses_69 : decode cX5_uses 69 = .ok (.ireturn, 1) := by decide +kernel
theorem dX5_choicesOf_0 : decode cX5_choicesOf 0 = .ok (.aload_n 0, 1) := by decide +kernel
theorem dX5_choicesOf_1 : decode cX5_choicesOf 1 = .ok (.getfield 25, 3) := by decide +kernel
theorem dX5_choicesOf_4 : decode cX5_choicesOf 4 = .ok (.iconst 4, 1) := by decide +kernel
theorem dX5_choicesOf_5 : decode cX5_choicesOf 5 = .ok (.iload_n 1, 1) := by decide +kernel
theorem dX5_choicesOf_6 : decode cX5_choicesOf 6 = .ok (.imul, 1) := by decide +kernel
theorem dX5_choicesOf_7 : decode cX5_choicesOf 7 = .ok (.iaload, 1) := by decide +kernel
theorem dX5_choicesOf_8 : decode cX5_choicesOf 8 = .ok (.istore_n 2, 1) := by decide +kernel
theorem dX5_choicesOf_9 : decode cX5_choicesOf 9 = .ok (.iconst 0, 1) := by decide +kernel
theorem dX5_choicesOf_10 : decode cX5_choicesOf 10 = .ok (.istore_n 3, 1) := by decide +kernel
theorem dX5_choicesOf_11 : decode cX5_choicesOf 11 = .ok (.iload_n 3, 1) := by decide +kernel
theorem dX5_choicesOf_12 : decode cX5_choicesOf 12 = .ok (.iconst 5, 1) := by decide +kernel
theorem dX5_choicesOf_13 : decode cX5_choicesOf 13 = .ok (.if_icmp .ge 73, 3) := by decide +kernel
theorem dX5_choicesOf_16 : decode cX5_choicesOf 16 = .ok (.aload_n 0, 1) := by decide +kernel
theorem dX5_choicesOf_17 : decode cX5_choicesOf 17 = .ok (.getfield 25, 3) := by decide +kernel
theorem dX5_choicesOf_20 : decode cX5_choicesOf 20 = .ok (.iconst 4, 1) := by decide +kernel
theorem dX5_choicesOf_21 : decode cX5_choicesOf 21 = .ok (.iload_n 1, 1) := by decide +kernel
theorem dX5_choicesOf_22 : decode cX5_choicesOf 22 = .ok (.imul, 1) := by decide +kernel
theorem dX5_choicesOf_23 : decode cX5_choicesOf 23 = .ok (.iconst 1, 1) := by decide +kernel
theorem dX5_choicesOf_24 : decode cX5_choicesOf 24 = .ok (.iadd, 1) := by decide +kernel
theorem dX5_choicesOf_25 : decode cX5_choicesOf 25 = .ok (.iaload, 1) := by decide +kernel
theorem dX5_choicesOf_26 : decode cX5_choicesOf 26 = .ok (.iconst 1, 1) := by decide +kernel
theorem dX5_choicesOf_27 : decode cX5_choicesOf 27 = .ok (.if_icmp .ne 59, 3) := by decide +kernel
theorem dX5_choicesOf_30 : decode cX5_choicesOf 30 = .ok (.iconst 0, 1) := by decide +kernel
theorem dX5_choicesOf_31 : decode cX5_choicesOf 31 = .ok (.istore 4, 2) := by decide +kernel
theorem dX5_choicesOf_33 : decode cX5_choicesOf 33 = .ok (.iload 4, 2) := by decide +kernel
theorem dX5_choicesOf_35 : decode cX5_choicesOf 35 = .ok (.iconst 5, 1) := by decide +kernel
theorem dX5_choicesOf_36 : decode cX5_choicesOf 36 = .ok (.if_icmp .ge 44, 3) := by decide +kernel
theorem dX5_choicesOf_39 : decode cX5_choicesOf 39 = .ok (.iload_n 2, 1) := by decide +kernel
theorem dX5_choicesOf_40 : decode cX5_choicesOf 40 = .ok (.iload_n 2, 1) := by decide +kernel
theorem dX5_choicesOf_41 : decode cX5_choicesOf 41 = .ok (.iload 4, 2) := by decide +kernel
theorem dX5_choicesOf_43 : decode cX5_choicesOf 43 = .ok (.invokestatic 103, 3) := by decide +kernel
theorem dX5_choicesOf_46 : decode cX5_choicesOf 46 = .ok (.ifCond .eq 25, 3) := by decide +kernel
theorem dX5_choicesOf_49 : decode cX5_choicesOf 49 = .ok (.aload_n 0, 1) := by decide +kernel
theorem dX5_choicesOf_50 : decode cX5_choicesOf 50 = .ok (.getfield 22, 3) := by decide +kernel
theorem dX5_choicesOf_53 : decode cX5_choicesOf 53 = .ok (.iload 4, 2) := by decide +kernel
theorem dX5_choicesOf_55 : decode cX5_choicesOf 55 = .ok (.iaload, 1) := by decide +kernel
theorem dX5_choicesOf_56 : decode cX5_choicesOf 56 = .ok (.ifCond .lt 15, 3) := by decide +kernel
theorem dX5_choicesOf_59 : decode cX5_choicesOf 59 = .ok (.iconst 1, 1) := by decide +kernel
theorem dX5_choicesOf_60 : decode cX5_choicesOf 60 = .ok (.aload_n 0, 1) := by decide +kernel
theorem dX5_choicesOf_61 : decode cX5_choicesOf 61 = .ok (.getfield 22, 3) := by decide +kernel
theorem dX5_choicesOf_64 : decode cX5_choicesOf 64 = .ok (.iload 4, 2) := by decide +kernel
theorem dX5_choicesOf_66 : decode cX5_choicesOf 66 = .ok (.iaload, 1) := by decide +kernel
theorem dX5_choicesOf_67 : decode cX5_choicesOf 67 = .ok (.ishl, 1) := by decide +kernel
theorem dX5_choicesOf_68 : decode cX5_choicesOf 68 = .ok (.goto 4, 3) := by decide +kernel
theorem dX5_choicesOf_71 : decode cX5_choicesOf 71 = .ok (.iconst 0, 1) := by decide +kernel
theorem dX5_choicesOf_72 : decode cX5_choicesOf 72 = .ok (.ior, 1) := by decide +kernel
theorem dX5_choicesOf_73 : decode cX5_choicesOf 73 = .ok (.istore_n 2, 1) := by decide +kernel
theorem dX5_choicesOf_74 : decode cX5_choicesOf 74 = .ok (.iinc 4 1, 3) := by decide +kernel
theorem dX5_choicesOf_77 : decode cX5_choicesOf 77 = .ok (.goto (-44), 3) := by decide +kernel
theorem dX5_choicesOf_80 : decode cX5_choicesOf 80 = .ok (.iinc 3 1, 3) := by decide +kernel
theorem dX5_choicesOf_83 : decode cX5_choicesOf 83 = .ok (.goto (-72), 3) := by decide +kernel
theorem dX5_choicesOf_86 : decode cX5_choicesOf 86 = .ok (.iload_n 2, 1) := by decide +kernel
theorem dX5_choicesOf_87 : decode cX5_choicesOf 87 = .ok (.ireturn, 1) := by decide +kernel
theorem dX5_choices_0 : decode cX5_choices 0 = .ok (.iload_n 1, 1) := by decide +kernel
theorem dX5_choices_1 : decode cX5_choices 1 = .ok (.invokestatic 97, 3) := by decide +kernel
theorem dX5_choices_4 : decode cX5_choices 4 = .ok (.ifCond .eq 11, 3) := by decide +kernel
theorem dX5_choices_7 : decode cX5_choices 7 = .ok (.aload_n 0, 1) := by decide +kernel
theorem dX5_choices_8 : decode cX5_choices 8 = .ok (.iload_n 1, 1) := by decide +kernel
theorem dX5_choices_9 : decode cX5_choices 9 = .ok (.invokevirtual 107, 3) := by decide +kernel
theorem dX5_choices_12 : decode cX5_choices 12 = .ok (.goto 4, 3) := by decide +kernel
theorem dX5_choices_15 : decode cX5_choices 15 = .ok (.iconst (-1), 1) := by decide +kernel
theorem dX5_choices_16 : decode cX5_choices 16 = .ok (.ireturn, 1) := by decide +kernel
theorem dX5_whole_0 : decode cX5_whole 0 = .ok (.iload_n 1, 1) := by decide +kernel
theorem dX5_whole_1 : decode cX5_whole 1 = .ok (.invokestatic 97, 3) := by decide +kernel
theorem dX5_whole_4 : decode cX5_whole 4 = .ok (.ifCond .ne 5, 3) := by decide +kernel
theorem dX5_whole_7 : decode cX5_whole 7 = .ok (.iconst (-1), 1) := by decide +kernel
theorem dX5_whole_8 : decode cX5_whole 8 = .ok (.ireturn, 1) := by decide +kernel
theorem dX5_whole_9 : decode cX5_whole 9 = .ok (.aload_n 0, 1) := by decide +kernel
theorem dX5_whole_10 : decode cX5_whole 10 = .ok (.getfield 31, 3) := by decide +kernel
theorem dX5_whole_13 : decode cX5_whole 13 = .ok (.istore_n 2, 1) := by decide +kernel
theorem dX5_whole_14 : decode cX5_whole 14 = .ok (.aload_n 0, 1) := by decide +kernel
theorem dX5_whole_15 : decode cX5_whole 15 = .ok (.iload_n 1, 1) := by decide +kernel
theorem dX5_whole_16 : decode cX5_whole 16 = .ok (.putfield 31, 3) := by decide +kernel
theorem dX5_whole_19 : decode cX5_whole 19 = .ok (.iload_n 2, 1) := by decide +kernel
theorem dX5_whole_20 : decode cX5_whole 20 = .ok (.ireturn, 1) := by decide +kernel
theorem dX5_coin_0 : decode cX5_coin 0 = .ok (.iload_n 1, 1) := by decide +kernel
theorem dX5_coin_1 : decode cX5_coin 1 = .ok (.iconst 0, 1) := by decide +kernel
theorem dX5_coin_2 : decode cX5_coin 2 = .ok (.bipush 99, 2) := by decide +kernel
theorem dX5_coin_4 : decode cX5_coin 4 = .ok (.invokestatic 69, 3) := by decide +kernel
theorem dX5_coin_7 : decode cX5_coin 7 = .ok (.ifCond .ne 6, 3) := by decide +kernel
theorem dX5_coin_10 : decode cX5_coin 10 = .ok (.bipush (-2), 2) := by decide +kernel
theorem dX5_coin_12 : decode cX5_coin 12 = .ok (.ireturn, 1) := by decide +kernel
theorem dX5_coin_13 : decode cX5_coin 13 = .ok (.aload_n 0, 1) := by decide +kernel
theorem dX5_coin_14 : decode cX5_coin 14 = .ok (.getfield 35, 3) := by decide +kernel
theorem dX5_coin_17 : decode cX5_coin 17 = .ok (.istore_n 2, 1) := by decide +kernel
theorem dX5_coin_18 : decode cX5_coin 18 = .ok (.aload_n 0, 1) := by decide +kernel
theorem dX5_coin_19 : decode cX5_coin 19 = .ok (.iload_n 1, 1) := by decide +kernel
theorem dX5_coin_20 : decode cX5_coin 20 = .ok (.putfield 35, 3) := by decide +kernel
theorem dX5_coin_23 : decode cX5_coin 23 = .ok (.iload_n 2, 1) := by decide +kernel
theorem dX5_coin_24 : decode cX5_coin 24 = .ok (.ireturn, 1) := by decide +kernel
theorem dX5_lay_0 : decode cX5_lay 0 = .ok (.iconst 0, 1) := by decide +kernel
theorem dX5_lay_1 : decode cX5_lay 1 = .ok (.istore_n 1, 1) := by decide +kernel
theorem dX5_lay_2 : decode cX5_lay 2 = .ok (.iload_n 1, 1) := by decide +kernel
theorem dX5_lay_3 : decode cX5_lay 3 = .ok (.iconst 4, 1) := by decide +kernel
theorem dX5_lay_4 : decode cX5_lay 4 = .ok (.if_icmp .ge 92, 3) := by decide +kernel
theorem dX5_lay_7 : decode cX5_lay 7 = .ok (.iconst 1, 1) := by decide +kernel
theorem dX5_lay_8 : decode cX5_lay 8 = .ok (.aload_n 0, 1) := by decide +kernel
theorem dX5_lay_9 : decode cX5_lay 9 = .ok (.getfield 31, 3) := by decide +kernel
theorem dX5_lay_12 : decode cX5_lay 12 = .ok (.ishl, 1) := by decide +kernel
theorem dX5_lay_13 : decode cX5_lay 13 = .ok (.istore_n 2, 1) := by decide +kernel
theorem dX5_lay_14 : decode cX5_lay 14 = .ok (.aload_n 0, 1) := by decide +kernel
theorem dX5_lay_15 : decode cX5_lay 15 = .ok (.getfield 31, 3) := by decide +kernel
theorem dX5_lay_18 : decode cX5_lay 18 = .ok (.istore_n 3, 1) := by decide +kernel
theorem dX5_lay_19 : decode cX5_lay 19 = .ok (.iload_n 3, 1) := by decide +kernel
theorem dX5_lay_20 : decode cX5_lay 20 = .ok (.ifCond .le 63, 3) := by decide +kernel
theorem dX5_lay_23 : decode cX5_lay 23 = .ok (.iconst 0, 1) := by decide +kernel
theorem dX5_lay_24 : decode cX5_lay 24 = .ok (.istore 4, 2) := by decide +kernel
theorem dX5_lay_26 : decode cX5_lay 26 = .ok (.iload 4, 2) := by decide +kernel
theorem dX5_lay_28 : decode cX5_lay 28 = .ok (.iload_n 3, 1) := by decide +kernel
theorem dX5_lay_29 : decode cX5_lay 29 = .ok (.if_icmp .ge 48, 3) := by decide +kernel
theorem dX5_lay_32 : decode cX5_lay 32 = .ok (.iload_n 2, 1) := by decide +kernel
theorem dX5_lay_33 : decode cX5_lay 33 = .ok (.iload_n 3, 1) := by decide +kernel
theorem dX5_lay_34 : decode cX5_lay 34 = .ok (.invokestatic 103, 3) := by decide +kernel
theorem dX5_lay_37 : decode cX5_lay 37 = .ok (.ifCond .eq 40, 3) := by decide +kernel
theorem dX5_lay_40 : decode cX5_lay 40 = .ok (.iload_n 2, 1) := by decide +kernel
theorem dX5_lay_41 : decode cX5_lay 41 = .ok (.aload_n 0, 1) := by decide +kernel
theorem dX5_lay_42 : decode cX5_lay 42 = .ok (.getfield 28, 3) := by decide +kernel
theorem dX5_lay_45 : decode cX5_lay 45 = .ok (.bipush 6, 2) := by decide +kernel
theorem dX5_lay_47 : decode cX5_lay 47 = .ok (.iload_n 3, 1) := by decide +kernel
theorem dX5_lay_48 : decode cX5_lay 48 = .ok (.imul, 1) := by decide +kernel
theorem dX5_lay_49 : decode cX5_lay 49 = .ok (.iload 4, 2) := by decide +kernel
theorem dX5_lay_51 : decode cX5_lay 51 = .ok (.iadd, 1) := by decide +kernel
theorem dX5_lay_52 : decode cX5_lay 52 = .ok (.iaload, 1) := by decide +kernel
theorem dX5_lay_53 : decode cX5_lay 53 = .ok (.iconst 0, 1) := by decide +kernel
theorem dX5_lay_54 : decode cX5_lay 54 = .ok (.iload_n 1, 1) := by decide +kernel
theorem dX5_lay_55 : decode cX5_lay 55 = .ok (.invokestatic 69, 3) := by decide +kernel
theorem dX5_lay_58 : decode cX5_lay 58 = .ok (.ifCond .eq 10, 3) := by decide +kernel
theorem dX5_lay_61 : decode cX5_lay 61 = .ok (.iconst 1, 1) := by decide +kernel
theorem dX5_lay_62 : decode cX5_lay 62 = .ok (.iload 4, 2) := by decide +kernel
theorem dX5_lay_64 : decode cX5_lay 64 = .ok (.ishl, 1) := by decide +kernel
theorem dX5_lay_65 : decode cX5_lay 65 = .ok (.goto 4, 3) := by decide +kernel
theorem dX5_lay_68 : decode cX5_lay 68 = .ok (.iconst 0, 1) := by decide +kernel
theorem dX5_lay_69 : decode cX5_lay 69 = .ok (.ior, 1) := by decide +kernel
theorem dX5_lay_70 : decode cX5_lay 70 = .ok (.istore_n 2, 1) := by decide +kernel
theorem dX5_lay_71 : decode cX5_lay 71 = .ok (.iinc 4 1, 3) := by decide +kernel
theorem dX5_lay_74 : decode cX5_lay 74 = .ok (.goto (-48), 3) := by decide +kernel
theorem dX5_lay_77 : decode cX5_lay 77 = .ok (.iinc 3 (-1), 3) := by decide +kernel
theorem dX5_lay_80 : decode cX5_lay 80 = .ok (.goto (-61), 3) := by decide +kernel
theorem dX5_lay_83 : decode cX5_lay 83 = .ok (.aload_n 0, 1) := by decide +kernel
theorem dX5_lay_84 : decode cX5_lay 84 = .ok (.getfield 38, 3) := by decide +kernel
theorem dX5_lay_87 : decode cX5_lay 87 = .ok (.iload_n 1, 1) := by decide +kernel
theorem dX5_lay_88 : decode cX5_lay 88 = .ok (.iload_n 2, 1) := by decide +kernel
theorem dX5_lay_89 : decode cX5_lay 89 = .ok (.iastore, 1) := by decide +kernel
theorem dX5_lay_90 : decode cX5_lay 90 = .ok (.iinc 1 1, 3) := by decide +kernel
theorem dX5_lay_93 : decode cX5_lay 93 = .ok (.goto (-91), 3) := by decide +kernel
theorem dX5_lay_96 : decode cX5_lay 96 = .ok (.iconst 0, 1) := by decide +kernel
theorem dX5_lay_97 : decode cX5_lay 97 = .ok (.istore_n 1, 1) := by decide +kernel
theorem dX5_lay_98 : decode cX5_lay 98 = .ok (.iload_n 1, 1) := by decide +kernel
theorem dX5_lay_99 : decode cX5_lay 99 = .ok (.bipush 6, 2) := by decide +kernel
theorem dX5_lay_101 : decode cX5_lay 101 = .ok (.if_icmp .ge 20, 3) := by decide +kernel
theorem dX5_lay_104 : decode cX5_lay 104 = .ok (.aload_n 0, 1) := by decide +kernel
theorem dX5_lay_105 : decode cX5_lay 105 = .ok (.getfield 41, 3) := by decide +kernel
theorem dX5_lay_108 : decode cX5_lay 108 = .ok (.iload_n 1, 1) := by decide +kernel
theorem dX5_lay_109 : decode cX5_lay 109 = .ok (.aload_n 0, 1) := by decide +kernel
theorem dX5_lay_110 : decode cX5_lay 110 = .ok (.iload_n 1, 1) := by decide +kernel
theorem dX5_lay_111 : decode cX5_lay 111 = .ok (.invokevirtual 107, 3) := by decide +kernel
theorem dX5_lay_114 : decode cX5_lay 114 = .ok (.iastore, 1) := by decide +kernel
theorem dX5_lay_115 : decode cX5_lay 115 = .ok (.iinc 1 1, 3) := by decide +kernel
theorem dX5_lay_118 : decode cX5_lay 118 = .ok (.goto (-20), 3) := by decide +kernel
theorem dX5_lay_121 : decode cX5_lay 121 = .ok (.aload_n 0, 1) := by decide +kernel
theorem dX5_lay_122 : decode cX5_lay 122 = .ok (.iconst 0, 1) := by decide +kernel
theorem dX5_lay_123 : decode cX5_lay 123 = .ok (.putfield 110, 3) := by decide +kernel
theorem dX5_lay_126 : decode cX5_lay 126 = .ok (.return_, 1) := by decide +kernel
theorem dX5_pieces_0 : decode cX5_pieces 0 = .ok (.aload_n 0, 1) := by decide +kernel
theorem dX5_pieces_1 : decode cX5_pieces 1 = .ok (.invokevirtual 113, 3) := by decide +kernel
theorem dX5_pieces_4 : decode cX5_pieces 4 = .ok (.aload_n 0, 1) := by decide +kernel
theorem dX5_pieces_5 : decode cX5_pieces 5 = .ok (.getfield 38, 3) := by decide +kernel
theorem dX5_pieces_8 : decode cX5_pieces 8 = .ok (.iconst 3, 1) := by decide +kernel
theorem dX5_pieces_9 : decode cX5_pieces 9 = .ok (.iaload, 1) := by decide +kernel
theorem dX5_pieces_10 : decode cX5_pieces 10 = .ok (.ireturn, 1) := by decide +kernel
theorem dX5_isChosen_0 : decode cX5_isChosen 0 = .ok (.iload_n 1, 1) := by decide +kernel
theorem dX5_isChosen_1 : decode cX5_isChosen 1 = .ok (.aload_n 0, 1) := by decide +kernel
theorem dX5_isChosen_2 : decode cX5_isChosen 2 = .ok (.getfield 31, 3) := by decide +kernel
theorem dX5_isChosen_5 : decode cX5_isChosen 5 = .ok (.if_icmp .eq 20, 3) := by decide +kernel
theorem dX5_isChosen_8 : decode cX5_isChosen 8 = .ok (.aload_n 0, 1) := by decide +kernel
theorem dX5_isChosen_9 : decode cX5_isChosen 9 = .ok (.getfield 38, 3) := by decide +kernel
theorem dX5_isChosen_12 : decode cX5_isChosen 12 = .ok (.iconst 3, 1) := by decide +kernel
theorem dX5_isChosen_13 : decode cX5_isChosen 13 = .ok (.iaload, 1) := by decide +kernel
theorem dX5_isChosen_14 : decode cX5_isChosen 14 = .ok (.iload_n 1, 1) := by decide +kernel
theorem dX5_isChosen_15 : decode cX5_isChosen 15 = .ok (.invokestatic 103, 3) := by decide +kernel
theorem dX5_isChosen_18 : decode cX5_isChosen 18 = .ok (.ifCond .eq 7, 3) := by decide +kernel
theorem dX5_isChosen_21 : decode cX5_isChosen 21 = .ok (.iconst 1, 1) := by decide +kernel
theorem dX5_isChosen_22 : decode cX5_isChosen 22 = .ok (.goto 4, 3) := by decide +kernel
theorem dX5_isChosen_25 : decode cX5_isChosen 25 = .ok (.iconst 0, 1) := by decide +kernel
theorem dX5_isChosen_26 : decode cX5_isChosen 26 = .ok (.ireturn, 1) := by decide +kernel
theorem dX5_reaches_0 : decode cX5_reaches 0 = .ok (.aload_n 0, 1) := by decide +kernel
theorem dX5_reaches_1 : decode cX5_reaches 1 = .ok (.iload_n 1, 1) := by decide +kernel
theorem dX5_reaches_2 : decode cX5_reaches 2 = .ok (.invokevirtual 116, 3) := by decide +kernel
theorem dX5_reaches_5 : decode cX5_reaches 5 = .ok (.ifCond .eq 41, 3) := by decide +kernel
theorem dX5_reaches_8 : decode cX5_reaches 8 = .ok (.aload_n 0, 1) := by decide +kernel
theorem dX5_reaches_9 : decode cX5_reaches 9 = .ok (.getfield 110, 3) := by decide +kernel
theorem dX5_reaches_12 : decode cX5_reaches 12 = .ok (.iload_n 1, 1) := by decide +kernel
theorem dX5_reaches_13 : decode cX5_reaches 13 = .ok (.invokestatic 103, 3) := by decide +kernel
theorem dX5_reaches_16 : decode cX5_reaches 16 = .ok (.ifCond .ne 30, 3) := by decide +kernel
theorem dX5_reaches_19 : decode cX5_reaches 19 = .ok (.aload_n 0, 1) := by decide +kernel
theorem dX5_reaches_20 : decode cX5_reaches 20 = .ok (.getfield 38, 3) := by decide +kernel
theorem dX5_reaches_23 : decode cX5_reaches 23 = .ok (.aload_n 0, 1) := by decide +kernel
theorem dX5_reaches_24 : decode cX5_reaches 24 = .ok (.getfield 16, 3) := by decide +kernel
theorem dX5_reaches_27 : decode cX5_reaches 27 = .ok (.aload_n 0, 1) := by decide +kernel
theorem dX5_reaches_28 : decode cX5_reaches 28 = .ok (.getfield 44, 3) := by decide +kernel
theorem dX5_reaches_31 : decode cX5_reaches 31 = .ok (.iload_n 1, 1) := by decide +kernel
theorem dX5_reaches_32 : decode cX5_reaches 32 = .ok (.iaload, 1) := by decide +kernel
theorem dX5_reaches_33 : decode cX5_reaches 33 = .ok (.iaload, 1) := by decide +kernel
theorem dX5_reaches_34 : decode cX5_reaches 34 = .ok (.iaload, 1) := by decide +kernel
theorem dX5_reaches_35 : decode cX5_reaches 35 = .ok (.iload_n 1, 1) := by decide +kernel
theorem dX5_reaches_36 : decode cX5_reaches 36 = .ok (.invokestatic 103, 3) := by decide +kernel
theorem dX5_reaches_39 : decode cX5_reaches 39 = .ok (.ifCond .eq 7, 3) := by decide +kernel
theorem dX5_reaches_42 : decode cX5_reaches 42 = .ok (.iconst 1, 1) := by decide +kernel
theorem dX5_reaches_43 : decode cX5_reaches 43 = .ok (.goto 4, 3) := by decide +kernel
theorem dX5_reaches_46 : decode cX5_reaches 46 = .ok (.iconst 0, 1) := by decide +kernel
theorem dX5_reaches_47 : decode cX5_reaches 47 = .ok (.ireturn, 1) := by decide +kernel
theorem dX5_byWay_0 : decode cX5_byWay 0 = .ok (.iload_n 1, 1) := by decide +kernel
theorem dX5_byWay_1 : decode cX5_byWay 1 = .ok (.ifCond .ne 7, 3) := by decide +kernel
theorem dX5_byWay_4 : decode cX5_byWay 4 = .ok (.iload_n 0, 1) := by decide +kernel
theorem dX5_byWay_5 : decode cX5_byWay 5 = .ok (.goto 18, 3) := by decide +kernel
theorem dX5_byWay_8 : decode cX5_byWay 8 = .ok (.iload_n 1, 1) := by decide +kernel
theorem dX5_byWay_9 : decode cX5_byWay 9 = .ok (.iconst 1, 1) := by decide +kernel
theorem dX5_byWay_10 : decode cX5_byWay 10 = .ok (.if_icmp .ne 10, 3) := by decide +kernel
theorem dX5_byWay_13 : decode cX5_byWay 13 = .ok (.iload_n 0, 1) := by decide +kernel
theorem dX5_byWay_14 : decode cX5_byWay 14 = .ok (.bipush 22, 2) := by decide +kernel
theorem dX5_byWay_16 : decode cX5_byWay 16 = .ok (.iand, 1) := by decide +kernel
theorem dX5_byWay_17 : decode cX5_byWay 17 = .ok (.goto 6, 3) := by decide +kernel
theorem dX5_byWay_20 : decode cX5_byWay 20 = .ok (.iload_n 0, 1) := by decide +kernel
theorem dX5_byWay_21 : decode cX5_byWay 21 = .ok (.iconst 4, 1) := by decide +kernel
theorem dX5_byWay_22 : decode cX5_byWay 22 = .ok (.iand, 1) := by decide +kernel
theorem dX5_byWay_23 : decode cX5_byWay 23 = .ok (.ireturn, 1) := by decide +kernel
theorem dX5_musts_0 : decode cX5_musts 0 = .ok (.iconst 0, 1) := by decide +kernel
theorem dX5_musts_1 : decode cX5_musts 1 = .ok (.istore_n 1, 1) := by decide +kernel
theorem dX5_musts_2 : decode cX5_musts 2 = .ok (.iconst 0, 1) := by decide +kernel
theorem dX5_musts_3 : decode cX5_musts 3 = .ok (.istore_n 2, 1) := by decide +kernel
theorem dX5_musts_4 : decode cX5_musts 4 = .ok (.iload_n 2, 1) := by decide +kernel
theorem dX5_musts_5 : decode cX5_musts 5 = .ok (.bipush 6, 2) := by decide +kernel
theorem dX5_musts_7 : decode cX5_musts 7 = .ok (.if_icmp .ge 35, 3) := by decide +kernel
theorem dX5_musts_10 : decode cX5_musts 10 = .ok (.iload_n 1, 1) := by decide +kernel
theorem dX5_musts_11 : decode cX5_musts 11 = .ok (.aload_n 0, 1) := by decide +kernel
theorem dX5_musts_12 : decode cX5_musts 12 = .ok (.iload_n 2, 1) := by decide +kernel
theorem dX5_musts_13 : decode cX5_musts 13 = .ok (.invokevirtual 119, 3) := by decide +kernel
theorem dX5_musts_16 : decode cX5_musts 16 = .ok (.ifCond .eq 17, 3) := by decide +kernel
theorem dX5_musts_19 : decode cX5_musts 19 = .ok (.aload_n 0, 1) := by decide +kernel
theorem dX5_musts_20 : decode cX5_musts 20 = .ok (.getfield 13, 3) := by decide +kernel
theorem dX5_musts_23 : decode cX5_musts 23 = .ok (.aload_n 0, 1) := by decide +kernel
theorem dX5_musts_24 : decode cX5_musts 24 = .ok (.getfield 44, 3) := by decide +kernel
theorem dX5_musts_27 : decode cX5_musts 27 = .ok (.iload_n 2, 1) := by decide +kernel
theorem dX5_musts_28 : decode cX5_musts 28 = .ok (.iaload, 1) := by decide +kernel
theorem dX5_musts_29 : decode cX5_musts 29 = .ok (.iaload, 1) := by decide +kernel
theorem dX5_musts_30 : decode cX5_musts 30 = .ok (.goto 4, 3) := by decide +kernel
theorem dX5_musts_33 : decode cX5_musts 33 = .ok (.iconst 0, 1) := by decide +kernel
theorem dX5_musts_34 : decode cX5_musts 34 = .ok (.ior, 1) := by decide +kernel
theorem dX5_musts_35 : decode cX5_musts 35 = .ok (.istore_n 1, 1) := by decide +kernel
theorem dX5_musts_36 : decode cX5_musts 36 = .ok (.iinc 2 1, 3) := by decide +kernel
theorem dX5_musts_39 : decode cX5_musts 39 = .ok (.goto (-35), 3) := by decide +kernel
theorem dX5_musts_42 : decode cX5_musts 42 = .ok (.iload_n 1, 1) := by decide +kernel
theorem dX5_musts_43 : decode cX5_musts 43 = .ok (.ireturn, 1) := by decide +kernel
theorem dX5_mayGo_0 : decode cX5_mayGo 0 = .ok (.aload_n 0, 1) := by decide +kernel
theorem dX5_mayGo_1 : decode cX5_mayGo 1 = .ok (.getfield 41, 3) := by decide +kernel
theorem dX5_mayGo_4 : decode cX5_mayGo 4 = .ok (.aload_n 0, 1) := by decide +kernel
theorem dX5_mayGo_5 : decode cX5_mayGo 5 = .ok (.getfield 31, 3) := by decide +kernel
theorem dX5_mayGo_8 : decode cX5_mayGo 8 = .ok (.iaload, 1) := by decide +kernel
theorem dX5_mayGo_9 : decode cX5_mayGo 9 = .ok (.istore_n 1, 1) := by decide +kernel
theorem dX5_mayGo_10 : decode cX5_mayGo 10 = .ok (.iconst 0, 1) := by decide +kernel
theorem dX5_mayGo_11 : decode cX5_mayGo 11 = .ok (.istore_n 2, 1) := by decide +kernel
theorem dX5_mayGo_12 : decode cX5_mayGo 12 = .ok (.iload_n 2, 1) := by decide +kernel
theorem dX5_mayGo_13 : decode cX5_mayGo 13 = .ok (.bipush 6, 2) := by decide +kernel
theorem dX5_mayGo_15 : decode cX5_mayGo 15 = .ok (.if_icmp .ge 36, 3) := by decide +kernel
theorem dX5_mayGo_18 : decode cX5_mayGo 18 = .ok (.iload_n 1, 1) := by decide +kernel
theorem dX5_mayGo_19 : decode cX5_mayGo 19 = .ok (.aload_n 0, 1) := by decide +kernel
theorem dX5_mayGo_20 : decode cX5_mayGo 20 = .ok (.iload_n 2, 1) := by decide +kernel
theorem dX5_mayGo_21 : decode cX5_mayGo 21 = .ok (.invokevirtual 119, 3) := by decide +kernel
theorem dX5_mayGo_24 : decode cX5_mayGo 24 = .ok (.ifCond .eq 17, 3) := by decide +kernel
theorem dX5_mayGo_27 : decode cX5_mayGo 27 = .ok (.aload_n 0, 1) := by decide +kernel
theorem dX5_mayGo_28 : decode cX5_mayGo 28 = .ok (.getfield 19, 3) := by decide +kernel
theorem dX5_mayGo_31 : decode cX5_mayGo 31 = .ok (.aload_n 0, 1) := by decide +kernel
theorem dX5_mayGo_32 : decode cX5_mayGo 32 = .ok (.getfield 44, 3) := by decide +kernel
theorem dX5_mayGo_35 : decode cX5_mayGo 35 = .ok (.iload_n 2, 1) := by decide +kernel
theorem dX5_mayGo_36 : decode cX5_mayGo 36 = .ok (.iaload, 1) := by decide +kernel
theorem dX5_mayGo_37 : decode cX5_mayGo 37 = .ok (.iaload, 1) := by decide +kernel
theorem dX5_mayGo_38 : decode cX5_mayGo 38 = .ok (.goto 5, 3) := by decide +kernel
theorem dX5_mayGo_41 : decode cX5_mayGo 41 = .ok (.bipush 31, 2) := by decide +kernel
theorem dX5_mayGo_43 : decode cX5_mayGo 43 = .ok (.iand, 1) := by decide +kernel
theorem dX5_mayGo_44 : decode cX5_mayGo 44 = .ok (.istore_n 1, 1) := by decide +kernel
theorem dX5_mayGo_45 : decode cX5_mayGo 45 = .ok (.iinc 2 1, 3) := by decide +kernel
theorem dX5_mayGo_48 : decode cX5_mayGo 48 = .ok (.goto (-36), 3) := by decide +kernel
theorem dX5_mayGo_51 : decode cX5_mayGo 51 = .ok (.iload_n 1, 1) := by decide +kernel
theorem dX5_mayGo_52 : decode cX5_mayGo 52 = .ok (.ireturn, 1) := by decide +kernel
theorem dX5_by_0 : decode cX5_by 0 = .ok (.aload_n 0, 1) := by decide +kernel
theorem dX5_by_1 : decode cX5_by 1 = .ok (.invokevirtual 113, 3) := by decide +kernel
theorem dX5_by_4 : decode cX5_by 4 = .ok (.iload_n 1, 1) := by decide +kernel
theorem dX5_by_5 : decode cX5_by 5 = .ok (.ifCond .lt 12, 3) := by decide +kernel
theorem dX5_by_8 : decode cX5_by 8 = .ok (.iload_n 2, 1) := by decide +kernel
theorem dX5_by_9 : decode cX5_by 9 = .ok (.iconst 0, 1) := by decide +kernel
theorem dX5_by_10 : decode cX5_by 10 = .ok (.iconst 4, 1) := by decide +kernel
theorem dX5_by_11 : decode cX5_by 11 = .ok (.invokestatic 69, 3) := by decide +kernel
theorem dX5_by_14 : decode cX5_by 14 = .ok (.ifCond .ne 6, 3) := by decide +kernel
theorem dX5_by_17 : decode cX5_by 17 = .ok (.bipush (-2), 2) := by decide +kernel
theorem dX5_by_19 : decode cX5_by 19 = .ok (.ireturn, 1) := by decide +kernel
theorem dX5_by_20 : decode cX5_by 20 = .ok (.iload_n 1, 1) := by decide +kernel
theorem dX5_by_21 : decode cX5_by 21 = .ok (.istore_n 3, 1) := by decide +kernel
theorem dX5_by_22 : decode cX5_by 22 = .ok (.iconst 1, 1) := by decide +kernel
theorem dX5_by_23 : decode cX5_by 23 = .ok (.istore 4, 2) := by decide +kernel
theorem dX5_by_25 : decode cX5_by 25 = .ok (.iconst 0, 1) := by decide +kernel
theorem dX5_by_26 : decode cX5_by 26 = .ok (.istore 5, 2) := by decide +kernel
theorem dX5_by_28 : decode cX5_by 28 = .ok (.iload 5, 2) := by decide +kernel
theorem dX5_by_30 : decode cX5_by 30 = .ok (.bipush 6, 2) := by decide +kernel
theorem dX5_by_32 : decode cX5_by 32 = .ok (.if_icmp .ge 79, 3) := by decide +kernel
theorem dX5_by_35 : decode cX5_by 35 = .ok (.iload_n 3, 1) := by decide +kernel
theorem dX5_by_36 : decode cX5_by 36 = .ok (.bipush 10, 2) := by decide +kernel
theorem dX5_by_38 : decode cX5_by 38 = .ok (.irem, 1) := by decide +kernel
theorem dX5_by_39 : decode cX5_by 39 = .ok (.istore 6, 2) := by decide +kernel
theorem dX5_by_41 : decode cX5_by 41 = .ok (.iload_n 3, 1) := by decide +kernel
theorem dX5_by_42 : decode cX5_by 42 = .ok (.bipush 10, 2) := by decide +kernel
theorem dX5_by_44 : decode cX5_by 44 = .ok (.idiv, 1) := by decide +kernel
theorem dX5_by_45 : decode cX5_by 45 = .ok (.istore_n 3, 1) := by decide +kernel
theorem dX5_by_46 : decode cX5_by 46 = .ok (.iload 4, 2) := by decide +kernel
theorem dX5_by_48 : decode cX5_by 48 = .ok (.ifCond .eq 45, 3) := by decide +kernel
theorem dX5_by_51 : decode cX5_by 51 = .ok (.aload_n 0, 1) := by decide +kernel
theorem dX5_by_52 : decode cX5_by 52 = .ok (.iload 5, 2) := by decide +kernel
theorem dX5_by_54 : decode cX5_by 54 = .ok (.invokevirtual 116, 3) := by decide +kernel
theorem dX5_by_57 : decode cX5_by 57 = .ok (.ifCond .eq 27, 3) := by decide +kernel
theorem dX5_by_60 : decode cX5_by 60 = .ok (.iload 6, 2) := by decide +kernel
theorem dX5_by_62 : decode cX5_by 62 = .ok (.iconst 5, 1) := by decide +kernel
theorem dX5_by_63 : decode cX5_by 63 = .ok (.if_icmp .ge 30, 3) := by decide +kernel
theorem dX5_by_66 : decode cX5_by 66 = .ok (.aload_n 0, 1) := by decide +kernel
theorem dX5_by_67 : decode cX5_by 67 = .ok (.getfield 41, 3) := by decide +kernel
theorem dX5_by_70 : decode cX5_by 70 = .ok (.iload 5, 2) := by decide +kernel
theorem dX5_by_72 : decode cX5_by 72 = .ok (.iaload, 1) := by decide +kernel
theorem dX5_by_73 : decode cX5_by 73 = .ok (.iload 6, 2) := by decide +kernel
theorem dX5_by_75 : decode cX5_by 75 = .ok (.invokestatic 103, 3) := by decide +kernel
theorem dX5_by_78 : decode cX5_by 78 = .ok (.ifCond .eq 15, 3) := by decide +kernel
theorem dX5_by_81 : decode cX5_by 81 = .ok (.goto 8, 3) := by decide +kernel
theorem dX5_by_84 : decode cX5_by 84 = .ok (.iload 6, 2) := by decide +kernel
theorem dX5_by_86 : decode cX5_by 86 = .ok (.ifCond .ne 7, 3) := by decide +kernel
theorem dX5_by_89 : decode cX5_by 89 = .ok (.iconst 1, 1) := by decide +kernel
theorem dX5_by_90 : decode cX5_by 90 = .ok (.goto 4, 3) := by decide +kernel
theorem dX5_by_93 : decode cX5_by 93 = .ok (.iconst 0, 1) := by decide +kernel
theorem dX5_by_94 : decode cX5_by 94 = .ok (.istore 4, 2) := by decide +kernel
theorem dX5_by_96 : decode cX5_by 96 = .ok (.aload_n 0, 1) := by decide +kernel
theorem dX5_by_97 : decode cX5_by 97 = .ok (.getfield 44, 3) := by decide +kernel
theorem dX5_by_100 : decode cX5_by 100 = .ok (.iload 5, 2) := by decide +kernel
theorem dX5_by_102 : decode cX5_by 102 = .ok (.iload 6, 2) := by decide +kernel
theorem dX5_by_104 : decode cX5_by 104 = .ok (.iastore, 1) := by decide +kernel
theorem dX5_by_105 : decode cX5_by 105 = .ok (.iinc 5 1, 3) := by decide +kernel
theorem dX5_by_108 : decode cX5_by 108 = .ok (.goto (-80), 3) := by decide +kernel
theorem dX5_by_111 : decode cX5_by 111 = .ok (.iload 4, 2) := by decide +kernel
theorem dX5_by_113 : decode cX5_by 113 = .ok (.ifCond .eq 7, 3) := by decide +kernel
theorem dX5_by_116 : decode cX5_by 116 = .ok (.iload_n 3, 1) := by decide +kernel
theorem dX5_by_117 : decode cX5_by 117 = .ok (.ifCond .le 6, 3) := by decide +kernel
theorem dX5_by_120 : decode cX5_by 120 = .ok (.bipush (-2), 2) := by decide +kernel
theorem dX5_by_122 : decode cX5_by 122 = .ok (.ireturn, 1) := by decide +kernel
theorem dX5_by_123 : decode cX5_by 123 = .ok (.iload_n 2, 1) := by decide +kernel
theorem dX5_by_124 : decode cX5_by 124 = .ok (.iconst 4, 1) := by decide +kernel
theorem dX5_by_125 : decode cX5_by 125 = .ok (.if_icmp .ne 8, 3) := by decide +kernel
theorem dX5_by_128 : decode cX5_by 128 = .ok (.aload_n 0, 1) := by decide +kernel
theorem dX5_by_129 : decode cX5_by 129 = .ok (.invokevirtual 122, 3) := by decide +kernel
theorem dX5_by_132 : decode cX5_by 132 = .ok (.ireturn, 1) := by decide +kernel
theorem dX5_by_133 : decode cX5_by 133 = .ok (.iconst 0, 1) := by decide +kernel
theorem dX5_by_134 : decode cX5_by 134 = .ok (.istore 5, 2) := by decide +kernel
theorem dX5_by_136 : decode cX5_by 136 = .ok (.iconst 0, 1) := by decide +kernel
theorem dX5_by_137 : decode cX5_by 137 = .ok (.istore 6, 2) := by decide +kernel
theorem dX5_by_139 : decode cX5_by 139 = .ok (.iload 6, 2) := by decide +kernel
theorem dX5_by_141 : decode cX5_by 141 = .ok (.bipush 6, 2) := by decide +kernel
theorem dX5_by_143 : decode cX5_by 143 = .ok (.if_icmp .ge 31, 3) := by decide +kernel
theorem dX5_by_146 : decode cX5_by 146 = .ok (.iload 5, 2) := by decide +kernel
theorem dX5_by_148 : decode cX5_by 148 = .ok (.aload_n 0, 1) := by decide +kernel
theorem dX5_by_149 : decode cX5_by 149 = .ok (.iload 6, 2) := by decide +kernel
theorem dX5_by_151 : decode cX5_by 151 = .ok (.invokevirtual 119, 3) := by decide +kernel
theorem dX5_by_154 : decode cX5_by 154 = .ok (.ifCond .eq 10, 3) := by decide +kernel
theorem dX5_by_157 : decode cX5_by 157 = .ok (.iconst 1, 1) := by decide +kernel
theorem dX5_by_158 : decode cX5_by 158 = .ok (.iload 6, 2) := by decide +kernel
theorem dX5_by_160 : decode cX5_by 160 = .ok (.ishl, 1) := by decide +kernel
theorem dX5_by_161 : decode cX5_by 161 = .ok (.goto 4, 3) := by decide +kernel
theorem dX5_by_164 : decode cX5_by 164 = .ok (.iconst 0, 1) := by decide +kernel
theorem dX5_by_165 : decode cX5_by 165 = .ok (.ior, 1) := by decide +kernel
theorem dX5_by_166 : decode cX5_by 166 = .ok (.istore 5, 2) := by decide +kernel
theorem dX5_by_168 : decode cX5_by 168 = .ok (.iinc 6 1, 3) := by decide +kernel
theorem dX5_by_171 : decode cX5_by 171 = .ok (.goto (-32), 3) := by decide +kernel
theorem dX5_by_174 : decode cX5_by 174 = .ok (.iload_n 2, 1) := by decide +kernel
theorem dX5_by_175 : decode cX5_by 175 = .ok (.ifCond .ne 8, 3) := by decide +kernel
theorem dX5_by_178 : decode cX5_by 178 = .ok (.iload 5, 2) := by decide +kernel
theorem dX5_by_180 : decode cX5_by 180 = .ok (.goto 13, 3) := by decide +kernel
theorem dX5_by_183 : decode cX5_by 183 = .ok (.aload_n 0, 1) := by decide +kernel
theorem dX5_by_184 : decode cX5_by 184 = .ok (.invokevirtual 125, 3) := by decide +kernel
theorem dX5_by_187 : decode cX5_by 187 = .ok (.iload_n 2, 1) := by decide +kernel
theorem dX5_by_188 : decode cX5_by 188 = .ok (.iconst 1, 1) := by decide +kernel
theorem dX5_by_189 : decode cX5_by 189 = .ok (.isub, 1) := by decide +kernel
theorem dX5_by_190 : decode cX5_by 190 = .ok (.invokestatic 128, 3) := by decide +kernel
theorem dX5_by_193 : decode cX5_by 193 = .ok (.ireturn, 1) := by decide +kernel
theorem dX5_leastIn_0 : decode cX5_leastIn 0 = .ok (.iconst 0, 1) := by decide +kernel
theorem dX5_leastIn_1 : decode cX5_leastIn 1 = .ok (.istore_n 1, 1) := by decide +kernel
theorem dX5_leastIn_2 : decode cX5_leastIn 2 = .ok (.iload_n 0, 1) := by decide +kernel
theorem dX5_leastIn_3 : decode cX5_leastIn 3 = .ok (.iload_n 1, 1) := by decide +kernel
theorem dX5_leastIn_4 : decode cX5_leastIn 4 = .ok (.invokestatic 103, 3) := by decide +kernel
theorem dX5_leastIn_7 : decode cX5_leastIn 7 = .ok (.ifCond .ne 9, 3) := by decide +kernel
theorem dX5_leastIn_10 : decode cX5_leastIn 10 = .ok (.iinc 1 1, 3) := by decide +kernel
theorem dX5_leastIn_13 : decode cX5_leastIn 13 = .ok (.goto (-11), 3) := by decide +kernel
theorem dX5_leastIn_16 : decode cX5_leastIn 16 = .ok (.iload_n 1, 1) := by decide +kernel
theorem dX5_leastIn_17 : decode cX5_leastIn 17 = .ok (.ireturn, 1) := by decide +kernel
theorem dX5_begin_0 : decode cX5_begin 0 = .ok (.iconst 0, 1) := by decide +kernel
theorem dX5_begin_1 : decode cX5_begin 1 = .ok (.istore_n 1, 1) := by decide +kernel
theorem dX5_begin_2 : decode cX5_begin 2 = .ok (.iload_n 1, 1) := by decide +kernel
theorem dX5_begin_3 : decode cX5_begin 3 = .ok (.bipush 6, 2) := by decide +kernel
theorem dX5_begin_5 : decode cX5_begin 5 = .ok (.if_icmp .ge 36, 3) := by decide +kernel
theorem dX5_begin_8 : decode cX5_begin 8 = .ok (.aload_n 0, 1) := by decide +kernel
theorem dX5_begin_9 : decode cX5_begin 9 = .ok (.getfield 44, 3) := by decide +kernel
theorem dX5_begin_12 : decode cX5_begin 12 = .ok (.iload_n 1, 1) := by decide +kernel
theorem dX5_begin_13 : decode cX5_begin 13 = .ok (.aload_n 0, 1) := by decide +kernel
theorem dX5_begin_14 : decode cX5_begin 14 = .ok (.iload_n 1, 1) := by decide +kernel
theorem dX5_begin_15 : decode cX5_begin 15 = .ok (.invokevirtual 116, 3) := by decide +kernel
theorem dX5_begin_18 : decode cX5_begin 18 = .ok (.ifCond .eq 15, 3) := by decide +kernel
theorem dX5_begin_21 : decode cX5_begin 21 = .ok (.aload_n 0, 1) := by decide +kernel
theorem dX5_begin_22 : decode cX5_begin 22 = .ok (.getfield 41, 3) := by decide +kernel
theorem dX5_begin_25 : decode cX5_begin 25 = .ok (.iload_n 1, 1) := by decide +kernel
theorem dX5_begin_26 : decode cX5_begin 26 = .ok (.iaload, 1) := by decide +kernel
theorem dX5_begin_27 : decode cX5_begin 27 = .ok (.invokestatic 132, 3) := by decide +kernel
theorem dX5_begin_30 : decode cX5_begin 30 = .ok (.goto 4, 3) := by decide +kernel
theorem dX5_begin_33 : decode cX5_begin 33 = .ok (.iconst 0, 1) := by decide +kernel
theorem dX5_begin_34 : decode cX5_begin 34 = .ok (.iastore, 1) := by decide +kernel
theorem dX5_begin_35 : decode cX5_begin 35 = .ok (.iinc 1 1, 3) := by decide +kernel
theorem dX5_begin_38 : decode cX5_begin 38 = .ok (.goto (-36), 3) := by decide +kernel
theorem dX5_begin_41 : decode cX5_begin 41 = .ok (.return_, 1) := by decide +kernel
theorem dX5_next_0 : decode cX5_next 0 = .ok (.iconst 5, 1) := by decide +kernel
theorem dX5_next_1 : decode cX5_next 1 = .ok (.istore_n 1, 1) := by decide +kernel
theorem dX5_next_2 : decode cX5_next 2 = .ok (.iload_n 1, 1) := by decide +kernel
theorem dX5_next_3 : decode cX5_next 3 = .ok (.ifCond .lt 89, 3) := by decide +kernel
theorem dX5_next_6 : decode cX5_next 6 = .ok (.aload_n 0, 1) := by decide +kernel
theorem dX5_next_7 : decode cX5_next 7 = .ok (.iload_n 1, 1) := by decide +kernel
theorem dX5_next_8 : decode cX5_next 8 = .ok (.invokevirtual 116, 3) := by decide +kernel
theorem dX5_next_11 : decode cX5_next 11 = .ok (.ifCond .eq 30, 3) := by decide +kernel
theorem dX5_next_14 : decode cX5_next 14 = .ok (.aload_n 0, 1) := by decide +kernel
theorem dX5_next_15 : decode cX5_next 15 = .ok (.getfield 41, 3) := by decide +kernel
theorem dX5_next_18 : decode cX5_next 18 = .ok (.iload_n 1, 1) := by decide +kernel
theorem dX5_next_19 : decode cX5_next 19 = .ok (.iaload, 1) := by decide +kernel
theorem dX5_next_20 : decode cX5_next 20 = .ok (.aload_n 0, 1) := by decide +kernel
theorem dX5_next_21 : decode cX5_next 21 = .ok (.getfield 44, 3) := by decide +kernel
theorem dX5_next_24 : decode cX5_next 24 = .ok (.iload_n 1, 1) := by decide +kernel
theorem dX5_next_25 : decode cX5_next 25 = .ok (.iaload, 1) := by decide +kernel
theorem dX5_next_26 : decode cX5_next 26 = .ok (.iconst 1, 1) := by decide +kernel
theorem dX5_next_27 : decode cX5_next 27 = .ok (.iadd, 1) := by decide +kernel
theorem dX5_next_28 : decode cX5_next 28 = .ok (.ishr, 1) := by decide +kernel
theorem dX5_next_29 : decode cX5_next 29 = .ok (.aload_n 0, 1) := by decide +kernel
theorem dX5_next_30 : decode cX5_next 30 = .ok (.getfield 44, 3) := by decide +kernel
theorem dX5_next_33 : decode cX5_next 33 = .ok (.iload_n 1, 1) := by decide +kernel
theorem dX5_next_34 : decode cX5_next 34 = .ok (.iaload, 1) := by decide +kernel
theorem dX5_next_35 : decode cX5_next 35 = .ok (.iconst 1, 1) := by decide +kernel
theorem dX5_next_36 : decode cX5_next 36 = .ok (.iadd, 1) := by decide +kernel
theorem dX5_next_37 : decode cX5_next 37 = .ok (.ishl, 1) := by decide +kernel
theorem dX5_next_38 : decode cX5_next 38 = .ok (.goto 4, 3) := by decide +kernel
theorem dX5_next_41 : decode cX5_next 41 = .ok (.iconst 0, 1) := by decide +kernel
theorem dX5_next_42 : decode cX5_next 42 = .ok (.istore_n 2, 1) := by decide +kernel
theorem dX5_next_43 : decode cX5_next 43 = .ok (.iload_n 2, 1) := by decide +kernel
theorem dX5_next_44 : decode cX5_next 44 = .ok (.ifCond .eq 15, 3) := by decide +kernel
theorem dX5_next_47 : decode cX5_next 47 = .ok (.aload_n 0, 1) := by decide +kernel
theorem dX5_next_48 : decode cX5_next 48 = .ok (.getfield 44, 3) := by decide +kernel
theorem dX5_next_51 : decode cX5_next 51 = .ok (.iload_n 1, 1) := by decide +kernel
theorem dX5_next_52 : decode cX5_next 52 = .ok (.iload_n 2, 1) := by decide +kernel
theorem dX5_next_53 : decode cX5_next 53 = .ok (.invokestatic 132, 3) := by decide +kernel
theorem dX5_next_56 : decode cX5_next 56 = .ok (.iastore, 1) := by decide +kernel
theorem dX5_next_57 : decode cX5_next 57 = .ok (.iconst 1, 1) := by decide +kernel
theorem dX5_next_58 : decode cX5_next 58 = .ok (.ireturn, 1) := by decide +kernel
