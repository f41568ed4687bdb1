theorem dX3_askedBy_1 : decode cX3_askedBy 1 = .ok (.lookupswitch 33 #[(0, 27), (1, 30)], 27) := by decide +kernel
theorem dX3_askedBy_28 : decode cX3_askedBy 28 = .ok (.bipush 31, 2) := by decide +kernel
theorem dX3_askedBy_30 : decode cX3_askedBy 30 = .ok (.ireturn, 1) := by decide +kernel
theorem dX3_askedBy_31 : decode cX3_askedBy 31 = .ok (.bipush 22, 2) := by decide +kernel
theorem dX3_askedBy_33 : decode cX3_askedBy 33 = .ok (.ireturn, 1) := by decide +kernel
theorem dX3_askedBy_34 : decode cX3_askedBy 34 = .ok (.iconst 4, 1) := by decide +kernel
theorem dX3_askedBy_35 : decode cX3_askedBy 35 = .ok (.ireturn, 1) := by decide +kernel
theorem dX3_reachingBy_0 : decode cX3_reachingBy 0 = .ok (.iconst 0, 1) := by decide +kernel
theorem dX3_reachingBy_1 : decode cX3_reachingBy 1 = .ok (.istore_n 2, 1) := by decide +kernel
theorem dX3_reachingBy_2 : decode cX3_reachingBy 2 = .ok (.iconst 0, 1) := by decide +kernel
theorem dX3_reachingBy_3 : decode cX3_reachingBy 3 = .ok (.istore_n 3, 1) := by decide +kernel
theorem dX3_reachingBy_4 : decode cX3_reachingBy 4 = .ok (.iload_n 3, 1) := by decide +kernel
theorem dX3_reachingBy_5 : decode cX3_reachingBy 5 = .ok (.bipush 6, 2) := by decide +kernel
theorem dX3_reachingBy_7 : decode cX3_reachingBy 7 = .ok (.if_icmp .ge 26, 3) := by decide +kernel
theorem dX3_reachingBy_10 : decode cX3_reachingBy 10 = .ok (.aload_n 0, 1) := by decide +kernel
theorem dX3_reachingBy_11 : decode cX3_reachingBy 11 = .ok (.iload_n 3, 1) := by decide +kernel
theorem dX3_reachingBy_12 : decode cX3_reachingBy 12 = .ok (.aload_n 1, 1) := by decide +kernel
theorem dX3_reachingBy_13 : decode cX3_reachingBy 13 = .ok (.iload_n 3, 1) := by decide +kernel
theorem dX3_reachingBy_14 : decode cX3_reachingBy 14 = .ok (.iaload, 1) := by decide +kernel
theorem dX3_reachingBy_15 : decode cX3_reachingBy 15 = .ok (.invokevirtual 84, 3) := by decide +kernel
theorem dX3_reachingBy_18 : decode cX3_reachingBy 18 = .ok (.ifCond .eq 9, 3) := by decide +kernel
theorem dX3_reachingBy_21 : decode cX3_reachingBy 21 = .ok (.iload_n 2, 1) := by decide +kernel
theorem dX3_reachingBy_22 : decode cX3_reachingBy 22 = .ok (.iconst 1, 1) := by decide +kernel
theorem dX3_reachingBy_23 : decode cX3_reachingBy 23 = .ok (.iload_n 3, 1) := by decide +kernel
theorem dX3_reachingBy_24 : decode cX3_reachingBy 24 = .ok (.ishl, 1) := by decide +kernel
theorem dX3_reachingBy_25 : decode cX3_reachingBy 25 = .ok (.ior, 1) := by decide +kernel
theorem dX3_reachingBy_26 : decode cX3_reachingBy 26 = .ok (.istore_n 2, 1) := by decide +kernel
theorem dX3_reachingBy_27 : decode cX3_reachingBy 27 = .ok (.iinc 3 1, 3) := by decide +kernel
theorem dX3_reachingBy_30 : decode cX3_reachingBy 30 = .ok (.goto (-26), 3) := by decide +kernel
theorem dX3_reachingBy_33 : decode cX3_reachingBy 33 = .ok (.iload_n 2, 1) := by decide +kernel
theorem dX3_reachingBy_34 : decode cX3_reachingBy 34 = .ok (.ireturn, 1) := by decide +kernel
theorem dX3_mustsBy_0 : decode cX3_mustsBy 0 = .ok (.iconst 0, 1) := by decide +kernel
theorem dX3_mustsBy_1 : decode cX3_mustsBy 1 = .ok (.istore_n 3, 1) := by decide +kernel
theorem dX3_mustsBy_2 : decode cX3_mustsBy 2 = .ok (.iconst 0, 1) := by decide +kernel
theorem dX3_mustsBy_3 : decode cX3_mustsBy 3 = .ok (.istore 4, 2) := by decide +kernel
theorem dX3_mustsBy_5 : decode cX3_mustsBy 5 = .ok (.iload 4, 2) := by decide +kernel
theorem dX3_mustsBy_7 : decode cX3_mustsBy 7 = .ok (.bipush 6, 2) := by decide +kernel
theorem dX3_mustsBy_9 : decode cX3_mustsBy 9 = .ok (.if_icmp .ge 26, 3) := by decide +kernel
theorem dX3_mustsBy_12 : decode cX3_mustsBy 12 = .ok (.iload_n 3, 1) := by decide +kernel
theorem dX3_mustsBy_13 : decode cX3_mustsBy 13 = .ok (.aload_n 0, 1) := by decide +kernel
theorem dX3_mustsBy_14 : decode cX3_mustsBy 14 = .ok (.getfield 41, 3) := by decide +kernel
theorem dX3_mustsBy_17 : decode cX3_mustsBy 17 = .ok (.iload 4, 2) := by decide +kernel
theorem dX3_mustsBy_19 : decode cX3_mustsBy 19 = .ok (.aload_n 1, 1) := by decide +kernel
theorem dX3_mustsBy_20 : decode cX3_mustsBy 20 = .ok (.iload 4, 2) := by decide +kernel
theorem dX3_mustsBy_22 : decode cX3_mustsBy 22 = .ok (.iaload, 1) := by decide +kernel
theorem dX3_mustsBy_23 : decode cX3_mustsBy 23 = .ok (.invokestatic 87, 3) := by decide +kernel
theorem dX3_mustsBy_26 : decode cX3_mustsBy 26 = .ok (.iaload, 1) := by decide +kernel
theorem dX3_mustsBy_27 : decode cX3_mustsBy 27 = .ok (.ior, 1) := by decide +kernel
theorem dX3_mustsBy_28 : decode cX3_mustsBy 28 = .ok (.istore_n 3, 1) := by decide +kernel
theorem dX3_mustsBy_29 : decode cX3_mustsBy 29 = .ok (.iinc 4 1, 3) := by decide +kernel
theorem dX3_mustsBy_32 : decode cX3_mustsBy 32 = .ok (.goto (-27), 3) := by decide +kernel
theorem dX3_mustsBy_35 : decode cX3_mustsBy 35 = .ok (.iload_n 3, 1) := by decide +kernel
theorem dX3_mustsBy_36 : decode cX3_mustsBy 36 = .ok (.iload_n 2, 1) := by decide +kernel
theorem dX3_mustsBy_37 : decode cX3_mustsBy 37 = .ok (.invokestatic 101, 3) := by decide +kernel
theorem dX3_mustsBy_40 : decode cX3_mustsBy 40 = .ok (.iand, 1) := by decide +kernel
theorem dX3_mustsBy_41 : decode cX3_mustsBy 41 = .ok (.ireturn, 1) := by decide +kernel
theorem dX3_mayGoBy_0 : decode cX3_mayGoBy 0 = .ok (.aload_n 0, 1) := by decide +kernel
theorem dX3_mayGoBy_1 : decode cX3_mayGoBy 1 = .ok (.getfield 18, 3) := by decide +kernel
theorem dX3_mayGoBy_4 : decode cX3_mayGoBy 4 = .ok (.aload_n 0, 1) := by decide +kernel
theorem dX3_mayGoBy_5 : decode cX3_mayGoBy 5 = .ok (.getfield 12, 3) := by decide +kernel
theorem dX3_mayGoBy_8 : decode cX3_mayGoBy 8 = .ok (.getfield 70, 3) := by decide +kernel
theorem dX3_mayGoBy_11 : decode cX3_mayGoBy 11 = .ok (.iaload, 1) := by decide +kernel
theorem dX3_mayGoBy_12 : decode cX3_mayGoBy 12 = .ok (.istore_n 2, 1) := by decide +kernel
theorem dX3_mayGoBy_13 : decode cX3_mayGoBy 13 = .ok (.iconst 0, 1) := by decide +kernel
theorem dX3_mayGoBy_14 : decode cX3_mayGoBy 14 = .ok (.istore_n 3, 1) := by decide +kernel
theorem dX3_mayGoBy_15 : decode cX3_mayGoBy 15 = .ok (.iload_n 3, 1) := by decide +kernel
theorem dX3_mayGoBy_16 : decode cX3_mayGoBy 16 = .ok (.bipush 6, 2) := by decide +kernel
theorem dX3_mayGoBy_18 : decode cX3_mayGoBy 18 = .ok (.if_icmp .ge 24, 3) := by decide +kernel
theorem dX3_mayGoBy_21 : decode cX3_mayGoBy 21 = .ok (.iload_n 2, 1) := by decide +kernel
theorem dX3_mayGoBy_22 : decode cX3_mayGoBy 22 = .ok (.aload_n 0, 1) := by decide +kernel
theorem dX3_mayGoBy_23 : decode cX3_mayGoBy 23 = .ok (.getfield 38, 3) := by decide +kernel
theorem dX3_mayGoBy_26 : decode cX3_mayGoBy 26 = .ok (.iload_n 3, 1) := by decide +kernel
theorem dX3_mayGoBy_27 : decode cX3_mayGoBy 27 = .ok (.aload_n 1, 1) := by decide +kernel
theorem dX3_mayGoBy_28 : decode cX3_mayGoBy 28 = .ok (.iload_n 3, 1) := by decide +kernel
theorem dX3_mayGoBy_29 : decode cX3_mayGoBy 29 = .ok (.iaload, 1) := by decide +kernel
theorem dX3_mayGoBy_30 : decode cX3_mayGoBy 30 = .ok (.invokestatic 87, 3) := by decide +kernel
theorem dX3_mayGoBy_33 : decode cX3_mayGoBy 33 = .ok (.iaload, 1) := by decide +kernel
theorem dX3_mayGoBy_34 : decode cX3_mayGoBy 34 = .ok (.iand, 1) := by decide +kernel
theorem dX3_mayGoBy_35 : decode cX3_mayGoBy 35 = .ok (.istore_n 2, 1) := by decide +kernel
theorem dX3_mayGoBy_36 : decode cX3_mayGoBy 36 = .ok (.iinc 3 1, 3) := by decide +kernel
theorem dX3_mayGoBy_39 : decode cX3_mayGoBy 39 = .ok (.goto (-24), 3) := by decide +kernel
theorem dX3_mayGoBy_42 : decode cX3_mayGoBy 42 = .ok (.iload_n 2, 1) := by decide +kernel
theorem dX3_mayGoBy_43 : decode cX3_mayGoBy 43 = .ok (.ireturn, 1) := by decide +kernel
theorem dX3_someGoodWith_0 : decode cX3_someGoodWith 0 = .ok (.aload_n 0, 1) := by decide +kernel
theorem dX3_someGoodWith_1 : decode cX3_someGoodWith 1 = .ok (.iload_n 1, 1) := by decide +kernel
theorem dX3_someGoodWith_2 : decode cX3_someGoodWith 2 = .ok (.bipush 31, 2) := by decide +kernel
theorem dX3_someGoodWith_4 : decode cX3_someGoodWith 4 = .ok (.invokevirtual 104, 3) := by decide +kernel
theorem dX3_someGoodWith_7 : decode cX3_someGoodWith 7 = .ok (.ifCond .eq 7, 3) := by decide +kernel
theorem dX3_someGoodWith_10 : decode cX3_someGoodWith 10 = .ok (.iconst 1, 1) := by decide +kernel
theorem dX3_someGoodWith_11 : decode cX3_someGoodWith 11 = .ok (.goto 4, 3) := by decide +kernel
theorem dX3_someGoodWith_14 : decode cX3_someGoodWith 14 = .ok (.iconst 0, 1) := by decide +kernel
theorem dX3_someGoodWith_15 : decode cX3_someGoodWith 15 = .ok (.ireturn, 1) := by decide +kernel
theorem dX3_room_0 : decode cX3_room 0 = .ok (.iconst 0, 1) := by decide +kernel
theorem dX3_room_1 : decode cX3_room 1 = .ok (.istore_n 3, 1) := by decide +kernel
theorem dX3_room_2 : decode cX3_room 2 = .ok (.iload_n 3, 1) := by decide +kernel
theorem dX3_room_3 : decode cX3_room 3 = .ok (.bipush 6, 2) := by decide +kernel
theorem dX3_room_5 : decode cX3_room 5 = .ok (.if_icmp .ge 34, 3) := by decide +kernel
theorem dX3_room_8 : decode cX3_room 8 = .ok (.aload_n 0, 1) := by decide +kernel
theorem dX3_room_9 : decode cX3_room 9 = .ok (.getfield 47, 3) := by decide +kernel
theorem dX3_room_12 : decode cX3_room 12 = .ok (.iload_n 3, 1) := by decide +kernel
theorem dX3_room_13 : decode cX3_room 13 = .ok (.iload_n 1, 1) := by decide +kernel
theorem dX3_room_14 : decode cX3_room 14 = .ok (.iload_n 3, 1) := by decide +kernel
theorem dX3_room_15 : decode cX3_room 15 = .ok (.invokestatic 77, 3) := by decide +kernel
theorem dX3_room_18 : decode cX3_room 18 = .ok (.ifCond .eq 12, 3) := by decide +kernel
theorem dX3_room_21 : decode cX3_room 21 = .ok (.aload_n 0, 1) := by decide +kernel
theorem dX3_room_22 : decode cX3_room 22 = .ok (.iload_n 3, 1) := by decide +kernel
theorem dX3_room_23 : decode cX3_room 23 = .ok (.iload_n 2, 1) := by decide +kernel
theorem dX3_room_24 : decode cX3_room 24 = .ok (.invokevirtual 107, 3) := by decide +kernel
theorem dX3_room_27 : decode cX3_room 27 = .ok (.goto 5, 3) := by decide +kernel
theorem dX3_room_30 : decode cX3_room 30 = .ok (.bipush 31, 2) := by decide +kernel
theorem dX3_room_32 : decode cX3_room 32 = .ok (.iastore, 1) := by decide +kernel
theorem dX3_room_33 : decode cX3_room 33 = .ok (.iinc 3 1, 3) := by decide +kernel
theorem dX3_room_36 : decode cX3_room 36 = .ok (.goto (-34), 3) := by decide +kernel
theorem dX3_room_39 : decode cX3_room 39 = .ok (.aload_n 0, 1) := by decide +kernel
theorem dX3_room_40 : decode cX3_room 40 = .ok (.invokevirtual 110, 3) := by decide +kernel
theorem dX3_room_43 : decode cX3_room 43 = .ok (.ireturn, 1) := by decide +kernel
theorem dX3_letsOf_0 : decode cX3_letsOf 0 = .ok (.iconst 0, 1) := by decide +kernel
theorem dX3_letsOf_1 : decode cX3_letsOf 1 = .ok (.istore_n 3, 1) := by decide +kernel
theorem dX3_letsOf_2 : decode cX3_letsOf 2 = .ok (.iconst 0, 1) := by decide +kernel
theorem dX3_letsOf_3 : decode cX3_letsOf 3 = .ok (.istore 4, 2) := by decide +kernel
theorem dX3_letsOf_5 : decode cX3_letsOf 5 = .ok (.iload 4, 2) := by decide +kernel
theorem dX3_letsOf_7 : decode cX3_letsOf 7 = .ok (.iconst 5, 1) := by decide +kernel
theorem dX3_letsOf_8 : decode cX3_letsOf 8 = .ok (.if_icmp .ge 34, 3) := by decide +kernel
theorem dX3_letsOf_11 : decode cX3_letsOf 11 = .ok (.aload_n 0, 1) := by decide +kernel
theorem dX3_letsOf_12 : decode cX3_letsOf 12 = .ok (.iload_n 1, 1) := by decide +kernel
theorem dX3_letsOf_13 : decode cX3_letsOf 13 = .ok (.iload 4, 2) := by decide +kernel
theorem dX3_letsOf_15 : decode cX3_letsOf 15 = .ok (.iload_n 2, 1) := by decide +kernel
theorem dX3_letsOf_16 : decode cX3_letsOf 16 = .ok (.invokevirtual 114, 3) := by decide +kernel
theorem dX3_letsOf_19 : decode cX3_letsOf 19 = .ok (.ifCond .eq 17, 3) := by decide +kernel
theorem dX3_letsOf_22 : decode cX3_letsOf 22 = .ok (.iload_n 3, 1) := by decide +kernel
theorem dX3_letsOf_23 : decode cX3_letsOf 23 = .ok (.aload_n 0, 1) := by decide +kernel
theorem dX3_letsOf_24 : decode cX3_letsOf 24 = .ok (.getfield 38, 3) := by decide +kernel
theorem dX3_letsOf_27 : decode cX3_letsOf 27 = .ok (.iload_n 1, 1) := by decide +kernel
theorem dX3_letsOf_28 : decode cX3_letsOf 28 = .ok (.iload 4, 2) := by decide +kernel
theorem dX3_letsOf_30 : decode cX3_letsOf 30 = .ok (.invokestatic 87, 3) := by decide +kernel
theorem dX3_letsOf_33 : decode cX3_letsOf 33 = .ok (.iaload, 1) := by decide +kernel
theorem dX3_letsOf_34 : decode cX3_letsOf 34 = .ok (.ior, 1) := by decide +kernel
theorem dX3_letsOf_35 : decode cX3_letsOf 35 = .ok (.istore_n 3, 1) := by decide +kernel
theorem dX3_letsOf_36 : decode cX3_letsOf 36 = .ok (.iinc 4 1, 3) := by decide +kernel
theorem dX3_letsOf_39 : decode cX3_letsOf 39 = .ok (.goto (-34), 3) := by decide +kernel
theorem dX3_letsOf_42 : decode cX3_letsOf 42 = .ok (.iload_n 3, 1) := by decide +kernel
theorem dX3_letsOf_43 : decode cX3_letsOf 43 = .ok (.ireturn, 1) := by decide +kernel
theorem dX3_mayChoose_0 : decode cX3_mayChoose 0 = .ok (.aload_n 0, 1) := by decide +kernel
theorem dX3_mayChoose_1 : decode cX3_mayChoose 1 = .ok (.getfield 18, 3) := by decide +kernel
theorem dX3_mayChoose_4 : decode cX3_mayChoose 4 = .ok (.iload_n 1, 1) := by decide +kernel
theorem dX3_mayChoose_5 : decode cX3_mayChoose 5 = .ok (.iaload, 1) := by decide +kernel
theorem dX3_mayChoose_6 : decode cX3_mayChoose 6 = .ok (.iload_n 2, 1) := by decide +kernel
theorem dX3_mayChoose_7 : decode cX3_mayChoose 7 = .ok (.invokestatic 77, 3) := by decide +kernel
theorem dX3_mayChoose_10 : decode cX3_mayChoose 10 = .ok (.ifCond .eq 24, 3) := by decide +kernel
theorem dX3_mayChoose_13 : decode cX3_mayChoose 13 = .ok (.aload_n 0, 1) := by decide +kernel
theorem dX3_mayChoose_14 : decode cX3_mayChoose 14 = .ok (.getfield 41, 3) := by decide +kernel
theorem dX3_mayChoose_17 : decode cX3_mayChoose 17 = .ok (.iload_n 1, 1) := by decide +kernel
theorem dX3_mayChoose_18 : decode cX3_mayChoose 18 = .ok (.iload_n 2, 1) := by decide +kernel
theorem dX3_mayChoose_19 : decode cX3_mayChoose 19 = .ok (.invokestatic 87, 3) := by decide +kernel
theorem dX3_mayChoose_22 : decode cX3_mayChoose 22 = .ok (.iaload, 1) := by decide +kernel
theorem dX3_mayChoose_23 : decode cX3_mayChoose 23 = .ok (.iload_n 3, 1) := by decide +kernel
theorem dX3_mayChoose_24 : decode cX3_mayChoose 24 = .ok (.invokestatic 117, 3) := by decide +kernel
theorem dX3_mayChoose_27 : decode cX3_mayChoose 27 = .ok (.ifCond .eq 7, 3) := by decide +kernel
theorem dX3_mayChoose_30 : decode cX3_mayChoose 30 = .ok (.iconst 1, 1) := by decide +kernel
theorem dX3_mayChoose_31 : decode cX3_mayChoose 31 = .ok (.goto 4, 3) := by decide +kernel
theorem dX3_mayChoose_34 : decode cX3_mayChoose 34 = .ok (.iconst 0, 1) := by decide +kernel
theorem dX3_mayChoose_35 : decode cX3_mayChoose 35 = .ok (.ireturn, 1) := by decide +kernel
theorem dX3_roomLeft_0 : decode cX3_roomLeft 0 = .ok (.aload_n 0, 1) := by decide +kernel
theorem dX3_roomLeft_1 : decode cX3_roomLeft 1 = .ok (.getfield 18, 3) := by decide +kernel
theorem dX3_roomLeft_4 : decode cX3_roomLeft 4 = .ok (.aload_n 0, 1) := by decide +kernel
theorem dX3_roomLeft_5 : decode cX3_roomLeft 5 = .ok (.getfield 12, 3) := by decide +kernel
theorem dX3_roomLeft_8 : decode cX3_roomLeft 8 = .ok (.getfield 70, 3) := by decide +kernel
theorem dX3_roomLeft_11 : decode cX3_roomLeft 11 = .ok (.iaload, 1) := by decide +kernel
theorem dX3_roomLeft_12 : decode cX3_roomLeft 12 = .ok (.istore_n 1, 1) := by decide +kernel
theorem dX3_roomLeft_13 : decode cX3_roomLeft 13 = .ok (.iconst 0, 1) := by decide +kernel
theorem dX3_roomLeft_14 : decode cX3_roomLeft 14 = .ok (.istore_n 2, 1) := by decide +kernel
theorem dX3_roomLeft_15 : decode cX3_roomLeft 15 = .ok (.iload_n 2, 1) := by decide +kernel
theorem dX3_roomLeft_16 : decode cX3_roomLeft 16 = .ok (.bipush 6, 2) := by decide +kernel
theorem dX3_roomLeft_18 : decode cX3_roomLeft 18 = .ok (.if_icmp .ge 18, 3) := by decide +kernel
theorem dX3_roomLeft_21 : decode cX3_roomLeft 21 = .ok (.iload_n 1, 1) := by decide +kernel
theorem dX3_roomLeft_22 : decode cX3_roomLeft 22 = .ok (.aload_n 0, 1) := by decide +kernel
theorem dX3_roomLeft_23 : decode cX3_roomLeft 23 = .ok (.getfield 47, 3) := by decide +kernel
theorem dX3_roomLeft_26 : decode cX3_roomLeft 26 = .ok (.iload_n 2, 1) := by decide +kernel
theorem dX3_roomLeft_27 : decode cX3_roomLeft 27 = .ok (.iaload, 1) := by decide +kernel
theorem dX3_roomLeft_28 : decode cX3_roomLeft 28 = .ok (.iand, 1) := by decide +kernel
theorem dX3_roomLeft_29 : decode cX3_roomLeft 29 = .ok (.istore_n 1, 1) := by decide +kernel
theorem dX3_roomLeft_30 : decode cX3_roomLeft 30 = .ok (.iinc 2 1, 3) := by decide +kernel
theorem dX3_roomLeft_33 : decode cX3_roomLeft 33 = .ok (.goto (-18), 3) := by decide +kernel
theorem dX3_roomLeft_36 : decode cX3_roomLeft 36 = .ok (.iload_n 1, 1) := by decide +kernel
theorem dX3_roomLeft_37 : decode cX3_roomLeft 37 = .ok (.ireturn, 1) := by decide +kernel
theorem dX3_findBest_0 : decode cX3_findBest 0 = .ok (.bipush 31, 2) := by decide +kernel
theorem dX3_findBest_2 : decode cX3_findBest 2 = .ok (.iload_n 1, 1) := by decide +kernel
theorem dX3_findBest_3 : decode cX3_findBest 3 = .ok (.invokestatic 101, 3) := by decide +kernel
theorem dX3_findBest_6 : decode cX3_findBest 6 = .ok (.iconst (-1), 1) := by decide +kernel
theorem dX3_findBest_7 : decode cX3_findBest 7 = .ok (.ixor, 1) := by decide +kernel
theorem dX3_findBest_8 : decode cX3_findBest 8 = .ok (.iand, 1) := by decide +kernel
theorem dX3_findBest_9 : decode cX3_findBest 9 = .ok (.istore_n 3, 1) := by decide +kernel
theorem dX3_findBest_10 : decode cX3_findBest 10 = .ok (.aload_n 0, 1) := by decide +kernel
theorem dX3_findBest_11 : decode cX3_findBest 11 = .ok (.iload_n 3, 1) := by decide +kernel
theorem dX3_findBest_12 : decode cX3_findBest 12 = .ok (.invokevirtual 120, 3) := by decide +kernel
theorem dX3_findBest_15 : decode cX3_findBest 15 = .ok (.istore 4, 2) := by decide +kernel
theorem dX3_findBest_17 : decode cX3_findBest 17 = .ok (.iload 4, 2) := by decide +kernel
theorem dX3_findBest_19 : decode cX3_findBest 19 = .ok (.bipush (-6), 2) := by decide +kernel
theorem dX3_findBest_21 : decode cX3_findBest 21 = .ok (.if_icmp .eq 18, 3) := by decide +kernel
theorem dX3_findBest_24 : decode cX3_findBest 24 = .ok (.aload_n 0, 1) := by decide +kernel
theorem dX3_findBest_25 : decode cX3_findBest 25 = .ok (.aload_n 0, 1) := by decide +kernel
theorem dX3_findBest_26 : decode cX3_findBest 26 = .ok (.getfield 32, 3) := by decide +kernel
theorem dX3_findBest_29 : decode cX3_findBest 29 = .ok (.iload 4, 2) := by decide +kernel
theorem dX3_findBest_31 : decode cX3_findBest 31 = .ok (.iload_n 3, 1) := by decide +kernel
theorem dX3_findBest_32 : decode cX3_findBest 32 = .ok (.ior, 1) := by decide +kernel
theorem dX3_findBest_33 : decode cX3_findBest 33 = .ok (.invokevirtual 104, 3) := by decide +kernel
theorem dX3_findBest_36 : decode cX3_findBest 36 = .ok (.ifCond .ne 5, 3) := by decide +kernel
theorem dX3_findBest_39 : decode cX3_findBest 39 = .ok (.iconst 0, 1) := by decide +kernel
theorem dX3_findBest_40 : decode cX3_findBest 40 = .ok (.ireturn, 1) := by decide +kernel
theorem dX3_findBest_41 : decode cX3_findBest 41 = .ok (.aload_n 2, 1) := by decide +kernel
theorem dX3_findBest_42 : decode cX3_findBest 42 = .ok (.iload 4, 2) := by decide +kernel
theorem dX3_findBest_44 : decode cX3_findBest 44 = .ok (.putfield 123, 3) := by decide +kernel
theorem dX3_findBest_47 : decode cX3_findBest 47 = .ok (.iconst 0, 1) := by decide +kernel
theorem dX3_findBest_48 : decode cX3_findBest 48 = .ok (.istore 5, 2) := by decide +kernel
theorem dX3_findBest_50 : decode cX3_findBest 50 = .ok (.iload 5, 2) := by decide +kernel
theorem dX3_findBest_52 : decode cX3_findBest 52 = .ok (.bipush 6, 2) := by decide +kernel
theorem dX3_findBest_54 : decode cX3_findBest 54 = .ok (.if_icmp .ge 42, 3) := by decide +kernel
theorem dX3_findBest_57 : decode cX3_findBest 57 = .ok (.aload_n 2, 1) := by decide +kernel
theorem dX3_findBest_58 : decode cX3_findBest 58 = .ok (.getfield 128, 3) := by decide +kernel
theorem dX3_findBest_61 : decode cX3_findBest 61 = .ok (.iload 5, 2) := by decide +kernel
theorem dX3_findBest_63 : decode cX3_findBest 63 = .ok (.aload_n 0, 1) := by decide +kernel
theorem dX3_findBest_64 : decode cX3_findBest 64 = .ok (.getfield 32, 3) := by decide +kernel
theorem dX3_findBest_67 : decode cX3_findBest 67 = .ok (.iload 5, 2) := by decide +kernel
theorem dX3_findBest_69 : decode cX3_findBest 69 = .ok (.invokestatic 77, 3) := by decide +kernel
theorem dX3_findBest_72 : decode cX3_findBest 72 = .ok (.ifCond .eq 16, 3) := by decide +kernel
theorem dX3_findBest_75 : decode cX3_findBest 75 = .ok (.aload_n 0, 1) := by decide +kernel
theorem dX3_findBest_76 : decode cX3_findBest 76 = .ok (.iload 5, 2) := by decide +kernel
theorem dX3_findBest_78 : decode cX3_findBest 78 = .ok (.iload 4, 2) := by decide +kernel
theorem dX3_findBest_80 : decode cX3_findBest 80 = .ok (.iload_n 3, 1) := by decide +kernel
theorem dX3_findBest_81 : decode cX3_findBest 81 = .ok (.ior, 1) := by decide +kernel
theorem dX3_findBest_82 : decode cX3_findBest 82 = .ok (.invokevirtual 131, 3) := by decide +kernel
theorem dX3_findBest_85 : decode cX3_findBest 85 = .ok (.goto 4, 3) := by decide +kernel
theorem dX3_findBest_88 : decode cX3_findBest 88 = .ok (.iconst 0, 1) := by decide +kernel
theorem dX3_findBest_89 : decode cX3_findBest 89 = .ok (.iastore, 1) := by decide +kernel
theorem dX3_findBest_90 : decode cX3_findBest 90 = .ok (.iinc 5 1, 3) := by decide +kernel
theorem dX3_findBest_93 : decode cX3_findBest 93 = .ok (.goto (-43), 3) := by decide +kernel
theorem dX3_findBest_96 : decode cX3_findBest 96 = .ok (.aload_n 2, 1) := by decide +kernel
theorem dX3_findBest_97 : decode cX3_findBest 97 = .ok (.aload_n 0, 1) := by decide +kernel
theorem dX3_findBest_98 : decode cX3_findBest 98 = .ok (.invokevirtual 110, 3) := by decide +kernel
theorem dX3_findBest_101 : decode cX3_findBest 101 = .ok (.putfield 134, 3) := by decide +kernel
theorem dX3_findBest_104 : decode cX3_findBest 104 = .ok (.iconst 1, 1) := by decide +kernel
theorem dX3_findBest_105 : decode cX3_findBest 105 = .ok (.ireturn, 1) := by decide +kernel
theorem dX3_leastMusts_0 : decode cX3_leastMusts 0 = .ok (.bipush (-6), 2) := by decide +kernel
theorem dX3_leastMusts_2 : decode cX3_leastMusts 2 = .ok (.istore_n 2, 1) := by decide +kernel
theorem dX3_leastMusts_3 : decode cX3_leastMusts 3 = .ok (.iconst 0, 1) := by decide +kernel
theorem dX3_leastMusts_4 : decode cX3_leastMusts 4 = .ok (.istore_n 3, 1) := by decide +kernel
theorem dX3_leastMusts_5 : decode cX3_leastMusts 5 = .ok (.iload_n 3, 1) := by decide +kernel
theorem dX3_leastMusts_6 : decode cX3_leastMusts 6 = .ok (.bipush 31, 2) := by decide +kernel
theorem dX3_leastMusts_8 : decode cX3_leastMusts 8 = .ok (.if_icmp .gt 54, 3) := by decide +kernel
theorem dX3_leastMusts_11 : decode cX3_leastMusts 11 = .ok (.iload_n 2, 1) := by decide +kernel
theorem dX3_leastMusts_12 : decode cX3_leastMusts 12 = .ok (.bipush (-6), 2) := by decide +kernel
theorem dX3_leastMusts_14 : decode cX3_leastMusts 14 = .ok (.if_icmp .eq 14, 3) := by decide +kernel
theorem dX3_leastMusts_17 : decode cX3_leastMusts 17 = .ok (.iload_n 3, 1) := by decide +kernel
theorem dX3_leastMusts_18 : decode cX3_leastMusts 18 = .ok (.invokestatic 137, 3) := by decide +kernel
theorem dX3_leastMusts_21 : decode cX3_leastMusts 21 = .ok (.iload_n 2, 1) := by decide +kernel
theorem dX3_leastMusts_22 : decode cX3_leastMusts 22 = .ok (.invokestatic 137, 3) := by decide +kernel
theorem dX3_leastMusts_25 : decode cX3_leastMusts 25 = .ok (.if_icmp .ge 7, 3) := by decide +kernel
theorem dX3_leastMusts_28 : decode cX3_leastMusts 28 = .ok (.iconst 1, 1) := by decide +kernel
theorem dX3_leastMusts_29 : decode cX3_leastMusts 29 = .ok (.goto 4, 3) := by decide +kernel
theorem dX3_leastMusts_32 : decode cX3_leastMusts 32 = .ok (.iconst 0, 1) := by decide +kernel
theorem dX3_leastMusts_33 : decode cX3_leastMusts 33 = .ok (.istore 4, 2) := by decide +kernel
theorem dX3_leastMusts_35 : decode cX3_leastMusts 35 = .ok (.iload 4, 2) := by decide +kernel
theorem dX3_leastMusts_37 : decode cX3_leastMusts 37 = .ok (.ifCond .eq 19, 3) := by decide +kernel
theorem dX3_leastMusts_40 : decode cX3_leastMusts 40 = .ok (.aload_n 0, 1) := by decide +kernel
theorem dX3_leastMusts_41 : decode cX3_leastMusts 41 = .ok (.aload_n 0, 1) := by decide +kernel
theorem dX3_leastMusts_42 : decode cX3_leastMusts 42 = .ok (.getfield 32, 3) := by decide +kernel
theorem dX3_leastMusts_45 : decode cX3_leastMusts 45 = .ok (.iload_n 3, 1) := by decide +kernel
theorem dX3_leastMusts_46 : decode cX3_leastMusts 46 = .ok (.iload_n 1, 1) := by decide +kernel
theorem dX3_leastMusts_47 : decode cX3_leastMusts 47 = .ok (.ior, 1) := by decide +kernel
theorem dX3_leastMusts_48 : decode cX3_leastMusts 48 = .ok (.invokevirtual 104, 3) := by decide +kernel
theorem dX3_leastMusts_51 : decode cX3_leastMusts 51 = .ok (.ifCond .eq 5, 3) := by decide +kernel
theorem dX3_leastMusts_54 : decode cX3_leastMusts 54 = .ok (.iload_n 3, 1) := by decide +kernel
theorem dX3_leastMusts_55 : decode cX3_leastMusts 55 = .ok (.istore_n 2, 1) := by decide +kernel
theorem dX3_leastMusts_56 : decode cX3_leastMusts 56 = .ok (.iinc 3 1, 3) := by decide +kernel
theorem dX3_leastMusts_59 : decode cX3_leastMusts 59 = .ok (.goto (-54), 3) := by decide +kernel
theorem dX3_leastMusts_62 : decode cX3_leastMusts 62 = .ok (.iload_n 2, 1) := by decide +kernel
theorem dX3_leastMusts_63 : decode cX3_leastMusts 63 = .ok (.ireturn, 1) := by decide +kernel
theorem dX3_settle_0 : decode cX3_settle 0 = .ok (.iconst 0, 1) := by decide +kernel
theorem dX3_settle_1 : decode cX3_settle 1 = .ok (.istore_n 3, 1) := by decide +kernel
theorem dX3_settle_2 : decode cX3_settle 2 = .ok (.iload_n 3, 1) := by decide +kernel
theorem dX3_settle_3 : decode cX3_settle 3 = .ok (.iconst 5, 1) := by decide +kernel
theorem dX3_settle_4 : decode cX3_settle 4 = .ok (.if_icmp .ge 44, 3) := by decide +kernel
theorem dX3_settle_7 : decode cX3_settle 7 = .ok (.aload_n 0, 1) := by decide +kernel
theorem dX3_settle_8 : decode cX3_settle 8 = .ok (.iload_n 1, 1) := by decide +kernel
theorem dX3_settle_9 : decode cX3_settle 9 = .ok (.iload_n 3, 1) := by decide +kernel
theorem dX3_settle_10 : decode cX3_settle 10 = .ok (.iload_n 2, 1) := by decide +kernel
theorem dX3_settle_11 : decode cX3_settle 11 = .ok (.invokevirtual 114, 3) := by decide +kernel
theorem dX3_settle_14 : decode cX3_settle 14 = .ok (.ifCond .eq 28, 3) := by decide +kernel
theorem dX3_settle_17 : decode cX3_settle 17 = .ok (.aload_n 0, 1) := by decide +kernel
theorem dX3_settle_18 : decode cX3_settle 18 = .ok (.getfield 47, 3) := by decide +kernel
theorem dX3_settle_21 : decode cX3_settle 21 = .ok (.iload_n 1, 1) := by decide +kernel
theorem dX3_settle_22 : decode cX3_settle 22 = .ok (.aload_n 0, 1) := by decide +kernel
theorem dX3_settle_23 : decode cX3_settle 23 = .ok (.getfield 38, 3) := by decide +kernel
theorem dX3_settle_26 : decode cX3_settle 26 = .ok (.iload_n 1, 1) := by decide +kernel
theorem dX3_settle_27 : decode cX3_settle 27 = .ok (.iload_n 3, 1) := by decide +kernel
theorem dX3_settle_28 : decode cX3_settle 28 = .ok (.invokestatic 87, 3) := by decide +kernel
theorem dX3_settle_31 : decode cX3_settle 31 = .ok (.iaload, 1) := by decide +kernel
theorem dX3_settle_32 : decode cX3_settle 32 = .ok (.iastore, 1) := by decide +kernel
theorem dX3_settle_33 : decode cX3_settle 33 = .ok (.aload_n 0, 1) := by decide +kernel
theorem dX3_settle_34 : decode cX3_settle 34 = .ok (.invokevirtual 110, 3) := by decide +kernel
theorem dX3_settle_37 : decode cX3_settle 37 = .ok (.ifCond .eq 5, 3) := by decide +kernel
theorem dX3_settle_40 : decode cX3_settle 40 = .ok (.iload_n 3, 1) := by decide +kernel
theorem dX3_settle_41 : decode cX3_settle 41 = .ok (.ireturn, 1) := by decide +kernel
theorem dX3_settle_42 : decode cX3_settle 42 = .ok (.iinc 3 1, 3) := by decide +kernel
theorem dX3_settle_45 : decode cX3_settle 45 = .ok (.goto (-43), 3) := by decide +kernel
theorem dX3_settle_48 : decode cX3_settle 48 = .ok (.iconst 0, 1) := by decide +kernel
theorem dX3_settle_49 : decode cX3_settle 49 = .ok (.ireturn, 1) := by decide +kernel
theorem dX3_countGood_0 : decode cX3_countGood 0 = .ok (.iconst 0, 1) := by decide +kernel
theorem dX3_countGood_1 : decode cX3_countGood 1 = .ok (.istore_n 1, 1) := by decide +kernel
theorem dX3_countGood_2 : decode cX3_countGood 2 = .ok (.iload_n 1, 1) := by decide +kernel
theorem dX3_countGood_3 : decode cX3_countGood 3 = .ok (.bipush 31, 2) := by decide +kernel
theorem dX3_countGood_5 : decode cX3_countGood 5 = .ok (.if_icmp .gt 16, 3) := by decide +kernel
theorem dX3_countGood_8 : decode cX3_countGood 8 = .ok (.aload_n 0, 1) := by decide +kernel
theorem dX3_countGood_9 : decode cX3_countGood 9 = .ok (.getfield 50, 3) := by decide +kernel
theorem dX3_countGood_12 : decode cX3_countGood 12 = .ok (.iload_n 1, 1) := by decide +kernel
theorem dX3_countGood_13 : decode cX3_countGood 13 = .ok (.iconst 0, 1) := by decide +kernel
theorem dX3_countGood_14 : decode cX3_countGood 14 = .ok (.iastore, 1) := by decide +kernel
theorem dX3_countGood_15 : decode cX3_countGood 15 = .ok (.iinc 1 1, 3) := by decide +kernel
theorem dX3_countGood_18 : decode cX3_countGood 18 = .ok (.goto (-16), 3) := by decide +kernel
theorem dX3_countGood_21 : decode cX3_countGood 21 = .ok (.aload_n 0, 1) := by decide +kernel
theorem dX3_countGood_22 : decode cX3_countGood 22 = .ok (.getfield 50, 3) := by decide +kernel
theorem dX3_countGood_25 : decode cX3_countGood 25 = .ok (.aload_n 0, 1) := by decide +kernel
theorem dX3_countGood_26 : decode cX3_countGood 26 = .ok (.getfield 18, 3) := by decide +kernel
theorem dX3_countGood_29 : decode cX3_countGood 29 = .ok (.aload_n 0, 1) := by decide +kernel
theorem dX3_countGood_30 : decode cX3_countGood 30 = .ok (.getfield 12, 3) := by decide +kernel
theorem dX3_countGood_33 : decode cX3_countGood 33 = .ok (.getfield 70, 3) := by decide +kernel
theorem dX3_countGood_36 : decode cX3_countGood 36 = .ok (.iaload, 1) := by decide +kernel
theorem dX3_countGood_37 : decode cX3_countGood 37 = .ok (.iconst 1, 1) := by decide +kernel
theorem dX3_countGood_38 : decode cX3_countGood 38 = .ok (.iastore, 1) := by decide +kernel
theorem dX3_countGood_39 : decode cX3_countGood 39 = .ok (.iconst 0, 1) := by decide +kernel
theorem dX3_countGood_40 : decode cX3_countGood 40 = .ok (.istore_n 1, 1) := by decide +kernel
theorem dX3_countGood_41 : decode cX3_countGood 41 = .ok (.iload_n 1, 1) := by decide +kernel
theorem dX3_countGood_42 : decode cX3_countGood 42 = .ok (.bipush 6, 2) := by decide +kernel
theorem dX3_countGood_44 : decode cX3_countGood 44 = .ok (.if_icmp .ge 25, 3) := by decide +kernel
theorem dX3_countGood_47 : decode cX3_countGood 47 = .ok (.aload_n 0, 1) := by decide +kernel
theorem dX3_countGood_48 : decode cX3_countGood 48 = .ok (.getfield 32, 3) := by decide +kernel
theorem dX3_countGood_51 : decode cX3_countGood 51 = .ok (.iload_n 1, 1) := by decide +kernel
theorem dX3_countGood_52 : decode cX3_countGood 52 = .ok (.invokestatic 77, 3) := by decide +kernel
theorem dX3_countGood_55 : decode cX3_countGood 55 = .ok (.ifCond .eq 8, 3) := by decide +kernel
theorem dX3_countGood_58 : decode cX3_countGood 58 = .ok (.aload_n 0, 1) := by decide +kernel
theorem dX3_countGood_59 : decode cX3_countGood 59 = .ok (.iload_n 1, 1) := by decide +kernel
theorem dX3_countGood_60 : decode cX3_countGood 60 = .ok (.invokevirtual 142, 3) := by decide +kernel
theorem dX3_countGood_63 : decode cX3_countGood 63 = .ok (.iinc 1 1, 3) := by decide +kernel
theorem dX3_countGood_66 : decode cX3_countGood 66 = .ok (.goto (-25), 3) := by decide +kernel
theorem dX3_countGood_69 : decode cX3_countGood 69 = .ok (.iconst 0, 1) := by decide +kernel
theorem dX3_countGood_70 : decode cX3_countGood 70 = .ok (.istore_n 1, 1) := by decide +kernel
theorem dX3_countGood_71 : decode cX3_countGood 71 = .ok (.iconst 1, 1) := by decide +kernel
theorem dX3_countGood_72 : decode cX3_countGood 72 = .ok (.istore_n 2, 1) := by decide +kernel
theorem dX3_countGood_73 : decode cX3_countGood 73 = .ok (.iload_n 2, 1) := by decide +kernel
theorem dX3_countGood_74 : decode cX3_countGood 74 = .ok (.bipush 31, 2) := by decide +kernel
theorem dX3_countGood_76 : decode cX3_countGood 76 = .ok (.if_icmp .gt 18, 3) := by decide +kernel
theorem dX3_countGood_79 : decode cX3_countGood 79 = .ok (.iload_n 1, 1) := by decide +kernel
theorem dX3_countGood_80 : decode cX3_countGood 80 = .ok (.aload_n 0, 1) := by decide +kernel
theorem dX3_countGood_81 : decode cX3_countGood 81 = .ok (.getfield 50, 3) := by decide +kernel
theorem dX3_countGood_84 : decode cX3_countGood 84 = .ok (.iload_n 2, 1) := by decide +kernel
theorem dX3_countGood_85 : decode cX3_countGood 85 = .ok (.iaload, 1) := by decide +kernel
theorem dX3_countGood_86 : decode cX3_countGood 86 = .ok (.iadd, 1) := by decide +kernel
theorem dX3_countGood_87 : decode cX3_countGood 87 = .ok (.istore_n 1, 1) := by decide +kernel
theorem dX3_countGood_88 : decode cX3_countGood 88 = .ok (.iinc 2 1, 3) := by decide +kernel
theorem dX3_countGood_91 : decode cX3_countGood 91 = .ok (.goto (-18), 3) := by decide +kernel
theorem dX3_countGood_94 : decode cX3_countGood 94 = .ok (.iload_n 1, 1) := by decide +kernel
theorem dX3_countGood_95 : decode cX3_countGood 95 = .ok (.ireturn, 1) := by decide +kernel
theorem dX3_countWith_0 : decode cX3_countWith 0 = .ok (.iconst 0, 1) := by decide +kernel
theorem dX3_countWith_1 : decode cX3_countWith 1 = .ok (.istore_n 2, 1) := by decide +kernel
theorem dX3_countWith_2 : decode cX3_countWith 2 = .ok (.iload_n 2, 1) := by decide +kernel
theorem dX3_countWith_3 : decode cX3_countWith 3 = .ok (.bipush 31, 2) := by decide +kernel
theorem dX3_countWith_5 : decode cX3_countWith 5 = .ok (.if_icmp .gt 16, 3) := by decide +kernel
theorem dX3_countWith_8 : decode cX3_countWith 8 = .ok (.aload_n 0, 1) := by decide +kernel
theorem dX3_countWith_9 : decode cX3_countWith 9 = .ok (.getfield 53, 3) := by decide +kernel
theorem dX3_countWith_12 : decode cX3_countWith 12 = .ok (.iload_n 2, 1) := by decide +kernel
theorem dX3_countWith_13 : decode cX3_countWith 13 = .ok (.iconst 0, 1) := by decide +kernel
theorem dX3_countWith_14 : decode cX3_countWith 14 = .ok (.iastore, 1) := by decide +kernel
theorem dX3_countWith_15 : decode cX3_countWith 15 = .ok (.iinc 2 1, 3) := by decide +kernel
theorem dX3_countWith_18 : decode cX3_countWith 18 = .ok (.goto (-16), 3) := by decide +kernel
theorem dX3_countWith_21 : decode cX3_countWith 21 = .ok (.iconst 0, 1) := by decide +kernel
theorem dX3_countWith_22 : decode cX3_countWith 22 = .ok (.istore_n 2, 1) := by decide +kernel
theorem dX3_countWith_23 : decode cX3_countWith 23 = .ok (.iload_n 2, 1) := by decide +kernel
theorem dX3_countWith_24 : decode cX3_countWith 24 = .ok (.iconst 5, 1) := by decide +kernel
theorem dX3_countWith_25 : decode cX3_countWith 25 = .ok (.if_icmp .ge 62, 3) := by decide +kernel
theorem dX3_countWith_28 : decode cX3_countWith 28 = .ok (.iconst 0, 1) := by decide +kernel
theorem dX3_countWith_29 : decode cX3_countWith 29 = .ok (.istore_n 3, 1) := by decide +kernel
theorem dX3_countWith_30 : decode cX3_countWith 30 = .ok (.iload_n 3, 1) := by decide +kernel
theorem dX3_countWith_31 : decode cX3_countWith 31 = .ok (.bipush 31, 2) := by decide +kernel
theorem dX3_countWith_33 : decode cX3_countWith 33 = .ok (.if_icmp .gt 48, 3) := by decide +kernel
theorem dX3_countWith_36 : decode cX3_countWith 36 = .ok (.aload_n 0, 1) := by decide +kernel
theorem dX3_countWith_37 : decode cX3_countWith 37 = .ok (.getfield 18, 3) := by decide +kernel
theorem dX3_countWith_40 : decode cX3_countWith 40 = .ok (.iload_n 1, 1) := by decide +kernel
theorem dX3_countWith_41 : decode cX3_countWith 41 = .ok (.iaload, 1) := by decide +kernel
theorem dX3_countWith_42 : decode cX3_countWith 42 = .ok (.iload_n 2, 1) := by decide +kernel
theorem dX3_countWith_43 : decode cX3_countWith 43 = .ok (.invokestatic 77, 3) := by decide +kernel
theorem dX3_countWith_46 : decode cX3_countWith 46 = .ok (.ifCond .eq 29, 3) := by decide +kernel
theorem dX3_countWith_49 : decode cX3_countWith 49 = .ok (.aload_n 0, 1) := by decide +kernel
theorem dX3_countWith_50 : decode cX3_countWith 50 = .ok (.getfield 53, 3) := by decide +kernel
theorem dX3_countWith_53 : decode cX3_countWith 53 = .ok (.iload_n 3, 1) := by decide +kernel
theorem dX3_countWith_54 : decode cX3_countWith 54 = .ok (.aload_n 0, 1) := by decide +kernel
theorem dX3_countWith_55 : decode cX3_countWith 55 = .ok (.getfield 38, 3) := by decide +kernel
theorem dX3_countWith_58 : decode cX3_countWith 58 = .ok (.iload_n 1, 1) := by decide +kernel
theorem dX3_countWith_59 : decode cX3_countWith 59 = .ok (.iload_n 2, 1) := by decide +kernel
theorem dX3_countWith_60 : decode cX3_countWith 60 = .ok (.invokestatic 87, 3) := by decide +kernel
theorem dX3_countWith_63 : decode cX3_countWith 63 = .ok (.iaload, 1) := by decide +kernel
theorem dX3_countWith_64 : decode cX3_countWith 64 = .ok (.iand, 1) := by decide +kernel
theorem dX3_countWith_65 : decode cX3_countWith 65 = .ok (.dup2, 1) := by decide +kernel
theorem dX3_countWith_66 : decode cX3_countWith 66 = .ok (.iaload, 1) := by decide +kernel
theorem dX3_countWith_67 : decode cX3_countWith 67 = .ok (.aload_n 0, 1) := by decide +kernel
theorem dX3_countWith_68 : decode cX3_countWith 68 = .ok (.getfield 50, 3) := by decide +kernel
theorem dX3_countWith_71 : decode cX3_countWith 71 = .ok (.iload_n 3, 1) := by decide +kernel
theorem dX3_countWith_72 : decode cX3_countWith 72 = .ok (.iaload, 1) := by decide +kernel
theorem dX3_countWith_73 : decode cX3_countWith 73 = .ok (.iadd, 1) := by decide +kernel
theorem dX3_countWith_74 : decode cX3_countWith 74 = .ok (.iastore, 1) := by decide +kernel
theorem dX3_countWith_75 : decode cX3_countWith 75 = .ok (.iinc 3 1, 3) := by decide +kernel
theorem dX3_countWith_78 : decode cX3_countWith 78 = .ok (.goto (-48), 3) := by decide +kernel
theorem dX3_countWith_81 : decode cX3_countWith 81 = .ok (.iinc 2 1, 3) := by decide +kernel
theorem dX3_countWith_84 : decode cX3_countWith 84 = .ok (.goto (-61), 3) := by decide +kernel
theorem dX3_countWith_87 : decode cX3_countWith 87 = .ok (.aload_n 0, 1) := by decide +kernel
theorem dX3_countWith_88 : decode cX3_countWith 88 = .ok (.getfield 50, 3) := by decide +kernel
theorem dX3_countWith_91 : decode cX3_countWith 91 = .ok (.astore_n 2, 1) := by decide +kernel
theorem dX3_countWith_92 : decode cX3_countWith 92 = .ok (.aload_n 0, 1) := by decide +kernel
theorem dX3_countWith_93 : decode cX3_countWith 93 = .ok (.aload_n 0, 1) := by decide +kernel
theorem dX3_countWith_94 : decode cX3_countWith 94 = .ok (.getfield 53, 3) := by decide +kernel
theorem dX3_countWith_97 : decode cX3_countWith 97 = .ok (.putfield 50, 3) := by decide +kernel
theorem dX3_countWith_100 : decode cX3_countWith 100 = .ok (.aload_n 0, 1) := by decide +kernel
theorem dX3_countWith_101 : decode cX3_countWith 101 = .ok (.aload_n 2, 1) := by decide +kernel
theorem dX3_countWith_102 : decode cX3_countWith 102 = .ok (.putfield 53, 3) := by decide +kernel
theorem dX3_countWith_105 : decode cX3_countWith 105 = .ok (.return_, 1) := by decide +kernel
theorem dX3_walk_0 : decode cX3_walk 0 = .ok (.iconst 0, 1) := by decide +kernel
theorem dX3_walk_1 : decode cX3_walk 1 = .ok (.istore_n 1, 1) := by decide +kernel
theorem dX3_walk_2 : decode cX3_walk 2 = .ok (.iload_n 1, 1) := by decide +kernel
theorem dX3_walk_3 : decode cX3_walk 3 = .ok (.bipush 6, 2) := by decide +kernel
theorem dX3_walk_5 : decode cX3_walk 5 = .ok (.if_icmp .ge 38, 3) := by decide +kernel
theorem dX3_walk_8 : decode cX3_walk 8 = .ok (.aload_n 0, 1) := by decide +kernel
theorem dX3_walk_9 : decode cX3_walk 9 = .ok (.getfield 22, 3) := by decide +kernel
theorem dX3_walk_12 : decode cX3_walk 12 = .ok (.iload_n 1, 1) := by decide +kernel
theorem dX3_walk_13 : decode cX3_walk 13 = .ok (.iconst 0, 1) := by decide +kernel
theorem dX3_walk_14 : decode cX3_walk 14 = .ok (.iastore, 1) := by decide +kernel
theorem dX3_walk_15 : decode cX3_walk 15 = .ok (.aload_n 0, 1) := by decide +kernel
theorem dX3_walk_16 : decode cX3_walk 16 = .ok (.getfield 25, 3) := by decide +kernel
theorem dX3_walk_19 : decode cX3_walk 19 = .ok (.iload_n 1, 1) := by decide +kernel
theorem dX3_walk_20 : decode cX3_walk 20 = .ok (.iload_n 1, 1) := by decide +kernel
theorem dX3_walk_21 : decode cX3_walk 21 = .ok (.aload_n 0, 1) := by decide +kernel
theorem dX3_walk_22 : decode cX3_walk 22 = .ok (.getfield 12, 3) := by decide +kernel
theorem dX3_walk_25 : decode cX3_walk 25 = .ok (.getfield 70, 3) := by decide +kernel
theorem dX3_walk_28 : decode cX3_walk 28 = .ok (.if_icmp .ne 7, 3) := by decide +kernel
theorem dX3_walk_31 : decode cX3_walk 31 = .ok (.iconst 1, 1) := by decide +kernel
theorem dX3_walk_32 : decode cX3_walk 32 = .ok (.goto 4, 3) := by decide +kernel
theorem dX3_walk_35 : decode cX3_walk 35 = .ok (.iconst 0, 1) := by decide +kernel
theorem dX3_walk_36 : decode cX3_walk 36 = .ok (.iastore, 1) := by decide +kernel
theorem dX3_walk_37 : decode cX3_walk 37 = .ok (.iinc 1 1, 3) := by decide +kernel
theorem dX3_walk_40 : decode cX3_walk 40 = .ok (.goto (-38), 3) := by decide +kernel
theorem dX3_walk_43 : decode cX3_walk 43 = .ok (.aload_n 0, 1) := by decide +kernel
theorem dX3_walk_44 : decode cX3_walk 44 = .ok (.getfield 12, 3) := by decide +kernel
theorem dX3_walk_47 : decode cX3_walk 47 = .ok (.getfield 70, 3) := by decide +kernel
theorem dX3_walk_50 : decode cX3_walk 50 = .ok (.istore_n 1, 1) := by decide +kernel
theorem dX3_walk_51 : decode cX3_walk 51 = .ok (.iload_n 1, 1) := by decide +kernel
theorem dX3_walk_52 : decode cX3_walk 52 = .ok (.ifCond .le 84, 3) := by decide +kernel
theorem dX3_walk_55 : decode cX3_walk 55 = .ok (.iconst 0, 1) := by decide +kernel
theorem dX3_walk_56 : decode cX3_walk 56 = .ok (.istore_n 2, 1) := by decide +kernel
theorem dX3_walk_57 : decode cX3_walk 57 = .ok (.iload_n 2, 1) := by decide +kernel
theorem dX3_walk_58 : decode cX3_walk 58 = .ok (.iload_n 1, 1) := by decide +kernel
theorem dX3_walk_59 : decode cX3_walk 59 = .ok (.if_icmp .ge 71, 3) := by decide +kernel
theorem dX3_walk_62 : decode cX3_walk 62 = .ok (.aload_n 0, 1) := by decide +kernel
theorem dX3_walk_63 : decode cX3_walk 63 = .ok (.getfield 25, 3) := by decide +kernel
theorem dX3_walk_66 : decode cX3_walk 66 = .ok (.iload_n 1, 1) := by decide +kernel
theorem dX3_walk_67 : decode cX3_walk 67 = .ok (.iaload, 1) := by decide +kernel
theorem dX3_walk_68 : decode cX3_walk 68 = .ok (.ifCond .le 56, 3) := by decide +kernel
theorem dX3_walk_71 : decode cX3_walk 71 = .ok (.aload_n 0, 1) := by decide +kernel
theorem dX3_walk_72 : decode cX3_walk 72 = .ok (.getfield 35, 3) := by decide +kernel
theorem dX3_walk_75 : decode cX3_walk 75 = .ok (.iload_n 1, 1) := by decide +kernel
theorem dX3_walk_76 : decode cX3_walk 76 = .ok (.iload_n 2, 1) := by decide +kernel
theorem dX3_walk_77 : decode cX3_walk 77 = .ok (.invokestatic 73, 3) := by decide +kernel
theorem dX3_walk_80 : decode cX3_walk 80 = .ok (.iaload, 1) := by decide +kernel
theorem dX3_walk_81 : decode cX3_walk 81 = .ok (.bipush (-6), 2) := by decide +kernel
theorem dX3_walk_83 : decode cX3_walk 83 = .ok (.if_icmp .eq 41, 3) := by decide +kernel
theorem dX3_walk_86 : decode cX3_walk 86 = .ok (.aload_n 0, 1) := by decide +kernel
theorem dX3_walk_87 : decode cX3_walk 87 = .ok (.getfield 25, 3) := by decide +kernel
theorem dX3_walk_90 : decode cX3_walk 90 = .ok (.iload_n 2, 1) := by decide +kernel
theorem dX3_walk_91 : decode cX3_walk 91 = .ok (.dup2, 1) := by decide +kernel
theorem dX3_walk_92 : decode cX3_walk 92 = .ok (.iaload, 1) := by decide +kernel
theorem dX3_walk_93 : decode cX3_walk 93 = .ok (.aload_n 0, 1) := by decide +kernel
theorem dX3_walk_94 : decode cX3_walk 94 = .ok (.getfield 25, 3) := by decide +kernel
theorem dX3_walk_97 : decode cX3_walk 97 = .ok (.iload_n 1, 1) := by decide +kernel
theorem dX3_walk_98 : decode cX3_walk 98 = .ok (.iaload, 1) := by decide +kernel
theorem dX3_walk_99 : decode cX3_walk 99 = .ok (.iadd, 1) := by decide +kernel
theorem dX3_walk_100 : decode cX3_walk 100 = .ok (.iastore, 1) := by decide +kernel
theorem dX3_walk_101 : decode cX3_walk 101 = .ok (.aload_n 0, 1) := by decide +kernel
theorem dX3_walk_102 : decode cX3_walk 102 = .ok (.getfield 22, 3) := by decide +kernel
theorem dX3_walk_105 : decode cX3_walk 105 = .ok (.iload_n 2, 1) := by decide +kernel
theorem dX3_walk_106 : decode cX3_walk 106 = .ok (.aload_n 0, 1) := by decide +kernel
theorem dX3_walk_107 : decode cX3_walk 107 = .ok (.getfield 22, 3) := by decide +kernel
theorem dX3_walk_110 : decode cX3_walk 110 = .ok (.iload_n 2, 1) := by decide +kernel
theorem dX3_walk_111 : decode cX3_walk 111 = .ok (.iaload, 1) := by decide +kernel
theorem dX3_walk_112 : decode cX3_walk 112 = .ok (.aload_n 0, 1) := by decide +kernel
theorem dX3_walk_113 : decode cX3_walk 113 = .ok (.getfield 22, 3) := by decide +kernel
theorem dX3_walk_116 : decode cX3_walk 116 = .ok (.iload_n 1, 1) := by decide +kernel
theorem dX3_walk_117 : decode cX3_walk 117 = .ok (.iaload, 1) := by decide +kernel
theorem dX3_walk_118 : decode cX3_walk 118 = .ok (.iconst 1, 1) := by decide +kernel
theorem dX3_walk_119 : decode cX3_walk 119 = .ok (.iadd, 1) := by decide +kernel
theorem dX3_walk_120 : decode cX3_walk 120 = .ok (.invokestatic 146, 3) := by decide +kernel
theorem dX3_walk_123 : decode cX3_walk 123 = .ok (.iastore, 1) := by decide +kernel
theorem dX3_walk_124 : decode cX3_walk 124 = .ok (.iinc 2 1, 3) := by decide +kernel
theorem dX3_walk_127 : decode cX3_walk 127 = .ok (.goto (-70), 3) := by decide +kernel
theorem dX3_walk_130 : decode cX3_walk 130 = .ok (.iinc 1 (-1), 3) := by decide +kernel
theorem dX3_walk_133 : decode cX3_walk 133 = .ok (.goto (-82), 3) := by decide +kernel
theorem dX3_walk_136 : decode cX3_walk 136 = .ok (.return_, 1) := by decide +kernel
theorem dX4_init_0 : decode cX4_init 0 = .ok (.aload_n 0, 1) := by decide +kernel
theorem dX4_init_1 : decode cX4_init 1 = .ok (.invokespecial 1, 3) := by decide +kernel
theorem dX4_init_4 : decode cX4_init 4 = .ok (.aload_n 0, 1) := by decide +kernel
theorem dX4_init_5 : decode cX4_init 5 = .ok (.new 7, 3) := by decide +kernel
theorem dX4_init_8 : decode cX4_init 8 = .ok (.dup, 1) := by decide +kernel
theorem dX4_init_9 : decode cX4_init 9 = .ok (.invokespecial 9, 3) := by decide +kernel
theorem dX4_init_12 : decode cX4_init 12 = .ok (.putfield 10, 3) := by decide +kernel
theorem dX4_init_15 : decode cX4_init 15 = .ok (.aload_n 0, 1) := by decide +kernel
theorem dX4_init_16 : decode cX4_init 16 = .ok (.new 16, 3) := by decide +kernel
theorem dX4_init_19 : decode cX4_init 19 = .ok (.dup, 1) := by decide +kernel
theorem dX4_init_20 : decode cX4_init 20 = .ok (.invokespecial 18, 3) := by decide +kernel
theorem dX4_init_23 : decode cX4_init 23 = .ok (.putfield 19, 3) := by decide +kernel
theorem dX4_init_26 : decode cX4_init 26 = .ok (.aload_n 0, 1) := by decide +kernel
theorem dX4_init_27 : decode cX4_init 27 = .ok (.aload_n 0, 1) := by decide +kernel
theorem dX4_init_28 : decode cX4_init 28 = .ok (.getfield 19, 3) := by decide +kernel
theorem dX4_init_31 : decode cX4_init 31 = .ok (.getfield 23, 3) := by decide +kernel
theorem dX4_init_34 : decode cX4_init 34 = .ok (.putfield 27, 3) := by decide +kernel
theorem dX4_init_37 : decode cX4_init 37 = .ok (.aload_n 0, 1) := by decide +kernel
theorem dX4_init_38 : decode cX4_init 38 = .ok (.new 28, 3) := by decide +kernel
theorem dX4_init_41 : decode cX4_init 41 = .ok (.dup, 1) := by decide +kernel
theorem dX4_init_42 : decode cX4_init 42 = .ok (.invokespecial 30, 3) := by decide +kernel
theorem dX4_init_45 : decode cX4_init 45 = .ok (.putfield 31, 3) := by decide +kernel
theorem dX4_init_48 : decode cX4_init 48 = .ok (.aload_n 0, 1) := by decide +kernel
theorem dX4_init_49 : decode cX4_init 49 = .ok (.iconst 2, 1) := by decide +kernel
theorem dX4_init_50 : decode cX4_init 50 = .ok (.anewarray 35, 3) := by decide +kernel
theorem dX4_init_53 : decode cX4_init 53 = .ok (.putfield 37, 3) := by decide +kernel
theorem dX4_init_56 : decode cX4_init 56 = .ok (.iconst 0, 1) := by decide +kernel
theorem dX4_init_57 : decode cX4_init 57 = .ok (.istore_n 1, 1) := by decide +kernel
theorem dX4_init_58 : decode cX4_init 58 = .ok (.iload_n 1, 1) := by decide +kernel
theorem dX4_init_59 : decode cX4_init 59 = .ok (.iconst 2, 1) := by decide +kernel
theorem dX4_init_60 : decode cX4_init 60 = .ok (.if_icmp .ge 22, 3) := by decide +kernel
theorem dX4_init_63 : decode cX4_init 63 = .ok (.aload_n 0, 1) := by decide +kernel
theorem dX4_init_64 : decode cX4_init 64 = .ok (.getfield 37, 3) := by decide +kernel
theorem dX4_init_67 : decode cX4_init 67 = .ok (.iload_n 1, 1) := by decide +kernel
theorem dX4_init_68 : decode cX4_init 68 = .ok (.new 35, 3) := by decide +kernel
theorem dX4_init_71 : decode cX4_init 71 = .ok (.dup, 1) := by decide +kernel
theorem dX4_init_72 : decode cX4_init 72 = .ok (.invokespecial 41, 3) := by decide +kernel
theorem dX4_init_75 : decode cX4_init 75 = .ok (.aastore, 1) := by decide +kernel
theorem dX4_init_76 : decode cX4_init 76 = .ok (.iinc 1 1, 3) := by decide +kernel
theorem dX4_init_79 : decode cX4_init 79 = .ok (.goto (-21), 3) := by decide +kernel
theorem dX4_init_82 : decode cX4_init 82 = .ok (.aload_n 0, 1) := by decide +kernel
theorem dX4_init_83 : decode cX4_init 83 = .ok (.iconst 2, 1) := by decide +kernel
theorem dX4_init_84 : decode cX4_init 84 = .ok (.newarray .boolean, 2) := by decide +kernel
theorem dX4_init_86 : decode cX4_init 86 = .ok (.putfield 42, 3) := by decide +kernel
theorem dX4_init_89 : decode cX4_init 89 = .ok (.aload_n 0, 1) := by decide +kernel
theorem dX4_init_90 : decode cX4_init 90 = .ok (.bipush 6, 2) := by decide +kernel
theorem dX4_init_92 : decode cX4_init 92 = .ok (.newarray .int, 2) := by decide +kernel
theorem dX4_init_94 : decode cX4_init 94 = .ok (.putfield 46, 3) := by decide +kernel
theorem dX4_init_97 : decode cX4_init 97 = .ok (.return_, 1) := by decide +kernel
theorem dX4_say_0 : decode cX4_say 0 = .ok (.iload_n 1, 1) := by decide +kernel
theorem dX4_say_1 : decode cX4_say 1 = .ok (.bipush 33, 2) := by decide +kernel
theorem dX4_say_3 : decode cX4_say 3 = .ok (.bipush 126, 2) := by decide +kernel
theorem dX4_say_5 : decode cX4_say 5 = .ok (.invokestatic 50, 3) := by decide +kernel
theorem dX4_say_8 : decode cX4_say 8 = .ok (.ifCond .ne 6, 3) := by decide +kernel
theorem dX4_say_11 : decode cX4_say 11 = .ok (.bipush (-2), 2) := by decide +kernel
theorem dX4_say_13 : decode cX4_say 13 = .ok (.ireturn, 1) := by decide +kernel
theorem dX4_say_14 : decode cX4_say 14 = .ok (.aload_n 0, 1) := by decide +kernel
theorem dX4_say_15 : decode cX4_say 15 = .ok (.getfield 10, 3) := by decide +kernel
theorem dX4_say_18 : decode cX4_say 18 = .ok (.getfield 54, 3) := by decide +kernel
theorem dX4_say_21 : decode cX4_say 21 = .ok (.bipush 20, 2) := by decide +kernel
theorem dX4_say_23 : decode cX4_say 23 = .ok (.if_icmp .lt 6, 3) := by decide +kernel
theorem dX4_say_26 : decode cX4_say 26 = .ok (.bipush (-4), 2) := by decide +kernel
theorem dX4_say_28 : decode cX4_say 28 = .ok (.ireturn, 1) := by decide +kernel
theorem dX4_say_29 : decode cX4_say 29 = .ok (.aload_n 0, 1) := by decide +kernel
theorem dX4_say_30 : decode cX4_say 30 = .ok (.getfield 10, 3) := by decide +kernel
theorem dX4_say_33 : decode cX4_say 33 = .ok (.iload_n 1, 1) := by decide +kernel
theorem dX4_say_34 : decode cX4_say 34 = .ok (.invokevirtual 58, 3) := by decide +kernel
theorem dX4_say_37 : decode cX4_say 37 = .ok (.aload_n 0, 1) := by decide +kernel
theorem dX4_say_38 : decode cX4_say 38 = .ok (.getfield 10, 3) := by decide +kernel
theorem dX4_say_41 : decode cX4_say 41 = .ok (.getfield 54, 3) := by decide +kernel
theorem dX4_say_44 : decode cX4_say 44 = .ok (.ireturn, 1) := by decide +kernel
theorem dX4_wipe_0 : decode cX4_wipe 0 = .ok (.aload_n 0, 1) := by decide +kernel
theorem dX4_wipe_1 : decode cX4_wipe 1 = .ok (.getfield 10, 3) := by decide +kernel
theorem dX4_wipe_4 : decode cX4_wipe 4 = .ok (.getfield 54, 3) := by decide +kernel
theorem dX4_wipe_7 : decode cX4_wipe 7 = .ok (.istore_n 1, 1) := by decide +kernel
theorem dX4_wipe_8 : decode cX4_wipe 8 = .ok (.aload_n 0, 1) := by decide +kernel
theorem dX4_wipe_9 : decode cX4_wipe 9 = .ok (.getfield 10, 3) := by decide +kernel
theorem dX4_wipe_12 : decode cX4_wipe 12 = .ok (.iconst 0, 1) := by decide +kernel
theorem dX4_wipe_13 : decode cX4_wipe 13 = .ok (.putfield 54, 3) := by decide +kernel
theorem dX4_wipe_16 : decode cX4_wipe 16 = .ok (.iload_n 1, 1) := by decide +kernel
theorem dX4_wipe_17 : decode cX4_wipe 17 = .ok (.ireturn, 1) := by decide +kernel
theorem dX4_fault_0 : decode cX4_fault 0 = .ok (.aload_n 0, 1) := by decide +kernel
theorem dX4_fault_1 : decode cX4_fault 1 = .ok (.getfield 10, 3) := by decide +kernel
theorem dX4_fault_4 : decode cX4_fault 4 = .ok (.invokevirtual 62, 3) := by decide +kernel
theorem dX4_fault_7 : decode cX4_fault 7 = .ok (.ireturn, 1) := by decide +kernel
theorem dX4_terms_0 : decode cX4_terms 0 = .ok (.iload_n 1, 1) := by decide +kernel
theorem dX4_terms_1 : decode cX4_terms 1 = .ok (.invokestatic 66, 3) := by decide +kernel
theorem dX4_terms_4 : decode cX4_terms 4 = .ok (.ifCond .ne 5, 3) := by decide +kernel
theorem dX4_terms_7 : decode cX4_terms 7 = .ok (.iconst (-1), 1) := by decide +kernel
theorem dX4_terms_8 : decode cX4_terms 8 = .ok (.ireturn, 1) := by decide +kernel
theorem dX4_terms_9 : decode cX4_terms 9 = .ok (.aload_n 0, 1) := by decide +kernel
theorem dX4_terms_10 : decode cX4_terms 10 = .ok (.getfield 10, 3) := by decide +kernel
theorem dX4_terms_13 : decode cX4_terms 13 = .ok (.invokevirtual 62, 3) := by decide +kernel
theorem dX4_terms_16 : decode cX4_terms 16 = .ok (.bipush (-6), 2) := by decide +kernel
theorem dX4_terms_18 : decode cX4_terms 18 = .ok (.if_icmp .eq 6, 3) := by decide +kernel
theorem dX4_terms_21 : decode cX4_terms 21 = .ok (.bipush (-5), 2) := by decide +kernel
theorem dX4_terms_23 : decode cX4_terms 23 = .ok (.ireturn, 1) := by decide +kernel
theorem dX4_terms_24 : decode cX4_terms 24 = .ok (.aload_n 0, 1) := by decide +kernel
theorem dX4_terms_25 : decode cX4_terms 25 = .ok (.getfield 27, 3) := by decide +kernel
theorem dX4_terms_28 : decode cX4_terms 28 = .ok (.getfield 70, 3) := by decide +kernel
theorem dX4_terms_31 : decode cX4_terms 31 = .ok (.iload_n 1, 1) := by decide +kernel
theorem dX4_terms_32 : decode cX4_terms 32 = .ok (.aload_n 0, 1) := by decide +kernel
theorem dX4_terms_33 : decode cX4_terms 33 = .ok (.getfield 10, 3) := by decide +kernel
theorem dX4_terms_36 : decode cX4_terms 36 = .ok (.getfield 73, 3) := by decide +kernel
theorem dX4_terms_39 : decode cX4_terms 39 = .ok (.iastore, 1) := by decide +kernel
theorem dX4_terms_40 : decode cX4_terms 40 = .ok (.aload_n 0, 1) := by decide +kernel
theorem dX4_terms_41 : decode cX4_terms 41 = .ok (.getfield 27, 3) := by decide +kernel
theorem dX4_terms_44 : decode cX4_terms 44 = .ok (.getfield 75, 3) := by decide +kernel
theorem dX4_terms_47 : decode cX4_terms 47 = .ok (.iload_n 1, 1) := by decide +kernel
theorem dX4_terms_48 : decode cX4_terms 48 = .ok (.aload_n 0, 1) := by decide +kernel
theorem dX4_terms_49 : decode cX4_terms 49 = .ok (.getfield 10, 3) := by decide +kernel
theorem dX4_terms_52 : decode cX4_terms 52 = .ok (.getfield 78, 3) := by decide +kernel
theorem dX4_terms_55 : decode cX4_terms 55 = .ok (.iastore, 1) := by decide +kernel
theorem dX4_terms_56 : decode cX4_terms 56 = .ok (.aload_n 0, 1) := by decide +kernel
theorem dX4_terms_57 : decode cX4_terms 57 = .ok (.getfield 27, 3) := by decide +kernel
theorem dX4_terms_60 : decode cX4_terms 60 = .ok (.getfield 80, 3) := by decide +kernel
theorem dX4_terms_63 : decode cX4_terms 63 = .ok (.iload_n 1, 1) := by decide +kernel
theorem dX4_terms_64 : decode cX4_terms 64 = .ok (.aload_n 0, 1) := by decide +kernel
theorem dX4_terms_65 : decode cX4_terms 65 = .ok (.getfield 10, 3) := by decide +kernel
theorem dX4_terms_68 : decode cX4_terms 68 = .ok (.getfield 83, 3) := by decide +kernel
theorem dX4_terms_71 : decode cX4_terms 71 = .ok (.iastore, 1) := by decide +kernel
theorem dX4_terms_72 : decode cX4_terms 72 = .ok (.aload_n 0, 1) := by decide +kernel
theorem dX4_terms_73 : decode cX4_terms 73 = .ok (.getfield 10, 3) := by decide +kernel
theorem dX4_terms_76 : decode cX4_terms 76 = .ok (.iconst 0, 1) := by decide +kernel
theorem dX4_terms_77 : decode cX4_terms 77 = .ok (.putfield 54, 3) := by decide +kernel
theorem dX4_terms_80 : decode cX4_terms 80 = .ok (.aload_n 0, 1) := by decide +kernel
theorem dX4_terms_81 : decode cX4_terms 81 = .ok (.getfield 27, 3) := by decide +kernel
theorem dX4_terms_84 : decode cX4_terms 84 = .ok (.getfield 70, 3) := by decide +kernel
theorem dX4_terms_87 : decode cX4_terms 87 = .ok (.iload_n 1, 1) := by decide +kernel
theorem dX4_terms_88 : decode cX4_terms 88 = .ok (.iaload, 1) := by decide +kernel
theorem dX4_terms_89 : decode cX4_terms 89 = .ok (.ireturn, 1) := by decide +kernel
theorem dX4_about_0 : decode cX4_about 0 = .ok (.iload_n 1, 1) := by decide +kernel
theorem dX4_about_1 : decode cX4_about 1 = .ok (.invokestatic 66, 3) := by decide +kernel
theorem dX4_about_4 : decode cX4_about 4 = .ok (.ifCond .ne 5, 3) := by decide +kernel
theorem dX4_about_7 : decode cX4_about 7 = .ok (.iconst (-1), 1) := by decide +kernel
theorem dX4_about_8 : decode cX4_about 8 = .ok (.ireturn, 1) := by decide +kernel
theorem dX4_about_9 : decode cX4_about 9 = .ok (.iload_n 2, 1) := by decide +kernel
theorem dX4_about_10 : decode cX4_about 10 = .ok (.tableswitch 70 0 3 #[30, 40, 50, 60], 30) := by decide +kernel
theorem dX4_about_40 : decode cX4_about 40 = .ok (.aload_n 0, 1) := by decide +kernel
theorem dX4_about_41 : decode cX4_about 41 = .ok (.getfield 27, 3) := by decide +kernel
theorem dX4_about_44 : decode cX4_about 44 = .ok (.getfield 70, 3) := by decide +kernel
theorem dX4_about_47 : decode cX4_about 47 = .ok (.iload_n 1, 1) := by decide +kernel
theorem dX4_about_48 : decode cX4_about 48 = .ok (.iaload, 1) := by decide +kernel
theorem dX4_about_49 : decode cX4_about 49 = .ok (.ireturn, 1) := by decide +kernel
theorem dX4_about_50 : decode cX4_about 50 = .ok (.aload_n 0, 1) := by decide +kernel
theorem dX4_about_51 : decode cX4_about 51 = .ok (.getfield 27, 3) := by decide +kernel
theorem dX4_about_54 : decode cX4_about 54 = .ok (.getfield 75, 3) := by decide +kernel
theorem dX4_about_57 : decode cX4_about 57 = .ok (.iload_n 1, 1) := by decide +kernel
theorem dX4_about_58 : decode cX4_about 58 = .ok (.iaload, 1) := by decide +kernel
theorem dX4_about_59 : decode cX4_about 59 = .ok (.ireturn, 1) := by decide +kernel
theorem dX4_about_60 : decode cX4_about 60 = .ok (.aload_n 0, 1) := by decide +kernel
theorem dX4_about_61 : decode cX4_about 61 = .ok (.getfield 27, 3) := by decide +kernel
theorem dX4_about_64 : decode cX4_about 64 = .ok (.getfield 80, 3) := by decide +kernel
theorem dX4_about_67 : decode cX4_about 67 = .ok (.iload_n 1, 1) := by decide +kernel
theorem dX4_about_68 : decode cX4_about 68 = .ok (.iaload, 1) := by decide +kernel
theorem dX4_about_69 : decode cX4_about 69 = .ok (.ireturn, 1) := by decide +kernel
theorem dX4_about_70 : decode cX4_about 70 = .ok (.aload_n 0, 1) := by decide +kernel
theorem dX4_about_71 : decode cX4_about 71 = .ok (.getfield 27, 3) := by decide +kernel
theorem dX4_about_74 : decode cX4_about 74 = .ok (.getfield 85, 3) := by decide +kernel
theorem dX4_about_77 : decode cX4_about 77 = .ok (.iload_n 1, 1) := by decide +kernel
theorem dX4_about_78 : decode cX4_about 78 = .ok (.iaload, 1) := by decide +kernel
theorem dX4_about_79 : decode cX4_about 79 = .ok (.ireturn, 1) := by decide +kernel
theorem dX4_about_80 : decode cX4_about 80 = .ok (.bipush (-2), 2) := by decide +kernel
theorem dX4_about_82 : decode cX4_about 82 = .ok (.ireturn, 1) := by decide +kernel
theorem dX4_later_0 : decode cX4_later 0 = .ok (.iload_n 1, 1) := by decide +kernel
theorem dX4_later_1 : decode cX4_later 1 = .ok (.invokestatic 66, 3) := by decide +kernel
theorem dX4_later_4 : decode cX4_later 4 = .ok (.ifCond .ne 5, 3) := by decide +kernel
theorem dX4_later_7 : decode cX4_later 7 = .ok (.iconst (-1), 1) := by decide +kernel
theorem dX4_later_8 : decode cX4_later 8 = .ok (.ireturn, 1) := by decide +kernel
theorem dX4_later_9 : decode cX4_later 9 = .ok (.iload_n 2, 1) := by decide +kernel
theorem dX4_later_10 : decode cX4_later 10 = .ok (.iconst (-1), 1) := by decide +kernel
theorem dX4_later_11 : decode cX4_later 11 = .ok (.iconst 4, 1) := by decide +kernel
theorem dX4_later_12 : decode cX4_later 12 = .ok (.invokestatic 50, 3) := by decide +kernel
theorem dX4_later_15 : decode cX4_later 15 = .ok (.ifCond .eq 8, 3) := by decide +kernel
theorem dX4_later_18 : decode cX4_later 18 = .ok (.iload_n 2, 1) := by decide +kernel
theorem dX4_later_19 : decode cX4_later 19 = .ok (.iload_n 1, 1) := by decide +kernel
theorem dX4_later_20 : decode cX4_later 20 = .ok (.if_icmp .ne 6, 3) := by decide +kernel
theorem dX4_later_23 : decode cX4_later 23 = .ok (.bipush (-2), 2) := by decide +kernel
theorem dX4_later_25 : decode cX4_later 25 = .ok (.ireturn, 1) := by decide +kernel
theorem dX4_later_26 : decode cX4_later 26 = .ok (.aload_n 0, 1) := by decide +kernel
theorem dX4_later_27 : decode cX4_later 27 = .ok (.getfield 27, 3) := by decide +kernel
theorem dX4_later_30 : decode cX4_later 30 = .ok (.getfield 85, 3) := by decide +kernel
theorem dX4_later_33 : decode cX4_later 33 = .ok (.iload_n 1, 1) := by decide +kernel
theorem dX4_later_34 : decode cX4_later 34 = .ok (.iaload, 1) := by decide +kernel
theorem dX4_later_35 : decode cX4_later 35 = .ok (.istore_n 3, 1) := by decide +kernel
theorem dX4_later_36 : decode cX4_later 36 = .ok (.aload_n 0, 1) := by decide +kernel
theorem dX4_later_37 : decode cX4_later 37 = .ok (.getfield 27, 3) := by decide +kernel
theorem dX4_later_40 : decode cX4_later 40 = .ok (.getfield 85, 3) := by decide +kernel
theorem dX4_later_43 : decode cX4_later 43 = .ok (.iload_n 1, 1) := by decide +kernel
theorem dX4_later_44 : decode cX4_later 44 = .ok (.iload_n 2, 1) := by decide +kernel
theorem dX4_later_45 : decode cX4_later 45 = .ok (.iconst (-1), 1) := by decide +kernel
theorem dX4_later_46 : decode cX4_later 46 = .ok (.if_icmp .ne 8, 3) := by decide +kernel
theorem dX4_later_49 : decode cX4_later 49 = .ok (.bipush (-6), 2) := by decide +kernel
theorem dX4_later_51 : decode cX4_later 51 = .ok (.goto 4, 3) := by decide +kernel
theorem dX4_later_54 : decode cX4_later 54 = .ok (.iload_n 2, 1) := by decide +kernel
theorem dX4_later_55 : decode cX4_later 55 = .ok (.iastore, 1) := by decide +kernel
theorem dX4_later_56 : decode cX4_later 56 = .ok (.iload_n 3, 1) := by decide +kernel
