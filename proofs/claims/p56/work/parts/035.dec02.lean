theorem dJ8_newLength_cabcc_9 : decode cJ8_newLength_cabcc 9 = .ok (.iload_n 3, 1) := by decide +kernel
theorem dJ8_newLength_cabcc_10 : decode cJ8_newLength_cabcc 10 = .ok (.if_icmp .ge 11, 3) := by decide +kernel
theorem dJ8_newLength_cabcc_13 : decode cJ8_newLength_cabcc 13 = .ok (.iload_n 3, 1) := by decide +kernel
theorem dJ8_newLength_cabcc_14 : decode cJ8_newLength_cabcc 14 = .ok (.ldc 200, 2) := by decide +kernel
theorem dJ8_newLength_cabcc_16 : decode cJ8_newLength_cabcc 16 = .ok (.if_icmp .gt 5, 3) := by decide +kernel
theorem dJ8_newLength_cabcc_19 : decode cJ8_newLength_cabcc 19 = .ok (.iload_n 3, 1) := by decide +kernel
theorem dJ8_newLength_cabcc_20 : decode cJ8_newLength_cabcc 20 = .ok (.ireturn, 1) := by decide +kernel
theorem dJ8_newLength_cabcc_21 : decode cJ8_newLength_cabcc 21 = .ok (.iload_n 0, 1) := by decide +kernel
theorem dJ8_newLength_cabcc_22 : decode cJ8_newLength_cabcc 22 = .ok (.iload_n 1, 1) := by decide +kernel
theorem dJ8_newLength_cabcc_23 : decode cJ8_newLength_cabcc 23 = .ok (.invokestatic 201, 3) := by decide +kernel
theorem dJ8_newLength_cabcc_26 : decode cJ8_newLength_cabcc 26 = .ok (.ireturn, 1) := by decide +kernel
theorem dJ8_hugeLength_7cf53_0 : decode cJ8_hugeLength_7cf53 0 = .ok (.iload_n 0, 1) := by decide +kernel
theorem dJ8_hugeLength_7cf53_1 : decode cJ8_hugeLength_7cf53 1 = .ok (.iload_n 1, 1) := by decide +kernel
theorem dJ8_hugeLength_7cf53_2 : decode cJ8_hugeLength_7cf53 2 = .ok (.iadd, 1) := by decide +kernel
theorem dJ8_hugeLength_7cf53_3 : decode cJ8_hugeLength_7cf53 3 = .ok (.istore_n 2, 1) := by decide +kernel
theorem dJ8_hugeLength_7cf53_4 : decode cJ8_hugeLength_7cf53 4 = .ok (.iload_n 2, 1) := by decide +kernel
theorem dJ8_hugeLength_7cf53_5 : decode cJ8_hugeLength_7cf53 5 = .ok (.ifCond .ge 44, 3) := by decide +kernel
theorem dJ8_hugeLength_7cf53_8 : decode cJ8_hugeLength_7cf53 8 = .ok (.new 204, 3) := by decide +kernel
theorem dJ8_hugeLength_7cf53_11 : decode cJ8_hugeLength_7cf53 11 = .ok (.dup, 1) := by decide +kernel
theorem dJ8_hugeLength_7cf53_12 : decode cJ8_hugeLength_7cf53 12 = .ok (.new 89, 3) := by decide +kernel
theorem dJ8_hugeLength_7cf53_15 : decode cJ8_hugeLength_7cf53 15 = .ok (.dup, 1) := by decide +kernel
theorem dJ8_hugeLength_7cf53_16 : decode cJ8_hugeLength_7cf53 16 = .ok (.invokespecial 91, 3) := by decide +kernel
theorem dJ8_hugeLength_7cf53_19 : decode cJ8_hugeLength_7cf53 19 = .ok (.ldc 206, 2) := by decide +kernel
theorem dJ8_hugeLength_7cf53_21 : decode cJ8_hugeLength_7cf53 21 = .ok (.invokevirtual 94, 3) := by decide +kernel
theorem dJ8_hugeLength_7cf53_24 : decode cJ8_hugeLength_7cf53 24 = .ok (.iload_n 0, 1) := by decide +kernel
theorem dJ8_hugeLength_7cf53_25 : decode cJ8_hugeLength_7cf53 25 = .ok (.invokevirtual 98, 3) := by decide +kernel
theorem dJ8_hugeLength_7cf53_28 : decode cJ8_hugeLength_7cf53 28 = .ok (.ldc 208, 2) := by decide +kernel
theorem dJ8_hugeLength_7cf53_30 : decode cJ8_hugeLength_7cf53 30 = .ok (.invokevirtual 94, 3) := by decide +kernel
theorem dJ8_hugeLength_7cf53_33 : decode cJ8_hugeLength_7cf53 33 = .ok (.iload_n 1, 1) := by decide +kernel
theorem dJ8_hugeLength_7cf53_34 : decode cJ8_hugeLength_7cf53 34 = .ok (.invokevirtual 98, 3) := by decide +kernel
theorem dJ8_hugeLength_7cf53_37 : decode cJ8_hugeLength_7cf53 37 = .ok (.ldc 210, 2) := by decide +kernel
theorem dJ8_hugeLength_7cf53_39 : decode cJ8_hugeLength_7cf53 39 = .ok (.invokevirtual 94, 3) := by decide +kernel
theorem dJ8_hugeLength_7cf53_42 : decode cJ8_hugeLength_7cf53 42 = .ok (.invokevirtual 101, 3) := by decide +kernel
theorem dJ8_hugeLength_7cf53_45 : decode cJ8_hugeLength_7cf53 45 = .ok (.invokespecial 212, 3) := by decide +kernel
theorem dJ8_hugeLength_7cf53_48 : decode cJ8_hugeLength_7cf53 48 = .ok (.athrow, 1) := by decide +kernel
theorem dJ8_hugeLength_7cf53_49 : decode cJ8_hugeLength_7cf53 49 = .ok (.iload_n 2, 1) := by decide +kernel
theorem dJ8_hugeLength_7cf53_50 : decode cJ8_hugeLength_7cf53 50 = .ok (.ldc 200, 2) := by decide +kernel
theorem dJ8_hugeLength_7cf53_52 : decode cJ8_hugeLength_7cf53 52 = .ok (.if_icmp .gt 6, 3) := by decide +kernel
theorem dJ8_hugeLength_7cf53_55 : decode cJ8_hugeLength_7cf53 55 = .ok (.ldc 200, 2) := by decide +kernel
theorem dJ8_hugeLength_7cf53_57 : decode cJ8_hugeLength_7cf53 57 = .ok (.ireturn, 1) := by decide +kernel
theorem dJ8_hugeLength_7cf53_58 : decode cJ8_hugeLength_7cf53 58 = .ok (.iload_n 2, 1) := by decide +kernel
theorem dJ8_hugeLength_7cf53_59 : decode cJ8_hugeLength_7cf53 59 = .ok (.ireturn, 1) := by decide +kernel
theorem dJ3_checkIndex_8e157_0 : decode cJ3_checkIndex_8e157 0 = .ok (.iload_n 0, 1) := by decide +kernel
theorem dJ3_checkIndex_8e157_1 : decode cJ3_checkIndex_8e157 1 = .ok (.ifCond .lt 8, 3) := by decide +kernel
theorem dJ3_checkIndex_8e157_4 : decode cJ3_checkIndex_8e157 4 = .ok (.iload_n 0, 1) := by decide +kernel
theorem dJ3_checkIndex_8e157_5 : decode cJ3_checkIndex_8e157 5 = .ok (.iload_n 1, 1) := by decide +kernel
theorem dJ3_checkIndex_8e157_6 : decode cJ3_checkIndex_8e157 6 = .ok (.if_icmp .lt 10, 3) := by decide +kernel
theorem dJ3_checkIndex_8e157_9 : decode cJ3_checkIndex_8e157 9 = .ok (.aload_n 2, 1) := by decide +kernel
theorem dJ3_checkIndex_8e157_10 : decode cJ3_checkIndex_8e157 10 = .ok (.iload_n 0, 1) := by decide +kernel
theorem dJ3_checkIndex_8e157_11 : decode cJ3_checkIndex_8e157 11 = .ok (.iload_n 1, 1) := by decide +kernel
theorem dJ3_checkIndex_8e157_12 : decode cJ3_checkIndex_8e157 12 = .ok (.invokestatic 95, 3) := by decide +kernel
theorem dJ3_checkIndex_8e157_15 : decode cJ3_checkIndex_8e157 15 = .ok (.athrow, 1) := by decide +kernel
theorem dJ3_checkIndex_8e157_16 : decode cJ3_checkIndex_8e157 16 = .ok (.iload_n 0, 1) := by decide +kernel
theorem dJ3_checkIndex_8e157_17 : decode cJ3_checkIndex_8e157 17 = .ok (.ireturn, 1) := by decide +kernel
theorem dJ3_checkFromToIndex_8c36e_0 : decode cJ3_checkFromToIndex_8c36e 0 = .ok (.iload_n 0, 1) := by decide +kernel
theorem dJ3_checkFromToIndex_8c36e_1 : decode cJ3_checkFromToIndex_8c36e 1 = .ok (.ifCond .lt 13, 3) := by decide +kernel
theorem dJ3_checkFromToIndex_8c36e_4 : decode cJ3_checkFromToIndex_8c36e 4 = .ok (.iload_n 0, 1) := by decide +kernel
theorem dJ3_checkFromToIndex_8c36e_5 : decode cJ3_checkFromToIndex_8c36e 5 = .ok (.iload_n 1, 1) := by decide +kernel
theorem dJ3_checkFromToIndex_8c36e_6 : decode cJ3_checkFromToIndex_8c36e 6 = .ok (.if_icmp .gt 8, 3) := by decide +kernel
theorem dJ3_checkFromToIndex_8c36e_9 : decode cJ3_checkFromToIndex_8c36e 9 = .ok (.iload_n 1, 1) := by decide +kernel
theorem dJ3_checkFromToIndex_8c36e_10 : decode cJ3_checkFromToIndex_8c36e 10 = .ok (.iload_n 2, 1) := by decide +kernel
theorem dJ3_checkFromToIndex_8c36e_11 : decode cJ3_checkFromToIndex_8c36e 11 = .ok (.if_icmp .le 11, 3) := by decide +kernel
theorem dJ3_checkFromToIndex_8c36e_14 : decode cJ3_checkFromToIndex_8c36e 14 = .ok (.aload_n 3, 1) := by decide +kernel
theorem dJ3_checkFromToIndex_8c36e_15 : decode cJ3_checkFromToIndex_8c36e 15 = .ok (.iload_n 0, 1) := by decide +kernel
theorem dJ3_checkFromToIndex_8c36e_16 : decode cJ3_checkFromToIndex_8c36e 16 = .ok (.iload_n 1, 1) := by decide +kernel
theorem dJ3_checkFromToIndex_8c36e_17 : decode cJ3_checkFromToIndex_8c36e 17 = .ok (.iload_n 2, 1) := by decide +kernel
theorem dJ3_checkFromToIndex_8c36e_18 : decode cJ3_checkFromToIndex_8c36e 18 = .ok (.invokestatic 99, 3) := by decide +kernel
theorem dJ3_checkFromToIndex_8c36e_21 : decode cJ3_checkFromToIndex_8c36e 21 = .ok (.athrow, 1) := by decide +kernel
theorem dJ3_checkFromToIndex_8c36e_22 : decode cJ3_checkFromToIndex_8c36e 22 = .ok (.iload_n 0, 1) := by decide +kernel
theorem dJ3_checkFromToIndex_8c36e_23 : decode cJ3_checkFromToIndex_8c36e 23 = .ok (.ireturn, 1) := by decide +kernel
theorem dJ3_checkFromIndexSize_8c36e_0 : decode cJ3_checkFromIndexSize_8c36e 0 = .ok (.iload_n 2, 1) := by decide +kernel
theorem dJ3_checkFromIndexSize_8c36e_1 : decode cJ3_checkFromIndexSize_8c36e 1 = .ok (.iload_n 0, 1) := by decide +kernel
theorem dJ3_checkFromIndexSize_8c36e_2 : decode cJ3_checkFromIndexSize_8c36e 2 = .ok (.ior, 1) := by decide +kernel
theorem dJ3_checkFromIndexSize_8c36e_3 : decode cJ3_checkFromIndexSize_8c36e 3 = .ok (.iload_n 1, 1) := by decide +kernel
theorem dJ3_checkFromIndexSize_8c36e_4 : decode cJ3_checkFromIndexSize_8c36e 4 = .ok (.ior, 1) := by decide +kernel
theorem dJ3_checkFromIndexSize_8c36e_5 : decode cJ3_checkFromIndexSize_8c36e 5 = .ok (.ifCond .lt 10, 3) := by decide +kernel
theorem dJ3_checkFromIndexSize_8c36e_8 : decode cJ3_checkFromIndexSize_8c36e 8 = .ok (.iload_n 1, 1) := by decide +kernel
theorem dJ3_checkFromIndexSize_8c36e_9 : decode cJ3_checkFromIndexSize_8c36e 9 = .ok (.iload_n 2, 1) := by decide +kernel
theorem dJ3_checkFromIndexSize_8c36e_10 : decode cJ3_checkFromIndexSize_8c36e 10 = .ok (.iload_n 0, 1) := by decide +kernel
theorem dJ3_checkFromIndexSize_8c36e_11 : decode cJ3_checkFromIndexSize_8c36e 11 = .ok (.isub, 1) := by decide +kernel
theorem dJ3_checkFromIndexSize_8c36e_12 : decode cJ3_checkFromIndexSize_8c36e 12 = .ok (.if_icmp .le 11, 3) := by decide +kernel
theorem dJ3_checkFromIndexSize_8c36e_15 : decode cJ3_checkFromIndexSize_8c36e 15 = .ok (.aload_n 3, 1) := by decide +kernel
theorem dJ3_checkFromIndexSize_8c36e_16 : decode cJ3_checkFromIndexSize_8c36e 16 = .ok (.iload_n 0, 1) := by decide +kernel
theorem dJ3_checkFromIndexSize_8c36e_17 : decode cJ3_checkFromIndexSize_8c36e 17 = .ok (.iload_n 1, 1) := by decide +kernel
theorem dJ3_checkFromIndexSize_8c36e_18 : decode cJ3_checkFromIndexSize_8c36e 18 = .ok (.iload_n 2, 1) := by decide +kernel
theorem dJ3_checkFromIndexSize_8c36e_19 : decode cJ3_checkFromIndexSize_8c36e 19 = .ok (.invokestatic 103, 3) := by decide +kernel
theorem dJ3_checkFromIndexSize_8c36e_22 : decode cJ3_checkFromIndexSize_8c36e 22 = .ok (.athrow, 1) := by decide +kernel
theorem dJ3_checkFromIndexSize_8c36e_23 : decode cJ3_checkFromIndexSize_8c36e 23 = .ok (.iload_n 0, 1) := by decide +kernel
theorem dJ3_checkFromIndexSize_8c36e_24 : decode cJ3_checkFromIndexSize_8c36e 24 = .ok (.ireturn, 1) := by decide +kernel
theorem dX0_init_0 : decode cX0_init 0 = .ok (.aload_n 0, 1) := by decide +kernel
theorem dX0_init_1 : decode cX0_init 1 = .ok (.invokespecial 3, 3) := by decide +kernel
theorem dX0_init_4 : decode cX0_init 4 = .ok (.aload_n 0, 1) := by decide +kernel
theorem dX0_init_5 : decode cX0_init 5 = .ok (.bipush 9, 2) := by decide +kernel
theorem dX0_init_7 : decode cX0_init 7 = .ok (.anewarray 9, 3) := by decide +kernel
theorem dX0_init_10 : decode cX0_init 10 = .ok (.putfield 11, 3) := by decide +kernel
theorem dX0_init_13 : decode cX0_init 13 = .ok (.aload_n 0, 1) := by decide +kernel
theorem dX0_init_14 : decode cX0_init 14 = .ok (.iconst 0, 1) := by decide +kernel
theorem dX0_init_15 : decode cX0_init 15 = .ok (.putfield 15, 3) := by decide +kernel
theorem dX0_init_18 : decode cX0_init 18 = .ok (.aload_n 0, 1) := by decide +kernel
theorem dX0_init_19 : decode cX0_init 19 = .ok (.iconst 0, 1) := by decide +kernel
theorem dX0_init_20 : decode cX0_init 20 = .ok (.putfield 19, 3) := by decide +kernel
theorem dX0_init_23 : decode cX0_init 23 = .ok (.iconst 0, 1) := by decide +kernel
theorem dX0_init_24 : decode cX0_init 24 = .ok (.istore_n 1, 1) := by decide +kernel
theorem dX0_init_25 : decode cX0_init 25 = .ok (.iload_n 1, 1) := by decide +kernel
theorem dX0_init_26 : decode cX0_init 26 = .ok (.bipush 9, 2) := by decide +kernel
theorem dX0_init_28 : decode cX0_init 28 = .ok (.if_icmp .ge 22, 3) := by decide +kernel
theorem dX0_init_31 : decode cX0_init 31 = .ok (.aload_n 0, 1) := by decide +kernel
theorem dX0_init_32 : decode cX0_init 32 = .ok (.getfield 11, 3) := by decide +kernel
theorem dX0_init_35 : decode cX0_init 35 = .ok (.iload_n 1, 1) := by decide +kernel
theorem dX0_init_36 : decode cX0_init 36 = .ok (.new 9, 3) := by decide +kernel
theorem dX0_init_39 : decode cX0_init 39 = .ok (.dup, 1) := by decide +kernel
theorem dX0_init_40 : decode cX0_init 40 = .ok (.invokespecial 22, 3) := by decide +kernel
theorem dX0_init_43 : decode cX0_init 43 = .ok (.aastore, 1) := by decide +kernel
theorem dX0_init_44 : decode cX0_init 44 = .ok (.iinc 1 1, 3) := by decide +kernel
theorem dX0_init_47 : decode cX0_init 47 = .ok (.goto (-22), 3) := by decide +kernel
theorem dX0_init_50 : decode cX0_init 50 = .ok (.return_, 1) := by decide +kernel
theorem dX0_prepare_0 : decode cX0_prepare 0 = .ok (.aload_n 0, 1) := by decide +kernel
theorem dX0_prepare_1 : decode cX0_prepare 1 = .ok (.getfield 11, 3) := by decide +kernel
theorem dX0_prepare_4 : decode cX0_prepare 4 = .ok (.aload_n 0, 1) := by decide +kernel
theorem dX0_prepare_5 : decode cX0_prepare 5 = .ok (.getfield 15, 3) := by decide +kernel
theorem dX0_prepare_8 : decode cX0_prepare 8 = .ok (.aaload, 1) := by decide +kernel
theorem dX0_prepare_9 : decode cX0_prepare 9 = .ok (.aload_n 1, 1) := by decide +kernel
theorem dX0_prepare_10 : decode cX0_prepare 10 = .ok (.invokevirtual 23, 3) := by decide +kernel
theorem dX0_prepare_13 : decode cX0_prepare 13 = .ok (.return_, 1) := by decide +kernel
theorem dX0_takeBack_0 : decode cX0_takeBack 0 = .ok (.aload_n 1, 1) := by decide +kernel
theorem dX0_takeBack_1 : decode cX0_takeBack 1 = .ok (.aload_n 0, 1) := by decide +kernel
theorem dX0_takeBack_2 : decode cX0_takeBack 2 = .ok (.getfield 11, 3) := by decide +kernel
theorem dX0_takeBack_5 : decode cX0_takeBack 5 = .ok (.aload_n 0, 1) := by decide +kernel
theorem dX0_takeBack_6 : decode cX0_takeBack 6 = .ok (.getfield 15, 3) := by decide +kernel
theorem dX0_takeBack_9 : decode cX0_takeBack 9 = .ok (.aaload, 1) := by decide +kernel
theorem dX0_takeBack_10 : decode cX0_takeBack 10 = .ok (.invokevirtual 23, 3) := by decide +kernel
theorem dX0_takeBack_13 : decode cX0_takeBack 13 = .ok (.return_, 1) := by decide +kernel
theorem dX0_commit_0 : decode cX0_commit 0 = .ok (.aload_n 0, 1) := by decide +kernel
theorem dX0_commit_1 : decode cX0_commit 1 = .ok (.aload_n 0, 1) := by decide +kernel
theorem dX0_commit_2 : decode cX0_commit 2 = .ok (.getfield 15, 3) := by decide +kernel
theorem dX0_commit_5 : decode cX0_commit 5 = .ok (.iconst 1, 1) := by decide +kernel
theorem dX0_commit_6 : decode cX0_commit 6 = .ok (.iadd, 1) := by decide +kernel
theorem dX0_commit_7 : decode cX0_commit 7 = .ok (.bipush 9, 2) := by decide +kernel
theorem dX0_commit_9 : decode cX0_commit 9 = .ok (.irem, 1) := by decide +kernel
theorem dX0_commit_10 : decode cX0_commit 10 = .ok (.putfield 15, 3) := by decide +kernel
theorem dX0_commit_13 : decode cX0_commit 13 = .ok (.aload_n 0, 1) := by decide +kernel
theorem dX0_commit_14 : decode cX0_commit 14 = .ok (.aload_n 0, 1) := by decide +kernel
theorem dX0_commit_15 : decode cX0_commit 15 = .ok (.getfield 19, 3) := by decide +kernel
theorem dX0_commit_18 : decode cX0_commit 18 = .ok (.iconst 1, 1) := by decide +kernel
theorem dX0_commit_19 : decode cX0_commit 19 = .ok (.iadd, 1) := by decide +kernel
theorem dX0_commit_20 : decode cX0_commit 20 = .ok (.bipush 8, 2) := by decide +kernel
theorem dX0_commit_22 : decode cX0_commit 22 = .ok (.invokestatic 27, 3) := by decide +kernel
theorem dX0_commit_25 : decode cX0_commit 25 = .ok (.putfield 19, 3) := by decide +kernel
theorem dX0_commit_28 : decode cX0_commit 28 = .ok (.return_, 1) := by decide +kernel
theorem dX0_stepBack_0 : decode cX0_stepBack 0 = .ok (.aload_n 0, 1) := by decide +kernel
theorem dX0_stepBack_1 : decode cX0_stepBack 1 = .ok (.aload_n 0, 1) := by decide +kernel
theorem dX0_stepBack_2 : decode cX0_stepBack 2 = .ok (.getfield 15, 3) := by decide +kernel
theorem dX0_stepBack_5 : decode cX0_stepBack 5 = .ok (.bipush 8, 2) := by decide +kernel
theorem dX0_stepBack_7 : decode cX0_stepBack 7 = .ok (.iadd, 1) := by decide +kernel
theorem dX0_stepBack_8 : decode cX0_stepBack 8 = .ok (.bipush 9, 2) := by decide +kernel
theorem dX0_stepBack_10 : decode cX0_stepBack 10 = .ok (.irem, 1) := by decide +kernel
theorem dX0_stepBack_11 : decode cX0_stepBack 11 = .ok (.putfield 15, 3) := by decide +kernel
theorem dX0_stepBack_14 : decode cX0_stepBack 14 = .ok (.aload_n 0, 1) := by decide +kernel
theorem dX0_stepBack_15 : decode cX0_stepBack 15 = .ok (.dup, 1) := by decide +kernel
theorem dX0_stepBack_16 : decode cX0_stepBack 16 = .ok (.getfield 19, 3) := by decide +kernel
theorem dX0_stepBack_19 : decode cX0_stepBack 19 = .ok (.iconst 1, 1) := by decide +kernel
theorem dX0_stepBack_20 : decode cX0_stepBack 20 = .ok (.isub, 1) := by decide +kernel
theorem dX0_stepBack_21 : decode cX0_stepBack 21 = .ok (.putfield 19, 3) := by decide +kernel
theorem dX0_stepBack_24 : decode cX0_stepBack 24 = .ok (.aload_n 0, 1) := by decide +kernel
theorem dX0_stepBack_25 : decode cX0_stepBack 25 = .ok (.aload_n 1, 1) := by decide +kernel
theorem dX0_stepBack_26 : decode cX0_stepBack 26 = .ok (.invokevirtual 33, 3) := by decide +kernel
theorem dX0_stepBack_29 : decode cX0_stepBack 29 = .ok (.return_, 1) := by decide +kernel
theorem dX1_init_0 : decode cX1_init 0 = .ok (.aload_n 0, 1) := by decide +kernel
theorem dX1_init_1 : decode cX1_init 1 = .ok (.invokespecial 3, 3) := by decide +kernel
theorem dX1_init_4 : decode cX1_init 4 = .ok (.aload_n 0, 1) := by decide +kernel
theorem dX1_init_5 : decode cX1_init 5 = .ok (.bipush 32, 2) := by decide +kernel
theorem dX1_init_7 : decode cX1_init 7 = .ok (.newarray .char, 2) := by decide +kernel
theorem dX1_init_9 : decode cX1_init 9 = .ok (.putfield 11, 3) := by decide +kernel
theorem dX1_init_12 : decode cX1_init 12 = .ok (.aload_n 0, 1) := by decide +kernel
theorem dX1_init_13 : decode cX1_init 13 = .ok (.iconst 0, 1) := by decide +kernel
theorem dX1_init_14 : decode cX1_init 14 = .ok (.putfield 15, 3) := by decide +kernel
theorem dX1_init_17 : decode cX1_init 17 = .ok (.return_, 1) := by decide +kernel
theorem dX1_showDoor_0 : decode cX1_showDoor 0 = .ok (.aload_n 0, 1) := by decide +kernel
theorem dX1_showDoor_1 : decode cX1_showDoor 1 = .ok (.iconst 0, 1) := by decide +kernel
theorem dX1_showDoor_2 : decode cX1_showDoor 2 = .ok (.putfield 15, 3) := by decide +kernel
theorem dX1_showDoor_5 : decode cX1_showDoor 5 = .ok (.aload_n 0, 1) := by decide +kernel
theorem dX1_showDoor_6 : decode cX1_showDoor 6 = .ok (.aload_n 1, 1) := by decide +kernel
theorem dX1_showDoor_7 : decode cX1_showDoor 7 = .ok (.getfield 19, 3) := by decide +kernel
theorem dX1_showDoor_10 : decode cX1_showDoor 10 = .ok (.iload_n 2, 1) := by decide +kernel
theorem dX1_showDoor_11 : decode cX1_showDoor 11 = .ok (.caload, 1) := by decide +kernel
theorem dX1_showDoor_12 : decode cX1_showDoor 12 = .ok (.invokevirtual 24, 3) := by decide +kernel
theorem dX1_showDoor_15 : decode cX1_showDoor 15 = .ok (.aload_n 0, 1) := by decide +kernel
theorem dX1_showDoor_16 : decode cX1_showDoor 16 = .ok (.aload_n 1, 1) := by decide +kernel
theorem dX1_showDoor_17 : decode cX1_showDoor 17 = .ok (.getfield 28, 3) := by decide +kernel
theorem dX1_showDoor_20 : decode cX1_showDoor 20 = .ok (.iload_n 2, 1) := by decide +kernel
theorem dX1_showDoor_21 : decode cX1_showDoor 21 = .ok (.iaload, 1) := by decide +kernel
theorem dX1_showDoor_22 : decode cX1_showDoor 22 = .ok (.invokevirtual 32, 3) := by decide +kernel
theorem dX1_showDoor_25 : decode cX1_showDoor 25 = .ok (.iconst 0, 1) := by decide +kernel
theorem dX1_showDoor_26 : decode cX1_showDoor 26 = .ok (.istore_n 3, 1) := by decide +kernel
theorem dX1_showDoor_27 : decode cX1_showDoor 27 = .ok (.iload_n 3, 1) := by decide +kernel
theorem dX1_showDoor_28 : decode cX1_showDoor 28 = .ok (.aload_n 1, 1) := by decide +kernel
theorem dX1_showDoor_29 : decode cX1_showDoor 29 = .ok (.getfield 36, 3) := by decide +kernel
theorem dX1_showDoor_32 : decode cX1_showDoor 32 = .ok (.if_icmp .ge 43, 3) := by decide +kernel
theorem dX1_showDoor_35 : decode cX1_showDoor 35 = .ok (.aload_n 1, 1) := by decide +kernel
theorem dX1_showDoor_36 : decode cX1_showDoor 36 = .ok (.iload_n 3, 1) := by decide +kernel
theorem dX1_showDoor_37 : decode cX1_showDoor 37 = .ok (.iload_n 2, 1) := by decide +kernel
theorem dX1_showDoor_38 : decode cX1_showDoor 38 = .ok (.invokevirtual 39, 3) := by decide +kernel
theorem dX1_showDoor_41 : decode cX1_showDoor 41 = .ok (.ifCond .eq 28, 3) := by decide +kernel
theorem dX1_showDoor_44 : decode cX1_showDoor 44 = .ok (.aload_n 0, 1) := by decide +kernel
theorem dX1_showDoor_45 : decode cX1_showDoor 45 = .ok (.bipush 32, 2) := by decide +kernel
theorem dX1_showDoor_47 : decode cX1_showDoor 47 = .ok (.invokevirtual 24, 3) := by decide +kernel
theorem dX1_showDoor_50 : decode cX1_showDoor 50 = .ok (.aload_n 0, 1) := by decide +kernel
theorem dX1_showDoor_51 : decode cX1_showDoor 51 = .ok (.iload_n 3, 1) := by decide +kernel
theorem dX1_showDoor_52 : decode cX1_showDoor 52 = .ok (.invokevirtual 32, 3) := by decide +kernel
theorem dX1_showDoor_55 : decode cX1_showDoor 55 = .ok (.aload_n 0, 1) := by decide +kernel
theorem dX1_showDoor_56 : decode cX1_showDoor 56 = .ok (.bipush 58, 2) := by decide +kernel
theorem dX1_showDoor_58 : decode cX1_showDoor 58 = .ok (.aload_n 1, 1) := by decide +kernel
theorem dX1_showDoor_59 : decode cX1_showDoor 59 = .ok (.getfield 43, 3) := by decide +kernel
theorem dX1_showDoor_62 : decode cX1_showDoor 62 = .ok (.iload_n 3, 1) := by decide +kernel
theorem dX1_showDoor_63 : decode cX1_showDoor 63 = .ok (.aaload, 1) := by decide +kernel
theorem dX1_showDoor_64 : decode cX1_showDoor 64 = .ok (.iload_n 2, 1) := by decide +kernel
theorem dX1_showDoor_65 : decode cX1_showDoor 65 = .ok (.iaload, 1) := by decide +kernel
theorem dX1_showDoor_66 : decode cX1_showDoor 66 = .ok (.invokevirtual 47, 3) := by decide +kernel
theorem dX1_showDoor_69 : decode cX1_showDoor 69 = .ok (.iinc 3 1, 3) := by decide +kernel
theorem dX1_showDoor_72 : decode cX1_showDoor 72 = .ok (.goto (-45), 3) := by decide +kernel
theorem dX1_showDoor_75 : decode cX1_showDoor 75 = .ok (.aload_n 0, 1) := by decide +kernel
theorem dX1_showDoor_76 : decode cX1_showDoor 76 = .ok (.bipush 61, 2) := by decide +kernel
theorem dX1_showDoor_78 : decode cX1_showDoor 78 = .ok (.aload_n 1, 1) := by decide +kernel
theorem dX1_showDoor_79 : decode cX1_showDoor 79 = .ok (.iload_n 2, 1) := by decide +kernel
theorem dX1_showDoor_80 : decode cX1_showDoor 80 = .ok (.invokevirtual 51, 3) := by decide +kernel
theorem dX1_showDoor_83 : decode cX1_showDoor 83 = .ok (.invokevirtual 47, 3) := by decide +kernel
theorem dX1_showDoor_86 : decode cX1_showDoor 86 = .ok (.aload_n 1, 1) := by decide +kernel
theorem dX1_showDoor_87 : decode cX1_showDoor 87 = .ok (.iload_n 2, 1) := by decide +kernel
theorem dX1_showDoor_88 : decode cX1_showDoor 88 = .ok (.invokevirtual 55, 3) := by decide +kernel
theorem dX1_showDoor_91 : decode cX1_showDoor 91 = .ok (.ifCond .eq 9, 3) := by decide +kernel
theorem dX1_showDoor_94 : decode cX1_showDoor 94 = .ok (.aload_n 0, 1) := by decide +kernel
theorem dX1_showDoor_95 : decode cX1_showDoor 95 = .ok (.bipush 42, 2) := by decide +kernel
theorem dX1_showDoor_97 : decode cX1_showDoor 97 = .ok (.invokevirtual 24, 3) := by decide +kernel
theorem dX1_showDoor_100 : decode cX1_showDoor 100 = .ok (.return_, 1) := by decide +kernel
theorem dX1_showExaminer_0 : decode cX1_showExaminer 0 = .ok (.aload_n 0, 1) := by decide +kernel
theorem dX1_showExaminer_1 : decode cX1_showExaminer 1 = .ok (.iconst 0, 1) := by decide +kernel
theorem dX1_showExaminer_2 : decode cX1_showExaminer 2 = .ok (.putfield 15, 3) := by decide +kernel
theorem dX1_showExaminer_5 : decode cX1_showExaminer 5 = .ok (.aload_n 0, 1) := by decide +kernel
theorem dX1_showExaminer_6 : decode cX1_showExaminer 6 = .ok (.aload_n 1, 1) := by decide +kernel
theorem dX1_showExaminer_7 : decode cX1_showExaminer 7 = .ok (.getfield 59, 3) := by decide +kernel
theorem dX1_showExaminer_10 : decode cX1_showExaminer 10 = .ok (.iload_n 2, 1) := by decide +kernel
theorem dX1_showExaminer_11 : decode cX1_showExaminer 11 = .ok (.caload, 1) := by decide +kernel
theorem dX1_showExaminer_12 : decode cX1_showExaminer 12 = .ok (.invokevirtual 24, 3) := by decide +kernel
theorem dX1_showExaminer_15 : decode cX1_showExaminer 15 = .ok (.aload_n 0, 1) := by decide +kernel
theorem dX1_showExaminer_16 : decode cX1_showExaminer 16 = .ok (.aload_n 1, 1) := by decide +kernel
theorem dX1_showExaminer_17 : decode cX1_showExaminer 17 = .ok (.iload_n 2, 1) := by decide +kernel
theorem dX1_showExaminer_18 : decode cX1_showExaminer 18 = .ok (.invokevirtual 62, 3) := by decide +kernel
theorem dX1_showExaminer_21 : decode cX1_showExaminer 21 = .ok (.invokevirtual 32, 3) := by decide +kernel
theorem dX1_showExaminer_24 : decode cX1_showExaminer 24 = .ok (.aload_n 0, 1) := by decide +kernel
theorem dX1_showExaminer_25 : decode cX1_showExaminer 25 = .ok (.bipush 47, 2) := by decide +kernel
theorem dX1_showExaminer_27 : decode cX1_showExaminer 27 = .ok (.invokevirtual 24, 3) := by decide +kernel
theorem dX1_showExaminer_30 : decode cX1_showExaminer 30 = .ok (.aload_n 0, 1) := by decide +kernel
theorem dX1_showExaminer_31 : decode cX1_showExaminer 31 = .ok (.aload_n 1, 1) := by decide +kernel
theorem dX1_showExaminer_32 : decode cX1_showExaminer 32 = .ok (.getfield 65, 3) := by decide +kernel
theorem dX1_showExaminer_35 : decode cX1_showExaminer 35 = .ok (.iload_n 2, 1) := by decide +kernel
theorem dX1_showExaminer_36 : decode cX1_showExaminer 36 = .ok (.iaload, 1) := by decide +kernel
theorem dX1_showExaminer_37 : decode cX1_showExaminer 37 = .ok (.invokevirtual 32, 3) := by decide +kernel
theorem dX1_showExaminer_40 : decode cX1_showExaminer 40 = .ok (.aload_n 0, 1) := by decide +kernel
theorem dX1_showExaminer_41 : decode cX1_showExaminer 41 = .ok (.bipush 35, 2) := by decide +kernel
theorem dX1_showExaminer_43 : decode cX1_showExaminer 43 = .ok (.invokevirtual 24, 3) := by decide +kernel
theorem dX1_showExaminer_46 : decode cX1_showExaminer 46 = .ok (.iconst 0, 1) := by decide +kernel
theorem dX1_showExaminer_47 : decode cX1_showExaminer 47 = .ok (.istore_n 3, 1) := by decide +kernel
theorem dX1_showExaminer_48 : decode cX1_showExaminer 48 = .ok (.iload_n 3, 1) := by decide +kernel
theorem dX1_showExaminer_49 : decode cX1_showExaminer 49 = .ok (.bipush 6, 2) := by decide +kernel
theorem dX1_showExaminer_51 : decode cX1_showExaminer 51 = .ok (.if_icmp .ge 27, 3) := by decide +kernel
theorem dX1_showExaminer_54 : decode cX1_showExaminer 54 = .ok (.aload_n 1, 1) := by decide +kernel
theorem dX1_showExaminer_55 : decode cX1_showExaminer 55 = .ok (.getfield 68, 3) := by decide +kernel
theorem dX1_showExaminer_58 : decode cX1_showExaminer 58 = .ok (.iload_n 2, 1) := by decide +kernel
theorem dX1_showExaminer_59 : decode cX1_showExaminer 59 = .ok (.iaload, 1) := by decide +kernel
theorem dX1_showExaminer_60 : decode cX1_showExaminer 60 = .ok (.iload_n 3, 1) := by decide +kernel
theorem dX1_showExaminer_61 : decode cX1_showExaminer 61 = .ok (.invokestatic 71, 3) := by decide +kernel
theorem dX1_showExaminer_64 : decode cX1_showExaminer 64 = .ok (.ifCond .eq 8, 3) := by decide +kernel
theorem dX1_showExaminer_67 : decode cX1_showExaminer 67 = .ok (.aload_n 0, 1) := by decide +kernel
theorem dX1_showExaminer_68 : decode cX1_showExaminer 68 = .ok (.iload_n 3, 1) := by decide +kernel
theorem dX1_showExaminer_69 : decode cX1_showExaminer 69 = .ok (.invokevirtual 32, 3) := by decide +kernel
theorem dX1_showExaminer_72 : decode cX1_showExaminer 72 = .ok (.iinc 3 1, 3) := by decide +kernel
theorem dX1_showExaminer_75 : decode cX1_showExaminer 75 = .ok (.goto (-27), 3) := by decide +kernel
theorem dX1_showExaminer_78 : decode cX1_showExaminer 78 = .ok (.aload_n 0, 1) := by decide +kernel
theorem dX1_showExaminer_79 : decode cX1_showExaminer 79 = .ok (.bipush 43, 2) := by decide +kernel
theorem dX1_showExaminer_81 : decode cX1_showExaminer 81 = .ok (.invokevirtual 24, 3) := by decide +kernel
theorem dX1_showExaminer_84 : decode cX1_showExaminer 84 = .ok (.aload_n 0, 1) := by decide +kernel
theorem dX1_showExaminer_85 : decode cX1_showExaminer 85 = .ok (.aload_n 1, 1) := by decide +kernel
theorem dX1_showExaminer_86 : decode cX1_showExaminer 86 = .ok (.getfield 74, 3) := by decide +kernel
theorem dX1_showExaminer_89 : decode cX1_showExaminer 89 = .ok (.iload_n 2, 1) := by decide +kernel
theorem dX1_showExaminer_90 : decode cX1_showExaminer 90 = .ok (.iaload, 1) := by decide +kernel
theorem dX1_showExaminer_91 : decode cX1_showExaminer 91 = .ok (.invokevirtual 32, 3) := by decide +kernel
theorem dX1_showExaminer_94 : decode cX1_showExaminer 94 = .ok (.return_, 1) := by decide +kernel
theorem dX1_putIfThere_0 : decode cX1_putIfThere 0 = .ok (.iload_n 2, 1) := by decide +kernel
theorem dX1_putIfThere_1 : decode cX1_putIfThere 1 = .ok (.iconst (-1), 1) := by decide +kernel
theorem dX1_putIfThere_2 : decode cX1_putIfThere 2 = .ok (.if_icmp .eq 13, 3) := by decide +kernel
theorem dX1_putIfThere_5 : decode cX1_putIfThere 5 = .ok (.aload_n 0, 1) := by decide +kernel
theorem dX1_putIfThere_6 : decode cX1_putIfThere 6 = .ok (.iload_n 1, 1) := by decide +kernel
theorem dX1_putIfThere_7 : decode cX1_putIfThere 7 = .ok (.invokevirtual 24, 3) := by decide +kernel
theorem dX1_putIfThere_10 : decode cX1_putIfThere 10 = .ok (.aload_n 0, 1) := by decide +kernel
theorem dX1_putIfThere_11 : decode cX1_putIfThere 11 = .ok (.iload_n 2, 1) := by decide +kernel
theorem dX1_putIfThere_12 : decode cX1_putIfThere 12 = .ok (.invokevirtual 32, 3) := by decide +kernel
theorem dX1_putIfThere_15 : decode cX1_putIfThere 15 = .ok (.return_, 1) := by decide +kernel
theorem dX1_putNumber_0 : decode cX1_putNumber 0 = .ok (.iload_n 1, 1) := by decide +kernel
theorem dX1_putNumber_1 : decode cX1_putNumber 1 = .ok (.bipush 10, 2) := by decide +kernel
theorem dX1_putNumber_3 : decode cX1_putNumber 3 = .ok (.if_icmp .lt 15, 3) := by decide +kernel
theorem dX1_putNumber_6 : decode cX1_putNumber 6 = .ok (.aload_n 0, 1) := by decide +kernel
theorem dX1_putNumber_7 : decode cX1_putNumber 7 = .ok (.bipush 48, 2) := by decide +kernel
theorem dX1_putNumber_9 : decode cX1_putNumber 9 = .ok (.iload_n 1, 1) := by decide +kernel
theorem dX1_putNumber_10 : decode cX1_putNumber 10 = .ok (.bipush 10, 2) := by decide +kernel
theorem dX1_putNumber_12 : decode cX1_putNumber 12 = .ok (.idiv, 1) := by decide +kernel
theorem dX1_putNumber_13 : decode cX1_putNumber 13 = .ok (.iadd, 1) := by decide +kernel
theorem dX1_putNumber_14 : decode cX1_putNumber 14 = .ok (.i2c, 1) := by decide +kernel
theorem dX1_putNumber_15 : decode cX1_putNumber 15 = .ok (.invokevirtual 24, 3) := by decide +kernel
theorem dX1_putNumber_18 : decode cX1_putNumber 18 = .ok (.aload_n 0, 1) := by decide +kernel
theorem dX1_putNumber_19 : decode cX1_putNumber 19 = .ok (.bipush 48, 2) := by decide +kernel
theorem dX1_putNumber_21 : decode cX1_putNumber 21 = .ok (.iload_n 1, 1) := by decide +kernel
theorem dX1_putNumber_22 : decode cX1_putNumber 22 = .ok (.bipush 10, 2) := by decide +kernel
theorem dX1_putNumber_24 : decode cX1_putNumber 24 = .ok (.irem, 1) := by decide +kernel
theorem dX1_putNumber_25 : decode cX1_putNumber 25 = .ok (.iadd, 1) := by decide +kernel
theorem dX1_putNumber_26 : decode cX1_putNumber 26 = .ok (.i2c, 1) := by decide +kernel
theorem dX1_putNumber_27 : decode cX1_putNumber 27 = .ok (.invokevirtual 24, 3) := by decide +kernel
theorem dX1_putNumber_30 : decode cX1_putNumber 30 = .ok (.return_, 1) := by decide +kernel
theorem dX1_put_0 : decode cX1_put 0 = .ok (.aload_n 0, 1) := by decide +kernel
theorem dX1_put_1 : decode cX1_put 1 = .ok (.getfield 15, 3) := by decide +kernel
theorem dX1_put_4 : decode cX1_put 4 = .ok (.bipush 32, 2) := by decide +kernel
theorem dX1_put_6 : decode cX1_put 6 = .ok (.if_icmp .ge 23, 3) := by decide +kernel
theorem dX1_put_9 : decode cX1_put 9 = .ok (.aload_n 0, 1) := by decide +kernel
theorem dX1_put_10 : decode cX1_put 10 = .ok (.getfield 11, 3) := by decide +kernel
theorem dX1_put_13 : decode cX1_put 13 = .ok (.aload_n 0, 1) := by decide +kernel
theorem dX1_put_14 : decode cX1_put 14 = .ok (.getfield 15, 3) := by decide +kernel
theorem dX1_put_17 : decode cX1_put 17 = .ok (.iload_n 1, 1) := by decide +kernel
theorem dX1_put_18 : decode cX1_put 18 = .ok (.castore, 1) := by decide +kernel
theorem dX1_put_19 : decode cX1_put 19 = .ok (.aload_n 0, 1) := by decide +kernel
theorem dX1_put_20 : decode cX1_put 20 = .ok (.dup, 1) := by decide +kernel
theorem dX1_put_21 : decode cX1_put 21 = .ok (.getfield 15, 3) := by decide +kernel
theorem dX1_put_24 : decode cX1_put 24 = .ok (.iconst 1, 1) := by decide +kernel
theorem dX1_put_25 : decode cX1_put 25 = .ok (.iadd, 1) := by decide +kernel
theorem dX1_put_26 : decode cX1_put 26 = .ok (.putfield 15, 3) := by decide +kernel
theorem dX1_put_29 : decode cX1_put 29 = .ok (.return_, 1) := by decide +kernel
theorem dX2_init_0 : decode cX2_init 0 = .ok (.aload_n 0, 1) := by decide +kernel
theorem dX2_init_1 : decode cX2_init 1 = .ok (.invokespecial 3, 3) := by decide +kernel
theorem dX2_init_4 : decode cX2_init 4 = .ok (.aload_n 0, 1) := by decide +kernel
theorem dX2_init_5 : decode cX2_init 5 = .ok (.bipush 6, 2) := by decide +kernel
theorem dX2_init_7 : decode cX2_init 7 = .ok (.newarray .int, 2) := by decide +kernel
theorem dX2_init_9 : decode cX2_init 9 = .ok (.putfield 11, 3) := by decide +kernel
theorem dX2_init_12 : decode cX2_init 12 = .ok (.return_, 1) := by decide +kernel
theorem dX2_countByTrying_0 : decode cX2_countByTrying 0 = .ok (.iconst 0, 1) := by decide +kernel
theorem dX2_countByTrying_1 : decode cX2_countByTrying 1 = .ok (.istore_n 3, 1) := by decide +kernel
theorem dX2_countByTrying_2 : decode cX2_countByTrying 2 = .ok (.iconst 0, 1) := by decide +kernel
theorem dX2_countByTrying_3 : decode cX2_countByTrying 3 = .ok (.istore 4, 2) := by decide +kernel
theorem dX2_countByTrying_5 : decode cX2_countByTrying 5 = .ok (.iload 4, 2) := by decide +kernel
theorem dX2_countByTrying_7 : decode cX2_countByTrying 7 = .ok (.bipush 6, 2) := by decide +kernel
theorem dX2_countByTrying_9 : decode cX2_countByTrying 9 = .ok (.if_icmp .ge 64, 3) := by decide +kernel
theorem dX2_countByTrying_12 : decode cX2_countByTrying 12 = .ok (.iload 4, 2) := by decide +kernel
theorem dX2_countByTrying_14 : decode cX2_countByTrying 14 = .ok (.iconst 1, 1) := by decide +kernel
theorem dX2_countByTrying_15 : decode cX2_countByTrying 15 = .ok (.iadd, 1) := by decide +kernel
theorem dX2_countByTrying_16 : decode cX2_countByTrying 16 = .ok (.istore 5, 2) := by decide +kernel
theorem dX2_countByTrying_18 : decode cX2_countByTrying 18 = .ok (.iload 5, 2) := by decide +kernel
theorem dX2_countByTrying_20 : decode cX2_countByTrying 20 = .ok (.bipush 6, 2) := by decide +kernel
theorem dX2_countByTrying_22 : decode cX2_countByTrying 22 = .ok (.if_icmp .ge 45, 3) := by decide +kernel
theorem dX2_countByTrying_25 : decode cX2_countByTrying 25 = .ok (.iload 5, 2) := by decide +kernel
theorem dX2_countByTrying_27 : decode cX2_countByTrying 27 = .ok (.iconst 1, 1) := by decide +kernel
theorem dX2_countByTrying_28 : decode cX2_countByTrying 28 = .ok (.iadd, 1) := by decide +kernel
theorem dX2_countByTrying_29 : decode cX2_countByTrying 29 = .ok (.istore 6, 2) := by decide +kernel
theorem dX2_countByTrying_31 : decode cX2_countByTrying 31 = .ok (.iload 6, 2) := by decide +kernel
theorem dX2_countByTrying_33 : decode cX2_countByTrying 33 = .ok (.bipush 6, 2) := by decide +kernel
theorem dX2_countByTrying_35 : decode cX2_countByTrying 35 = .ok (.if_icmp .ge 26, 3) := by decide +kernel
theorem dX2_countByTrying_38 : decode cX2_countByTrying 38 = .ok (.aload_n 1, 1) := by decide +kernel
theorem dX2_countByTrying_39 : decode cX2_countByTrying 39 = .ok (.iload_n 2, 1) := by decide +kernel
theorem dX2_countByTrying_40 : decode cX2_countByTrying 40 = .ok (.iload 4, 2) := by decide +kernel
theorem dX2_countByTrying_42 : decode cX2_countByTrying 42 = .ok (.iload 5, 2) := by decide +kernel
theorem dX2_countByTrying_44 : decode cX2_countByTrying 44 = .ok (.iload 6, 2) := by decide +kernel
theorem dX2_countByTrying_46 : decode cX2_countByTrying 46 = .ok (.invokestatic 15, 3) := by decide +kernel
theorem dX2_countByTrying_49 : decode cX2_countByTrying 49 = .ok (.ifCond .eq 6, 3) := by decide +kernel
theorem dX2_countByTrying_52 : decode cX2_countByTrying 52 = .ok (.iinc 3 1, 3) := by decide +kernel
theorem dX2_countByTrying_55 : decode cX2_countByTrying 55 = .ok (.iinc 6 1, 3) := by decide +kernel
theorem dX2_countByTrying_58 : decode cX2_countByTrying 58 = .ok (.goto (-27), 3) := by decide +kernel
theorem dX2_countByTrying_61 : decode cX2_countByTrying 61 = .ok (.iinc 5 1, 3) := by decide +kernel
theorem dX2_countByTrying_64 : decode cX2_countByTrying 64 = .ok (.goto (-46), 3) := by decide +kernel
theorem dX2_countByTrying_67 : decode cX2_countByTrying 67 = .ok (.iinc 4 1, 3) := by decide +kernel
theorem dX2_countByTrying_70 : decode cX2_countByTrying 70 = .ok (.goto (-65), 3) := by decide +kernel
theorem dX2_countByTrying_73 : decode cX2_countByTrying 73 = .ok (.iload_n 3, 1) := by decide +kernel
theorem dX2_countByTrying_74 : decode cX2_countByTrying 74 = .ok (.ireturn, 1) := by decide +kernel
theorem dX2_countByFrames_0 : decode cX2_countByFrames 0 = .ok (.iconst 0, 1) := by decide +kernel
theorem dX2_countByFrames_1 : decode cX2_countByFrames 1 = .ok (.istore_n 3, 1) := by decide +kernel
theorem dX2_countByFrames_2 : decode cX2_countByFrames 2 = .ok (.iload_n 3, 1) := by decide +kernel
theorem dX2_countByFrames_3 : decode cX2_countByFrames 3 = .ok (.bipush 6, 2) := by decide +kernel
theorem dX2_countByFrames_5 : decode cX2_countByFrames 5 = .ok (.if_icmp .ge 25, 3) := by decide +kernel
theorem dX2_countByFrames_8 : decode cX2_countByFrames 8 = .ok (.aload_n 0, 1) := by decide +kernel
theorem dX2_countByFrames_9 : decode cX2_countByFrames 9 = .ok (.getfield 11, 3) := by decide +kernel
theorem dX2_countByFrames_12 : decode cX2_countByFrames 12 = .ok (.iload_n 3, 1) := by decide +kernel
theorem dX2_countByFrames_13 : decode cX2_countByFrames 13 = .ok (.aload_n 1, 1) := by decide +kernel
theorem dX2_countByFrames_14 : decode cX2_countByFrames 14 = .ok (.iload_n 2, 1) := by decide +kernel
theorem dX2_countByFrames_15 : decode cX2_countByFrames 15 = .ok (.bipush 97, 2) := by decide +kernel
theorem dX2_countByFrames_17 : decode cX2_countByFrames 17 = .ok (.iload_n 3, 1) := by decide +kernel
theorem dX2_countByFrames_18 : decode cX2_countByFrames 18 = .ok (.iadd, 1) := by decide +kernel
theorem dX2_countByFrames_19 : decode cX2_countByFrames 19 = .ok (.i2c, 1) := by decide +kernel
theorem dX2_countByFrames_20 : decode cX2_countByFrames 20 = .ok (.invokestatic 19, 3) := by decide +kernel
theorem dX2_countByFrames_23 : decode cX2_countByFrames 23 = .ok (.iastore, 1) := by decide +kernel
theorem dX2_countByFrames_24 : decode cX2_countByFrames 24 = .ok (.iinc 3 1, 3) := by decide +kernel
theorem dX2_countByFrames_27 : decode cX2_countByFrames 27 = .ok (.goto (-25), 3) := by decide +kernel
theorem dX2_countByFrames_30 : decode cX2_countByFrames 30 = .ok (.iconst 0, 1) := by decide +kernel
theorem dX2_countByFrames_31 : decode cX2_countByFrames 31 = .ok (.istore_n 3, 1) := by decide +kernel
theorem dX2_countByFrames_32 : decode cX2_countByFrames 32 = .ok (.iconst 0, 1) := by decide +kernel
theorem dX2_countByFrames_33 : decode cX2_countByFrames 33 = .ok (.istore 4, 2) := by decide +kernel
theorem dX2_countByFrames_35 : decode cX2_countByFrames 35 = .ok (.iload 4, 2) := by decide +kernel
theorem dX2_countByFrames_37 : decode cX2_countByFrames 37 = .ok (.bipush 6, 2) := by decide +kernel
theorem dX2_countByFrames_39 : decode cX2_countByFrames 39 = .ok (.if_icmp .ge 73, 3) := by decide +kernel
theorem dX2_countByFrames_42 : decode cX2_countByFrames 42 = .ok (.iload 4, 2) := by decide +kernel
theorem dX2_countByFrames_44 : decode cX2_countByFrames 44 = .ok (.iconst 1, 1) := by decide +kernel
theorem dX2_countByFrames_45 : decode cX2_countByFrames 45 = .ok (.iadd, 1) := by decide +kernel
theorem dX2_countByFrames_46 : decode cX2_countByFrames 46 = .ok (.istore 5, 2) := by decide +kernel
theorem dX2_countByFrames_48 : decode cX2_countByFrames 48 = .ok (.iload 5, 2) := by decide +kernel
theorem dX2_countByFrames_50 : decode cX2_countByFrames 50 = .ok (.bipush 6, 2) := by decide +kernel
theorem dX2_countByFrames_52 : decode cX2_countByFrames 52 = .ok (.if_icmp .ge 54, 3) := by decide +kernel
theorem dX2_countByFrames_55 : decode cX2_countByFrames 55 = .ok (.iload 5, 2) := by decide +kernel
theorem dX2_countByFrames_57 : decode cX2_countByFrames 57 = .ok (.iconst 1, 1) := by decide +kernel
theorem dX2_countByFrames_58 : decode cX2_countByFrames 58 = .ok (.iadd, 1) := by decide +kernel
theorem dX2_countByFrames_59 : decode cX2_countByFrames 59 = .ok (.istore 6, 2) := by decide +kernel
theorem dX2_countByFrames_61 : decode cX2_countByFrames 61 = .ok (.iload 6, 2) := by decide +kernel
theorem dX2_countByFrames_63 : decode cX2_countByFrames 63 = .ok (.bipush 6, 2) := by decide +kernel
theorem dX2_countByFrames_65 : decode cX2_countByFrames 65 = .ok (.if_icmp .ge 35, 3) := by decide +kernel
theorem dX2_countByFrames_68 : decode cX2_countByFrames 68 = .ok (.iload_n 3, 1) := by decide +kernel
theorem dX2_countByFrames_69 : decode cX2_countByFrames 69 = .ok (.aload_n 0, 1) := by decide +kernel
theorem dX2_countByFrames_70 : decode cX2_countByFrames 70 = .ok (.getfield 11, 3) := by decide +kernel
theorem dX2_countByFrames_73 : decode cX2_countByFrames 73 = .ok (.iload 4, 2) := by decide +kernel
theorem dX2_countByFrames_75 : decode cX2_countByFrames 75 = .ok (.iaload, 1) := by decide +kernel
theorem dX2_countByFrames_76 : decode cX2_countByFrames 76 = .ok (.aload_n 0, 1) := by decide +kernel
theorem dX2_countByFrames_77 : decode cX2_countByFrames 77 = .ok (.getfield 11, 3) := by decide +kernel
theorem dX2_countByFrames_80 : decode cX2_countByFrames 80 = .ok (.iload 5, 2) := by decide +kernel
theorem dX2_countByFrames_82 : decode cX2_countByFrames 82 = .ok (.iaload, 1) := by decide +kernel
theorem dX2_countByFrames_83 : decode cX2_countByFrames 83 = .ok (.imul, 1) := by decide +kernel
theorem dX2_countByFrames_84 : decode cX2_countByFrames 84 = .ok (.aload_n 0, 1) := by decide +kernel
theorem dX2_countByFrames_85 : decode cX2_countByFrames 85 = .ok (.getfield 11, 3) := by decide +kernel
theorem dX2_countByFrames_88 : decode cX2_countByFrames 88 = .ok (.iload 6, 2) := by decide +kernel
theorem dX2_countByFrames_90 : decode cX2_countByFrames 90 = .ok (.iaload, 1) := by decide +kernel
theorem dX2_countByFrames_91 : decode cX2_countByFrames 91 = .ok (.imul, 1) := by decide +kernel
theorem dX2_countByFrames_92 : decode cX2_countByFrames 92 = .ok (.iadd, 1) := by decide +kernel
theorem dX2_countByFrames_93 : decode cX2_countByFrames 93 = .ok (.istore_n 3, 1) := by decide +kernel
theorem dX2_countByFrames_94 : decode cX2_countByFrames 94 = .ok (.iinc 6 1, 3) := by decide +kernel
theorem dX2_countByFrames_97 : decode cX2_countByFrames 97 = .ok (.goto (-36), 3) := by decide +kernel
theorem dX2_countByFrames_100 : decode cX2_countByFrames 100 = .ok (.iinc 5 1, 3) := by decide +kernel
theorem dX2_countByFrames_103 : decode cX2_countByFrames 103 = .ok (.goto (-55), 3) := by decide +kernel
theorem dX2_countByFrames_106 : decode cX2_countByFrames 106 = .ok (.iinc 4 1, 3) := by decide +kernel
theorem dX2_countByFrames_109 : decode cX2_countByFrames 109 = .ok (.goto (-74), 3) := by decide +kernel
theorem dX2_countByFrames_112 : decode cX2_countByFrames 112 = .ok (.iload_n 3, 1) := by decide +kernel
theorem dX2_countByFrames_113 : decode cX2_countByFrames 113 = .ok (.ireturn, 1) := by decide +kernel
theorem dX2_firstFor_0 : decode cX2_firstFor 0 = .ok (.iconst 0, 1) := by decide +kernel
theorem dX2_firstFor_1 : decode cX2_firstFor 1 = .ok (.istore_n 3, 1) := by decide +kernel
theorem dX2_firstFor_2 : decode cX2_firstFor 2 = .ok (.iload_n 3, 1) := by decide +kernel
theorem dX2_firstFor_3 : decode cX2_firstFor 3 = .ok (.bipush 6, 2) := by decide +kernel
theorem dX2_firstFor_5 : decode cX2_firstFor 5 = .ok (.if_icmp .ge 73, 3) := by decide +kernel
theorem dX2_firstFor_8 : decode cX2_firstFor 8 = .ok (.iload_n 3, 1) := by decide +kernel
theorem dX2_firstFor_9 : decode cX2_firstFor 9 = .ok (.iconst 1, 1) := by decide +kernel
theorem dX2_firstFor_10 : decode cX2_firstFor 10 = .ok (.iadd, 1) := by decide +kernel
theorem dX2_firstFor_11 : decode cX2_firstFor 11 = .ok (.istore 4, 2) := by decide +kernel
theorem dX2_firstFor_13 : decode cX2_firstFor 13 = .ok (.iload 4, 2) := by decide +kernel
theorem dX2_firstFor_15 : decode cX2_firstFor 15 = .ok (.bipush 6, 2) := by decide +kernel
theorem dX2_firstFor_17 : decode cX2_firstFor 17 = .ok (.if_icmp .ge 55, 3) := by decide +kernel
theorem dX2_firstFor_20 : decode cX2_firstFor 20 = .ok (.iload 4, 2) := by decide +kernel
theorem dX2_firstFor_22 : decode cX2_firstFor 22 = .ok (.iconst 1, 1) := by decide +kernel
theorem dX2_firstFor_23 : decode cX2_firstFor 23 = .ok (.iadd, 1) := by decide +kernel
theorem dX2_firstFor_24 : decode cX2_firstFor 24 = .ok (.istore 5, 2) := by decide +kernel
theorem dX2_firstFor_26 : decode cX2_firstFor 26 = .ok (.iload 5, 2) := by decide +kernel
theorem dX2_firstFor_28 : decode cX2_firstFor 28 = .ok (.bipush 6, 2) := by decide +kernel
theorem dX2_firstFor_30 : decode cX2_firstFor 30 = .ok (.if_icmp .ge 36, 3) := by decide +kernel
theorem dX2_firstFor_33 : decode cX2_firstFor 33 = .ok (.aload_n 1, 1) := by decide +kernel
theorem dX2_firstFor_34 : decode cX2_firstFor 34 = .ok (.iload_n 2, 1) := by decide +kernel
theorem dX2_firstFor_35 : decode cX2_firstFor 35 = .ok (.iload_n 3, 1) := by decide +kernel
theorem dX2_firstFor_36 : decode cX2_firstFor 36 = .ok (.iload 4, 2) := by decide +kernel
theorem dX2_firstFor_38 : decode cX2_firstFor 38 = .ok (.iload 5, 2) := by decide +kernel
theorem dX2_firstFor_40 : decode cX2_firstFor 40 = .ok (.invokestatic 15, 3) := by decide +kernel
theorem dX2_firstFor_43 : decode cX2_firstFor 43 = .ok (.ifCond .eq 17, 3) := by decide +kernel
theorem dX2_firstFor_46 : decode cX2_firstFor 46 = .ok (.iconst 1, 1) := by decide +kernel
theorem dX2_firstFor_47 : decode cX2_firstFor 47 = .ok (.iload_n 3, 1) := by decide +kernel
theorem dX2_firstFor_48 : decode cX2_firstFor 48 = .ok (.ishl, 1) := by decide +kernel
theorem dX2_firstFor_49 : decode cX2_firstFor 49 = .ok (.iconst 1, 1) := by decide +kernel
theorem dX2_firstFor_50 : decode cX2_firstFor 50 = .ok (.iload 4, 2) := by decide +kernel
theorem dX2_firstFor_52 : decode cX2_firstFor 52 = .ok (.ishl, 1) := by decide +kernel
theorem dX2_firstFor_53 : decode cX2_firstFor 53 = .ok (.ior, 1) := by decide +kernel
theorem dX2_firstFor_54 : decode cX2_firstFor 54 = .ok (.iconst 1, 1) := by decide +kernel
theorem dX2_firstFor_55 : decode cX2_firstFor 55 = .ok (.iload 5, 2) := by decide +kernel
theorem dX2_firstFor_57 : decode cX2_firstFor 57 = .ok (.ishl, 1) := by decide +kernel
theorem dX2_firstFor_58 : decode cX2_firstFor 58 = .ok (.ior, 1) := by decide +kernel
theorem dX2_firstFor_59 : decode cX2_firstFor 59 = .ok (.ireturn, 1) := by decide +kernel
theorem dX2_firstFor_60 : decode cX2_firstFor 60 = .ok (.iinc 5 1, 3) := by decide +kernel
theorem dX2_firstFor_63 : decode cX2_firstFor 63 = .ok (.goto (-37), 3) := by decide +kernel
theorem dX2_firstFor_66 : decode cX2_firstFor 66 = .ok (.iinc 4 1, 3) := by decide +kernel
theorem dX2_firstFor_69 : decode cX2_firstFor 69 = .ok (.goto (-56), 3) := by decide +kernel
theorem dX2_firstFor_72 : decode cX2_firstFor 72 = .ok (.iinc 3 1, 3) := by decide +kernel
theorem dX2_firstFor_75 : decode cX2_firstFor 75 = .ok (.goto (-73), 3) := by decide +kernel
theorem dX2_firstFor_78 : decode cX2_firstFor 78 = .ok (.iconst 0, 1) := by decide +kernel
theorem dX2_firstFor_79 : decode cX2_firstFor 79 = .ok (.ireturn, 1) := by decide +kernel
theorem dX2_tryAppeal_0 : decode cX2_tryAppeal 0 = .ok (.aload_n 1, 1) := by decide +kernel
theorem dX2_tryAppeal_1 : decode cX2_tryAppeal 1 = .ok (.iload_n 2, 1) := by decide +kernel
theorem dX2_tryAppeal_2 : decode cX2_tryAppeal 2 = .ok (.invokevirtual 23, 3) := by decide +kernel
theorem dX2_tryAppeal_5 : decode cX2_tryAppeal 5 = .ok (.ifCond .ne 5, 3) := by decide +kernel
theorem dX2_tryAppeal_8 : decode cX2_tryAppeal 8 = .ok (.iconst (-1), 1) := by decide +kernel
theorem dX2_tryAppeal_9 : decode cX2_tryAppeal 9 = .ok (.ireturn, 1) := by decide +kernel
theorem dX2_tryAppeal_10 : decode cX2_tryAppeal 10 = .ok (.aload_n 1, 1) := by decide +kernel
theorem dX2_tryAppeal_11 : decode cX2_tryAppeal 11 = .ok (.iload_n 2, 1) := by decide +kernel
theorem dX2_tryAppeal_12 : decode cX2_tryAppeal 12 = .ok (.invokevirtual 29, 3) := by decide +kernel
theorem dX2_tryAppeal_15 : decode cX2_tryAppeal 15 = .ok (.istore_n 3, 1) := by decide +kernel
theorem dX2_tryAppeal_16 : decode cX2_tryAppeal 16 = .ok (.iload_n 3, 1) := by decide +kernel
theorem dX2_tryAppeal_17 : decode cX2_tryAppeal 17 = .ok (.iconst (-1), 1) := by decide +kernel
theorem dX2_tryAppeal_18 : decode cX2_tryAppeal 18 = .ok (.if_icmp .eq 22, 3) := by decide +kernel
theorem dX2_tryAppeal_21 : decode cX2_tryAppeal 21 = .ok (.iload_n 3, 1) := by decide +kernel
theorem dX2_tryAppeal_22 : decode cX2_tryAppeal 22 = .ok (.aload_n 1, 1) := by decide +kernel
theorem dX2_tryAppeal_23 : decode cX2_tryAppeal 23 = .ok (.getfield 33, 3) := by decide +kernel
theorem dX2_tryAppeal_26 : decode cX2_tryAppeal 26 = .ok (.if_icmp .ge 14, 3) := by decide +kernel
theorem dX2_tryAppeal_29 : decode cX2_tryAppeal 29 = .ok (.aload_n 1, 1) := by decide +kernel
theorem dX2_tryAppeal_30 : decode cX2_tryAppeal 30 = .ok (.getfield 37, 3) := by decide +kernel
theorem dX2_tryAppeal_33 : decode cX2_tryAppeal 33 = .ok (.iload_n 2, 1) := by decide +kernel
theorem dX2_tryAppeal_34 : decode cX2_tryAppeal 34 = .ok (.invokestatic 40, 3) := by decide +kernel
theorem dX2_tryAppeal_37 : decode cX2_tryAppeal 37 = .ok (.ifCond .eq 6, 3) := by decide +kernel
theorem dX2_tryAppeal_40 : decode cX2_tryAppeal 40 = .ok (.bipush (-3), 2) := by decide +kernel
theorem dX2_tryAppeal_42 : decode cX2_tryAppeal 42 = .ok (.ireturn, 1) := by decide +kernel
theorem dX2_tryAppeal_43 : decode cX2_tryAppeal 43 = .ok (.aload_n 0, 1) := by decide +kernel
theorem dX2_tryAppeal_44 : decode cX2_tryAppeal 44 = .ok (.aload_n 1, 1) := by decide +kernel
theorem dX2_tryAppeal_45 : decode cX2_tryAppeal 45 = .ok (.iload_n 2, 1) := by decide +kernel
theorem dX2_tryAppeal_46 : decode cX2_tryAppeal 46 = .ok (.invokevirtual 44, 3) := by decide +kernel
theorem dX2_tryAppeal_49 : decode cX2_tryAppeal 49 = .ok (.istore 4, 2) := by decide +kernel
theorem dX2_tryAppeal_51 : decode cX2_tryAppeal 51 = .ok (.iload 4, 2) := by decide +kernel
theorem dX2_tryAppeal_53 : decode cX2_tryAppeal 53 = .ok (.ifCond .ne 6, 3) := by decide +kernel
theorem dX2_tryAppeal_56 : decode cX2_tryAppeal 56 = .ok (.bipush (-4), 2) := by decide +kernel
theorem dX2_tryAppeal_58 : decode cX2_tryAppeal 58 = .ok (.ireturn, 1) := by decide +kernel
theorem dX2_tryAppeal_59 : decode cX2_tryAppeal 59 = .ok (.aload_n 1, 1) := by decide +kernel
theorem dX2_tryAppeal_60 : decode cX2_tryAppeal 60 = .ok (.iload 4, 2) := by decide +kernel
theorem dX2_tryAppeal_62 : decode cX2_tryAppeal 62 = .ok (.aload_n 1, 1) := by decide +kernel
theorem dX2_tryAppeal_63 : decode cX2_tryAppeal 63 = .ok (.getfield 33, 3) := by decide +kernel
theorem dX2_tryAppeal_66 : decode cX2_tryAppeal 66 = .ok (.iload_n 3, 1) := by decide +kernel
theorem dX2_tryAppeal_67 : decode cX2_tryAppeal 67 = .ok (.isub, 1) := by decide +kernel
theorem dX2_tryAppeal_68 : decode cX2_tryAppeal 68 = .ok (.invokestatic 48, 3) := by decide +kernel
theorem dX2_tryAppeal_71 : decode cX2_tryAppeal 71 = .ok (.istore 5, 2) := by decide +kernel
theorem dX2_tryAppeal_73 : decode cX2_tryAppeal 73 = .ok (.aload_n 1, 1) := by decide +kernel
theorem dX2_tryAppeal_74 : decode cX2_tryAppeal 74 = .ok (.dup, 1) := by decide +kernel
theorem dX2_tryAppeal_75 : decode cX2_tryAppeal 75 = .ok (.getfield 37, 3) := by decide +kernel
theorem dX2_tryAppeal_78 : decode cX2_tryAppeal 78 = .ok (.iconst 1, 1) := by decide +kernel
theorem dX2_tryAppeal_79 : decode cX2_tryAppeal 79 = .ok (.iload_n 2, 1) := by decide +kernel
theorem dX2_tryAppeal_80 : decode cX2_tryAppeal 80 = .ok (.ishl, 1) := by decide +kernel
theorem dX2_tryAppeal_81 : decode cX2_tryAppeal 81 = .ok (.ior, 1) := by decide +kernel
theorem dX2_tryAppeal_82 : decode cX2_tryAppeal 82 = .ok (.putfield 37, 3) := by decide +kernel
theorem dX2_tryAppeal_85 : decode cX2_tryAppeal 85 = .ok (.iload 5, 2) := by decide +kernel
theorem dX2_tryAppeal_87 : decode cX2_tryAppeal 87 = .ok (.iconst 2, 1) := by decide +kernel
theorem dX2_tryAppeal_88 : decode cX2_tryAppeal 88 = .ok (.if_icmp .lt 15, 3) := by decide +kernel
theorem dX2_tryAppeal_91 : decode cX2_tryAppeal 91 = .ok (.aload_n 1, 1) := by decide +kernel
theorem dX2_tryAppeal_92 : decode cX2_tryAppeal 92 = .ok (.dup, 1) := by decide +kernel
theorem dX2_tryAppeal_93 : decode cX2_tryAppeal 93 = .ok (.getfield 52, 3) := by decide +kernel
theorem dX2_tryAppeal_96 : decode cX2_tryAppeal 96 = .ok (.iconst 1, 1) := by decide +kernel
theorem dX2_tryAppeal_97 : decode cX2_tryAppeal 97 = .ok (.iload_n 2, 1) := by decide +kernel
theorem dX2_tryAppeal_98 : decode cX2_tryAppeal 98 = .ok (.ishl, 1) := by decide +kernel
theorem dX2_tryAppeal_99 : decode cX2_tryAppeal 99 = .ok (.ior, 1) := by decide +kernel
theorem dX2_tryAppeal_100 : decode cX2_tryAppeal 100 = .ok (.putfield 52, 3) := by decide +kernel
theorem dX2_tryAppeal_103 : decode cX2_tryAppeal 103 = .ok (.iload 5, 2) := by decide +kernel
theorem dX2_tryAppeal_105 : decode cX2_tryAppeal 105 = .ok (.ireturn, 1) := by decide +kernel
theorem dX2_votes_0 : decode cX2_votes 0 = .ok (.iconst 0, 1) := by decide +kernel
theorem dX2_votes_1 : decode cX2_votes 1 = .ok (.istore_n 3, 1) := by decide +kernel
theorem dX2_votes_2 : decode cX2_votes 2 = .ok (.iconst 0, 1) := by decide +kernel
theorem dX2_votes_3 : decode cX2_votes 3 = .ok (.istore 4, 2) := by decide +kernel
theorem dX2_votes_5 : decode cX2_votes 5 = .ok (.iload 4, 2) := by decide +kernel
theorem dX2_votes_7 : decode cX2_votes 7 = .ok (.aload_n 0, 1) := by decide +kernel
theorem dX2_votes_8 : decode cX2_votes 8 = .ok (.getfield 55, 3) := by decide +kernel
theorem dX2_votes_11 : decode cX2_votes 11 = .ok (.if_icmp .ge 32, 3) := by decide +kernel
theorem dX2_votes_14 : decode cX2_votes 14 = .ok (.iload_n 1, 1) := by decide +kernel
theorem dX2_votes_15 : decode cX2_votes 15 = .ok (.iload 4, 2) := by decide +kernel
theorem dX2_votes_17 : decode cX2_votes 17 = .ok (.invokestatic 40, 3) := by decide +kernel
theorem dX2_votes_20 : decode cX2_votes 20 = .ok (.ifCond .eq 17, 3) := by decide +kernel
theorem dX2_votes_23 : decode cX2_votes 23 = .ok (.aload_n 0, 1) := by decide +kernel
theorem dX2_votes_24 : decode cX2_votes 24 = .ok (.getfield 58, 3) := by decide +kernel
theorem dX2_votes_27 : decode cX2_votes 27 = .ok (.iload 4, 2) := by decide +kernel
theorem dX2_votes_29 : decode cX2_votes 29 = .ok (.iaload, 1) := by decide +kernel
theorem dX2_votes_30 : decode cX2_votes 30 = .ok (.iload_n 2, 1) := by decide +kernel
theorem dX2_votes_31 : decode cX2_votes 31 = .ok (.if_icmp .lt 6, 3) := by decide +kernel
theorem dX2_votes_34 : decode cX2_votes 34 = .ok (.iinc 3 1, 3) := by decide +kernel
theorem dX2_votes_37 : decode cX2_votes 37 = .ok (.iinc 4 1, 3) := by decide +kernel
theorem dX2_votes_40 : decode cX2_votes 40 = .ok (.goto (-35), 3) := by decide +kernel
theorem dX2_votes_43 : decode cX2_votes 43 = .ok (.iload_n 3, 1) := by decide +kernel
theorem dX2_votes_44 : decode cX2_votes 44 = .ok (.ireturn, 1) := by decide +kernel
theorem dX2_isPanel_0 : decode cX2_isPanel 0 = .ok (.aload_n 0, 1) := by decide +kernel
theorem dX2_isPanel_1 : decode cX2_isPanel 1 = .ok (.iload_n 1, 1) := by decide +kernel
theorem dX2_isPanel_2 : decode cX2_isPanel 2 = .ok (.iload_n 2, 1) := by decide +kernel
theorem dX2_isPanel_3 : decode cX2_isPanel 3 = .ok (.invokestatic 61, 3) := by decide +kernel
theorem dX2_isPanel_6 : decode cX2_isPanel 6 = .ok (.ifCond .eq 73, 3) := by decide +kernel
theorem dX2_isPanel_9 : decode cX2_isPanel 9 = .ok (.aload_n 0, 1) := by decide +kernel
theorem dX2_isPanel_10 : decode cX2_isPanel 10 = .ok (.iload_n 1, 1) := by decide +kernel
theorem dX2_isPanel_11 : decode cX2_isPanel 11 = .ok (.iload_n 3, 1) := by decide +kernel
theorem dX2_isPanel_12 : decode cX2_isPanel 12 = .ok (.invokestatic 61, 3) := by decide +kernel
theorem dX2_isPanel_15 : decode cX2_isPanel 15 = .ok (.ifCond .eq 64, 3) := by decide +kernel
theorem dX2_isPanel_18 : decode cX2_isPanel 18 = .ok (.aload_n 0, 1) := by decide +kernel
theorem dX2_isPanel_19 : decode cX2_isPanel 19 = .ok (.iload_n 1, 1) := by decide +kernel
theorem dX2_isPanel_20 : decode cX2_isPanel 20 = .ok (.iload 4, 2) := by decide +kernel
theorem dX2_isPanel_22 : decode cX2_isPanel 22 = .ok (.invokestatic 61, 3) := by decide +kernel
theorem dX2_isPanel_25 : decode cX2_isPanel 25 = .ok (.ifCond .eq 54, 3) := by decide +kernel
theorem dX2_isPanel_28 : decode cX2_isPanel 28 = .ok (.aload_n 0, 1) := by decide +kernel
theorem dX2_isPanel_29 : decode cX2_isPanel 29 = .ok (.getfield 65, 3) := by decide +kernel
theorem dX2_isPanel_32 : decode cX2_isPanel 32 = .ok (.iload_n 2, 1) := by decide +kernel
theorem dX2_isPanel_33 : decode cX2_isPanel 33 = .ok (.caload, 1) := by decide +kernel
theorem dX2_isPanel_34 : decode cX2_isPanel 34 = .ok (.aload_n 0, 1) := by decide +kernel
theorem dX2_isPanel_35 : decode cX2_isPanel 35 = .ok (.getfield 65, 3) := by decide +kernel
theorem dX2_isPanel_38 : decode cX2_isPanel 38 = .ok (.iload_n 3, 1) := by decide +kernel
theorem dX2_isPanel_39 : decode cX2_isPanel 39 = .ok (.caload, 1) := by decide +kernel
theorem dX2_isPanel_40 : decode cX2_isPanel 40 = .ok (.if_icmp .eq 39, 3) := by decide +kernel
theorem dX2_isPanel_43 : decode cX2_isPanel 43 = .ok (.aload_n 0, 1) := by decide +kernel
theorem dX2_isPanel_44 : decode cX2_isPanel 44 = .ok (.getfield 65, 3) := by decide +kernel
theorem dX2_isPanel_47 : decode cX2_isPanel 47 = .ok (.iload_n 2, 1) := by decide +kernel
theorem dX2_isPanel_48 : decode cX2_isPanel 48 = .ok (.caload, 1) := by decide +kernel
theorem dX2_isPanel_49 : decode cX2_isPanel 49 = .ok (.aload_n 0, 1) := by decide +kernel
theorem dX2_isPanel_50 : decode cX2_isPanel 50 = .ok (.getfield 65, 3) := by decide +kernel
theorem dX2_isPanel_53 : decode cX2_isPanel 53 = .ok (.iload 4, 2) := by decide +kernel
theorem dX2_isPanel_55 : decode cX2_isPanel 55 = .ok (.caload, 1) := by decide +kernel
theorem dX2_isPanel_56 : decode cX2_isPanel 56 = .ok (.if_icmp .eq 23, 3) := by decide +kernel
theorem dX2_isPanel_59 : decode cX2_isPanel 59 = .ok (.aload_n 0, 1) := by decide +kernel
theorem dX2_isPanel_60 : decode cX2_isPanel 60 = .ok (.getfield 65, 3) := by decide +kernel
theorem dX2_isPanel_63 : decode cX2_isPanel 63 = .ok (.iload_n 3, 1) := by decide +kernel
theorem dX2_isPanel_64 : decode cX2_isPanel 64 = .ok (.caload, 1) := by decide +kernel
theorem dX2_isPanel_65 : decode cX2_isPanel 65 = .ok (.aload_n 0, 1) := by decide +kernel
theorem dX2_isPanel_66 : decode cX2_isPanel 66 = .ok (.getfield 65, 3) := by decide +kernel
theorem dX2_isPanel_69 : decode cX2_isPanel 69 = .ok (.iload 4, 2) := by decide +kernel
theorem dX2_isPanel_71 : decode cX2_isPanel 71 = .ok (.caload, 1) := by decide +kernel
theorem dX2_isPanel_72 : decode cX2_isPanel 72 = .ok (.if_icmp .eq 7, 3) := by decide +kernel
theorem dX2_isPanel_75 : decode cX2_isPanel 75 = .ok (.iconst 1, 1) := by decide +kernel
theorem dX2_isPanel_76 : decode cX2_isPanel 76 = .ok (.goto 4, 3) := by decide +kernel
theorem dX2_isPanel_79 : decode cX2_isPanel 79 = .ok (.iconst 0, 1) := by decide +kernel
theorem dX2_isPanel_80 : decode cX2_isPanel 80 = .ok (.ireturn, 1) := by decide +kernel
theorem dX2_suits_0 : decode cX2_suits 0 = .ok (.aload_n 0, 1) := by decide +kernel
theorem dX2_suits_1 : decode cX2_suits 1 = .ok (.iload_n 2, 1) := by decide +kernel
theorem dX2_suits_2 : decode cX2_suits 2 = .ok (.invokevirtual 69, 3) := by decide +kernel
theorem dX2_suits_5 : decode cX2_suits 5 = .ok (.ifCond .eq 25, 3) := by decide +kernel
theorem dX2_suits_8 : decode cX2_suits 8 = .ok (.aload_n 0, 1) := by decide +kernel
theorem dX2_suits_9 : decode cX2_suits 9 = .ok (.iload_n 2, 1) := by decide +kernel
theorem dX2_suits_10 : decode cX2_suits 10 = .ok (.iload_n 1, 1) := by decide +kernel
theorem dX2_suits_11 : decode cX2_suits 11 = .ok (.invokevirtual 72, 3) := by decide +kernel
theorem dX2_suits_14 : decode cX2_suits 14 = .ok (.ifCond .eq 16, 3) := by decide +kernel
theorem dX2_suits_17 : decode cX2_suits 17 = .ok (.aload_n 0, 1) := by decide +kernel
theorem dX2_suits_18 : decode cX2_suits 18 = .ok (.iload_n 2, 1) := by decide +kernel
theorem dX2_suits_19 : decode cX2_suits 19 = .ok (.iload_n 1, 1) := by decide +kernel
theorem dX2_suits_20 : decode cX2_suits 20 = .ok (.invokevirtual 75, 3) := by decide +kernel
theorem dX2_suits_23 : decode cX2_suits 23 = .ok (.ifCond .ne 7, 3) := by decide +kernel
theorem dX2_suits_26 : decode cX2_suits 26 = .ok (.iconst 1, 1) := by decide +kernel
theorem dX2_suits_27 : decode cX2_suits 27 = .ok (.goto 4, 3) := by decide +kernel
theorem dX2_suits_30 : decode cX2_suits 30 = .ok (.iconst 0, 1) := by decide +kernel
theorem dX2_suits_31 : decode cX2_suits 31 = .ok (.ireturn, 1) := by decide +kernel
theorem dX2_suitableWithFrame_0 : decode cX2_suitableWithFrame 0 = .ok (.iconst 0, 1) := by decide +kernel
theorem dX2_suitableWithFrame_1 : decode cX2_suitableWithFrame 1 = .ok (.istore_n 3, 1) := by decide +kernel
theorem dX2_suitableWithFrame_2 : decode cX2_suitableWithFrame 2 = .ok (.iconst 0, 1) := by decide +kernel
theorem dX2_suitableWithFrame_3 : decode cX2_suitableWithFrame 3 = .ok (.istore 4, 2) := by decide +kernel
theorem dX2_suitableWithFrame_5 : decode cX2_suitableWithFrame 5 = .ok (.iload 4, 2) := by decide +kernel
theorem dX2_suitableWithFrame_7 : decode cX2_suitableWithFrame 7 = .ok (.aload_n 0, 1) := by decide +kernel
theorem dX2_suitableWithFrame_8 : decode cX2_suitableWithFrame 8 = .ok (.getfield 55, 3) := by decide +kernel
theorem dX2_suitableWithFrame_11 : decode cX2_suitableWithFrame 11 = .ok (.if_icmp .ge 33, 3) := by decide +kernel
theorem dX2_suitableWithFrame_14 : decode cX2_suitableWithFrame 14 = .ok (.aload_n 0, 1) := by decide +kernel
theorem dX2_suitableWithFrame_15 : decode cX2_suitableWithFrame 15 = .ok (.getfield 65, 3) := by decide +kernel
theorem dX2_suitableWithFrame_18 : decode cX2_suitableWithFrame 18 = .ok (.iload 4, 2) := by decide +kernel
theorem dX2_suitableWithFrame_20 : decode cX2_suitableWithFrame 20 = .ok (.caload, 1) := by decide +kernel
theorem dX2_suitableWithFrame_21 : decode cX2_suitableWithFrame 21 = .ok (.iload_n 2, 1) := by decide +kernel
theorem dX2_suitableWithFrame_22 : decode cX2_suitableWithFrame 22 = .ok (.if_icmp .ne 16, 3) := by decide +kernel
theorem dX2_suitableWithFrame_25 : decode cX2_suitableWithFrame 25 = .ok (.aload_n 0, 1) := by decide +kernel
theorem dX2_suitableWithFrame_26 : decode cX2_suitableWithFrame 26 = .ok (.iload_n 1, 1) := by decide +kernel
theorem dX2_suitableWithFrame_27 : decode cX2_suitableWithFrame 27 = .ok (.iload 4, 2) := by decide +kernel
theorem dX2_suitableWithFrame_29 : decode cX2_suitableWithFrame 29 = .ok (.invokestatic 61, 3) := by decide +kernel
theorem dX2_suitableWithFrame_32 : decode cX2_suitableWithFrame 32 = .ok (.ifCond .eq 6, 3) := by decide +kernel
theorem dX2_suitableWithFrame_35 : decode cX2_suitableWithFrame 35 = .ok (.iinc 3 1, 3) := by decide +kernel
theorem dX2_suitableWithFrame_38 : decode cX2_suitableWithFrame 38 = .ok (.iinc 4 1, 3) := by decide +kernel
theorem dX2_suitableWithFrame_41 : decode cX2_suitableWithFrame 41 = .ok (.goto (-36), 3) := by decide +kernel
theorem dX2_suitableWithFrame_44 : decode cX2_suitableWithFrame 44 = .ok (.iload_n 3, 1) := by decide +kernel
theorem dX2_suitableWithFrame_45 : decode cX2_suitableWithFrame 45 = .ok (.ireturn, 1) := by decide +kernel
theorem dX3_init_0 : decode cX3_init 0 = .ok (.aload_n 0, 1) := by decide +kernel
theorem dX3_init_1 : decode cX3_init 1 = .ok (.invokespecial 3, 3) := by decide +kernel
theorem dX3_init_4 : decode cX3_init 4 = .ok (.aload_n 0, 1) := by decide +kernel
theorem dX3_init_5 : decode cX3_init 5 = .ok (.iconst 0, 1) := by decide +kernel
theorem dX3_init_6 : decode cX3_init 6 = .ok (.putfield 9, 3) := by decide +kernel
theorem dX3_init_9 : decode cX3_init 9 = .ok (.aload_n 0, 1) := by decide +kernel
theorem dX3_init_10 : decode cX3_init 10 = .ok (.bipush 8, 2) := by decide +kernel
theorem dX3_init_12 : decode cX3_init 12 = .ok (.newarray .int, 2) := by decide +kernel
theorem dX3_init_14 : decode cX3_init 14 = .ok (.putfield 15, 3) := by decide +kernel
theorem dX3_init_17 : decode cX3_init 17 = .ok (.aload_n 0, 1) := by decide +kernel
theorem dX3_init_18 : decode cX3_init 18 = .ok (.bipush 6, 2) := by decide +kernel
theorem dX3_init_20 : decode cX3_init 20 = .ok (.newarray .int, 2) := by decide +kernel
theorem dX3_init_22 : decode cX3_init 22 = .ok (.putfield 19, 3) := by decide +kernel
theorem dX3_init_25 : decode cX3_init 25 = .ok (.aload_n 0, 1) := by decide +kernel
theorem dX3_init_26 : decode cX3_init 26 = .ok (.bipush 8, 2) := by decide +kernel
theorem dX3_init_28 : decode cX3_init 28 = .ok (.newarray .int, 2) := by decide +kernel
theorem dX3_init_30 : decode cX3_init 30 = .ok (.putfield 22, 3) := by decide +kernel
theorem dX3_init_33 : decode cX3_init 33 = .ok (.aload_n 0, 1) := by decide +kernel
theorem dX3_init_34 : decode cX3_init 34 = .ok (.bipush 8, 2) := by decide +kernel
theorem dX3_init_36 : decode cX3_init 36 = .ok (.newarray .int, 2) := by decide +kernel
theorem dX3_init_38 : decode cX3_init 38 = .ok (.putfield 25, 3) := by decide +kernel
theorem dX3_init_41 : decode cX3_init 41 = .ok (.aload_n 0, 1) := by decide +kernel
theorem dX3_init_42 : decode cX3_init 42 = .ok (.bipush 6, 2) := by decide +kernel
theorem dX3_init_44 : decode cX3_init 44 = .ok (.newarray .int, 2) := by decide +kernel
theorem dX3_init_46 : decode cX3_init 46 = .ok (.putfield 28, 3) := by decide +kernel
theorem dX3_init_49 : decode cX3_init 49 = .ok (.aload_n 0, 1) := by decide +kernel
theorem dX3_init_50 : decode cX3_init 50 = .ok (.bipush 6, 2) := by decide +kernel
theorem dX3_init_52 : decode cX3_init 52 = .ok (.newarray .int, 2) := by decide +kernel
theorem dX3_init_54 : decode cX3_init 54 = .ok (.putfield 31, 3) := by decide +kernel
theorem dX3_init_57 : decode cX3_init 57 = .ok (.aload_n 0, 1) := by decide +kernel
theorem dX3_init_58 : decode cX3_init 58 = .ok (.bipush 8, 2) := by decide +kernel
theorem dX3_init_60 : decode cX3_init 60 = .ok (.newarray .int, 2) := by decide +kernel
theorem dX3_init_62 : decode cX3_init 62 = .ok (.putfield 34, 3) := by decide +kernel
theorem dX3_init_65 : decode cX3_init 65 = .ok (.aload_n 0, 1) := by decide +kernel
theorem dX3_init_66 : decode cX3_init 66 = .ok (.sipush 256, 3) := by decide +kernel
theorem dX3_init_69 : decode cX3_init 69 = .ok (.newarray .boolean, 2) := by decide +kernel
theorem dX3_init_71 : decode cX3_init 71 = .ok (.putfield 37, 3) := by decide +kernel
theorem dX3_init_74 : decode cX3_init 74 = .ok (.return_, 1) := by decide +kernel
theorem dX3_sizeByExchanges_0 : decode cX3_sizeByExchanges 0 = .ok (.aload_n 0, 1) := by decide +kernel
theorem dX3_sizeByExchanges_1 : decode cX3_sizeByExchanges 1 = .ok (.aload_n 1, 1) := by decide +kernel
theorem dX3_sizeByExchanges_2 : decode cX3_sizeByExchanges 2 = .ok (.invokevirtual 41, 3) := by decide +kernel
theorem dX3_sizeByExchanges_5 : decode cX3_sizeByExchanges 5 = .ok (.aload_n 0, 1) := by decide +kernel
theorem dX3_sizeByExchanges_6 : decode cX3_sizeByExchanges 6 = .ok (.iconst 0, 1) := by decide +kernel
theorem dX3_sizeByExchanges_7 : decode cX3_sizeByExchanges 7 = .ok (.invokevirtual 45, 3) := by decide +kernel
theorem dX3_sizeByExchanges_10 : decode cX3_sizeByExchanges 10 = .ok (.ireturn, 1) := by decide +kernel
theorem dX3_sizeBySets_0 : decode cX3_sizeBySets 0 = .ok (.aload_n 0, 1) := by decide +kernel
theorem dX3_sizeBySets_1 : decode cX3_sizeBySets 1 = .ok (.aload_n 1, 1) := by decide +kernel
theorem dX3_sizeBySets_2 : decode cX3_sizeBySets 2 = .ok (.invokevirtual 41, 3) := by decide +kernel
theorem dX3_sizeBySets_5 : decode cX3_sizeBySets 5 = .ok (.iconst 0, 1) := by decide +kernel
theorem dX3_sizeBySets_6 : decode cX3_sizeBySets 6 = .ok (.istore_n 2, 1) := by decide +kernel
theorem dX3_sizeBySets_7 : decode cX3_sizeBySets 7 = .ok (.iload_n 2, 1) := by decide +kernel
theorem dX3_sizeBySets_8 : decode cX3_sizeBySets 8 = .ok (.sipush 256, 3) := by decide +kernel
theorem dX3_sizeBySets_11 : decode cX3_sizeBySets 11 = .ok (.if_icmp .ge 24, 3) := by decide +kernel
theorem dX3_sizeBySets_14 : decode cX3_sizeBySets 14 = .ok (.aload_n 0, 1) := by decide +kernel
theorem dX3_sizeBySets_15 : decode cX3_sizeBySets 15 = .ok (.getfield 37, 3) := by decide +kernel
theorem dX3_sizeBySets_18 : decode cX3_sizeBySets 18 = .ok (.iload_n 2, 1) := by decide +kernel
theorem dX3_sizeBySets_19 : decode cX3_sizeBySets 19 = .ok (.iload_n 2, 1) := by decide +kernel
theorem dX3_sizeBySets_20 : decode cX3_sizeBySets 20 = .ok (.ifCond .ne 7, 3) := by decide +kernel
theorem dX3_sizeBySets_23 : decode cX3_sizeBySets 23 = .ok (.iconst 1, 1) := by decide +kernel
theorem dX3_sizeBySets_24 : decode cX3_sizeBySets 24 = .ok (.goto 4, 3) := by decide +kernel
theorem dX3_sizeBySets_27 : decode cX3_sizeBySets 27 = .ok (.iconst 0, 1) := by decide +kernel
theorem dX3_sizeBySets_28 : decode cX3_sizeBySets 28 = .ok (.bastore, 1) := by decide +kernel
theorem dX3_sizeBySets_29 : decode cX3_sizeBySets 29 = .ok (.iinc 2 1, 3) := by decide +kernel
theorem dX3_sizeBySets_32 : decode cX3_sizeBySets 32 = .ok (.goto (-25), 3) := by decide +kernel
theorem dX3_sizeBySets_35 : decode cX3_sizeBySets 35 = .ok (.iconst 0, 1) := by decide +kernel
theorem dX3_sizeBySets_36 : decode cX3_sizeBySets 36 = .ok (.istore_n 2, 1) := by decide +kernel
theorem dX3_sizeBySets_37 : decode cX3_sizeBySets 37 = .ok (.iload_n 2, 1) := by decide +kernel
theorem dX3_sizeBySets_38 : decode cX3_sizeBySets 38 = .ok (.bipush 6, 2) := by decide +kernel
theorem dX3_sizeBySets_40 : decode cX3_sizeBySets 40 = .ok (.if_icmp .ge 32, 3) := by decide +kernel
theorem dX3_sizeBySets_43 : decode cX3_sizeBySets 43 = .ok (.iconst 0, 1) := by decide +kernel
theorem dX3_sizeBySets_44 : decode cX3_sizeBySets 44 = .ok (.istore_n 3, 1) := by decide +kernel
theorem dX3_sizeBySets_45 : decode cX3_sizeBySets 45 = .ok (.iload_n 3, 1) := by decide +kernel
theorem dX3_sizeBySets_46 : decode cX3_sizeBySets 46 = .ok (.aload_n 0, 1) := by decide +kernel
theorem dX3_sizeBySets_47 : decode cX3_sizeBySets 47 = .ok (.getfield 19, 3) := by decide +kernel
theorem dX3_sizeBySets_50 : decode cX3_sizeBySets 50 = .ok (.iload_n 2, 1) := by decide +kernel
theorem dX3_sizeBySets_51 : decode cX3_sizeBySets 51 = .ok (.iaload, 1) := by decide +kernel
theorem dX3_sizeBySets_52 : decode cX3_sizeBySets 52 = .ok (.if_icmp .ge 14, 3) := by decide +kernel
theorem dX3_sizeBySets_55 : decode cX3_sizeBySets 55 = .ok (.aload_n 0, 1) := by decide +kernel
theorem dX3_sizeBySets_56 : decode cX3_sizeBySets 56 = .ok (.iload_n 2, 1) := by decide +kernel
theorem dX3_sizeBySets_57 : decode cX3_sizeBySets 57 = .ok (.invokevirtual 49, 3) := by decide +kernel
theorem dX3_sizeBySets_60 : decode cX3_sizeBySets 60 = .ok (.iinc 3 1, 3) := by decide +kernel
theorem dX3_sizeBySets_63 : decode cX3_sizeBySets 63 = .ok (.goto (-18), 3) := by decide +kernel
theorem dX3_sizeBySets_66 : decode cX3_sizeBySets 66 = .ok (.iinc 2 1, 3) := by decide +kernel
theorem dX3_sizeBySets_69 : decode cX3_sizeBySets 69 = .ok (.goto (-32), 3) := by decide +kernel
theorem dX3_sizeBySets_72 : decode cX3_sizeBySets 72 = .ok (.iconst 0, 1) := by decide +kernel
theorem dX3_sizeBySets_73 : decode cX3_sizeBySets 73 = .ok (.istore_n 2, 1) := by decide +kernel
theorem dX3_sizeBySets_74 : decode cX3_sizeBySets 74 = .ok (.iconst 0, 1) := by decide +kernel
theorem dX3_sizeBySets_75 : decode cX3_sizeBySets 75 = .ok (.istore_n 3, 1) := by decide +kernel
theorem dX3_sizeBySets_76 : decode cX3_sizeBySets 76 = .ok (.iload_n 3, 1) := by decide +kernel
theorem dX3_sizeBySets_77 : decode cX3_sizeBySets 77 = .ok (.sipush 256, 3) := by decide +kernel
theorem dX3_sizeBySets_80 : decode cX3_sizeBySets 80 = .ok (.if_icmp .ge 27, 3) := by decide +kernel
theorem dX3_sizeBySets_83 : decode cX3_sizeBySets 83 = .ok (.aload_n 0, 1) := by decide +kernel
theorem dX3_sizeBySets_84 : decode cX3_sizeBySets 84 = .ok (.getfield 37, 3) := by decide +kernel
theorem dX3_sizeBySets_87 : decode cX3_sizeBySets 87 = .ok (.iload_n 3, 1) := by decide +kernel
theorem dX3_sizeBySets_88 : decode cX3_sizeBySets 88 = .ok (.baload, 1) := by decide +kernel
theorem dX3_sizeBySets_89 : decode cX3_sizeBySets 89 = .ok (.ifCond .eq 12, 3) := by decide +kernel
theorem dX3_sizeBySets_92 : decode cX3_sizeBySets 92 = .ok (.iload_n 2, 1) := by decide +kernel
theorem dX3_sizeBySets_93 : decode cX3_sizeBySets 93 = .ok (.iload_n 3, 1) := by decide +kernel
theorem dX3_sizeBySets_94 : decode cX3_sizeBySets 94 = .ok (.invokestatic 53, 3) := by decide +kernel
theorem dX3_sizeBySets_97 : decode cX3_sizeBySets 97 = .ok (.invokestatic 58, 3) := by decide +kernel
theorem dX3_sizeBySets_100 : decode cX3_sizeBySets 100 = .ok (.istore_n 2, 1) := by decide +kernel
theorem dX3_sizeBySets_101 : decode cX3_sizeBySets 101 = .ok (.iinc 3 1, 3) := by decide +kernel
theorem dX3_sizeBySets_104 : decode cX3_sizeBySets 104 = .ok (.goto (-28), 3) := by decide +kernel
theorem dX3_sizeBySets_107 : decode cX3_sizeBySets 107 = .ok (.iload_n 2, 1) := by decide +kernel
theorem dX3_sizeBySets_108 : decode cX3_sizeBySets 108 = .ok (.ireturn, 1) := by decide +kernel
theorem dX3_findBest_0 : decode cX3_findBest 0 = .ok (.aload_n 0, 1) := by decide +kernel
theorem dX3_findBest_1 : decode cX3_findBest 1 = .ok (.aload_n 1, 1) := by decide +kernel
theorem dX3_findBest_2 : decode cX3_findBest 2 = .ok (.invokevirtual 41, 3) := by decide +kernel
theorem dX3_findBest_5 : decode cX3_findBest 5 = .ok (.aload_n 0, 1) := by decide +kernel
theorem dX3_findBest_6 : decode cX3_findBest 6 = .ok (.iconst 0, 1) := by decide +kernel
theorem dX3_findBest_7 : decode cX3_findBest 7 = .ok (.invokevirtual 45, 3) := by decide +kernel
theorem dX3_findBest_10 : decode cX3_findBest 10 = .ok (.istore_n 2, 1) := by decide +kernel
theorem dX3_findBest_11 : decode cX3_findBest 11 = .ok (.iconst 0, 1) := by decide +kernel
theorem dX3_findBest_12 : decode cX3_findBest 12 = .ok (.istore_n 3, 1) := by decide +kernel
theorem dX3_findBest_13 : decode cX3_findBest 13 = .ok (.iload_n 3, 1) := by decide +kernel
theorem dX3_findBest_14 : decode cX3_findBest 14 = .ok (.aload_n 0, 1) := by decide +kernel
theorem dX3_findBest_15 : decode cX3_findBest 15 = .ok (.getfield 9, 3) := by decide +kernel
theorem dX3_findBest_18 : decode cX3_findBest 18 = .ok (.if_icmp .ge 49, 3) := by decide +kernel
theorem dX3_findBest_21 : decode cX3_findBest 21 = .ok (.aload_n 0, 1) := by decide +kernel
theorem dX3_findBest_22 : decode cX3_findBest 22 = .ok (.getfield 22, 3) := by decide +kernel
theorem dX3_findBest_25 : decode cX3_findBest 25 = .ok (.iload_n 3, 1) := by decide +kernel
theorem dX3_findBest_26 : decode cX3_findBest 26 = .ok (.aload_n 0, 1) := by decide +kernel
theorem dX3_findBest_27 : decode cX3_findBest 27 = .ok (.iload_n 3, 1) := by decide +kernel
theorem dX3_findBest_28 : decode cX3_findBest 28 = .ok (.iload_n 2, 1) := by decide +kernel
theorem dX3_findBest_29 : decode cX3_findBest 29 = .ok (.invokevirtual 64, 3) := by decide +kernel
theorem dX3_findBest_32 : decode cX3_findBest 32 = .ok (.iastore, 1) := by decide +kernel
theorem dX3_findBest_33 : decode cX3_findBest 33 = .ok (.aload_n 0, 1) := by decide +kernel
theorem dX3_findBest_34 : decode cX3_findBest 34 = .ok (.getfield 22, 3) := by decide +kernel
theorem dX3_findBest_37 : decode cX3_findBest 37 = .ok (.iload_n 3, 1) := by decide +kernel
theorem dX3_findBest_38 : decode cX3_findBest 38 = .ok (.iaload, 1) := by decide +kernel
theorem dX3_findBest_39 : decode cX3_findBest 39 = .ok (.iconst (-1), 1) := by decide +kernel
theorem dX3_findBest_40 : decode cX3_findBest 40 = .ok (.if_icmp .eq 21, 3) := by decide +kernel
theorem dX3_findBest_43 : decode cX3_findBest 43 = .ok (.aload_n 0, 1) := by decide +kernel
theorem dX3_findBest_44 : decode cX3_findBest 44 = .ok (.getfield 19, 3) := by decide +kernel
theorem dX3_findBest_47 : decode cX3_findBest 47 = .ok (.aload_n 0, 1) := by decide +kernel
theorem dX3_findBest_48 : decode cX3_findBest 48 = .ok (.getfield 22, 3) := by decide +kernel
theorem dX3_findBest_51 : decode cX3_findBest 51 = .ok (.iload_n 3, 1) := by decide +kernel
theorem dX3_findBest_52 : decode cX3_findBest 52 = .ok (.iaload, 1) := by decide +kernel
theorem dX3_findBest_53 : decode cX3_findBest 53 = .ok (.dup2, 1) := by decide +kernel
theorem dX3_findBest_54 : decode cX3_findBest 54 = .ok (.iaload, 1) := by decide +kernel
theorem dX3_findBest_55 : decode cX3_findBest 55 = .ok (.iconst 1, 1) := by decide +kernel
theorem dX3_findBest_56 : decode cX3_findBest 56 = .ok (.isub, 1) := by decide +kernel
theorem dX3_findBest_57 : decode cX3_findBest 57 = .ok (.iastore, 1) := by decide +kernel
theorem dX3_findBest_58 : decode cX3_findBest 58 = .ok (.iinc 2 (-1), 3) := by decide +kernel
theorem dX3_findBest_61 : decode cX3_findBest 61 = .ok (.iinc 3 1, 3) := by decide +kernel
theorem dX3_findBest_64 : decode cX3_findBest 64 = .ok (.goto (-51), 3) := by decide +kernel
theorem dX3_findBest_67 : decode cX3_findBest 67 = .ok (.return_, 1) := by decide +kernel
theorem dX3_survey_0 : decode cX3_survey 0 = .ok (.aload_n 0, 1) := by decide +kernel
theorem dX3_survey_1 : decode cX3_survey 1 = .ok (.aload_n 1, 1) := by decide +kernel
theorem dX3_survey_2 : decode cX3_survey 2 = .ok (.getfield 67, 3) := by decide +kernel
theorem dX3_survey_5 : decode cX3_survey 5 = .ok (.putfield 9, 3) := by decide +kernel
theorem dX3_survey_8 : decode cX3_survey 8 = .ok (.iconst 0, 1) := by decide +kernel
theorem dX3_survey_9 : decode cX3_survey 9 = .ok (.istore_n 2, 1) := by decide +kernel
theorem dX3_survey_10 : decode cX3_survey 10 = .ok (.iload_n 2, 1) := by decide +kernel
theorem dX3_survey_11 : decode cX3_survey 11 = .ok (.bipush 6, 2) := by decide +kernel
theorem dX3_survey_13 : decode cX3_survey 13 = .ok (.if_icmp .ge 32, 3) := by decide +kernel
theorem dX3_survey_16 : decode cX3_survey 16 = .ok (.aload_n 0, 1) := by decide +kernel
theorem dX3_survey_17 : decode cX3_survey 17 = .ok (.getfield 19, 3) := by decide +kernel
theorem dX3_survey_20 : decode cX3_survey 20 = .ok (.iload_n 2, 1) := by decide +kernel
theorem dX3_survey_21 : decode cX3_survey 21 = .ok (.aload_n 1, 1) := by decide +kernel
theorem dX3_survey_22 : decode cX3_survey 22 = .ok (.iload_n 2, 1) := by decide +kernel
theorem dX3_survey_23 : decode cX3_survey 23 = .ok (.invokevirtual 70, 3) := by decide +kernel
theorem dX3_survey_26 : decode cX3_survey 26 = .ok (.ifCond .eq 11, 3) := by decide +kernel
theorem dX3_survey_29 : decode cX3_survey 29 = .ok (.aload_n 1, 1) := by decide +kernel
theorem dX3_survey_30 : decode cX3_survey 30 = .ok (.iload_n 2, 1) := by decide +kernel
theorem dX3_survey_31 : decode cX3_survey 31 = .ok (.invokevirtual 74, 3) := by decide +kernel
theorem dX3_survey_34 : decode cX3_survey 34 = .ok (.goto 4, 3) := by decide +kernel
theorem dX3_survey_37 : decode cX3_survey 37 = .ok (.iconst 0, 1) := by decide +kernel
theorem dX3_survey_38 : decode cX3_survey 38 = .ok (.iastore, 1) := by decide +kernel
theorem dX3_survey_39 : decode cX3_survey 39 = .ok (.iinc 2 1, 3) := by decide +kernel
theorem dX3_survey_42 : decode cX3_survey 42 = .ok (.goto (-32), 3) := by decide +kernel
theorem dX3_survey_45 : decode cX3_survey 45 = .ok (.iconst 0, 1) := by decide +kernel
theorem dX3_survey_46 : decode cX3_survey 46 = .ok (.istore_n 2, 1) := by decide +kernel
theorem dX3_survey_47 : decode cX3_survey 47 = .ok (.iload_n 2, 1) := by decide +kernel
theorem dX3_survey_48 : decode cX3_survey 48 = .ok (.aload_n 0, 1) := by decide +kernel
theorem dX3_survey_49 : decode cX3_survey 49 = .ok (.getfield 9, 3) := by decide +kernel
theorem dX3_survey_52 : decode cX3_survey 52 = .ok (.if_icmp .ge 20, 3) := by decide +kernel
theorem dX3_survey_55 : decode cX3_survey 55 = .ok (.aload_n 0, 1) := by decide +kernel
theorem dX3_survey_56 : decode cX3_survey 56 = .ok (.getfield 15, 3) := by decide +kernel
theorem dX3_survey_59 : decode cX3_survey 59 = .ok (.iload_n 2, 1) := by decide +kernel
theorem dX3_survey_60 : decode cX3_survey 60 = .ok (.aload_n 1, 1) := by decide +kernel
theorem dX3_survey_61 : decode cX3_survey 61 = .ok (.iload_n 2, 1) := by decide +kernel
theorem dX3_survey_62 : decode cX3_survey 62 = .ok (.invokestatic 77, 3) := by decide +kernel
theorem dX3_survey_65 : decode cX3_survey 65 = .ok (.iastore, 1) := by decide +kernel
theorem dX3_survey_66 : decode cX3_survey 66 = .ok (.iinc 2 1, 3) := by decide +kernel
theorem dX3_survey_69 : decode cX3_survey 69 = .ok (.goto (-22), 3) := by decide +kernel
theorem dX3_survey_72 : decode cX3_survey 72 = .ok (.return_, 1) := by decide +kernel
theorem dX3_candidatesFor_0 : decode cX3_candidatesFor 0 = .ok (.aload_n 0, 1) := by decide +kernel
theorem dX3_candidatesFor_1 : decode cX3_candidatesFor 1 = .ok (.iload_n 1, 1) := by decide +kernel
theorem dX3_candidatesFor_2 : decode cX3_candidatesFor 2 = .ok (.invokevirtual 81, 3) := by decide +kernel
theorem dX3_candidatesFor_5 : decode cX3_candidatesFor 5 = .ok (.iconst 3, 1) := by decide +kernel
theorem dX3_candidatesFor_6 : decode cX3_candidatesFor 6 = .ok (.if_icmp .lt 5, 3) := by decide +kernel
theorem dX3_candidatesFor_9 : decode cX3_candidatesFor 9 = .ok (.iconst 0, 1) := by decide +kernel
theorem dX3_candidatesFor_10 : decode cX3_candidatesFor 10 = .ok (.ireturn, 1) := by decide +kernel
theorem dX3_candidatesFor_11 : decode cX3_candidatesFor 11 = .ok (.iconst 0, 1) := by decide +kernel
theorem dX3_candidatesFor_12 : decode cX3_candidatesFor 12 = .ok (.istore_n 2, 1) := by decide +kernel
theorem dX3_candidatesFor_13 : decode cX3_candidatesFor 13 = .ok (.iconst 0, 1) := by decide +kernel
theorem dX3_candidatesFor_14 : decode cX3_candidatesFor 14 = .ok (.istore_n 3, 1) := by decide +kernel
theorem dX3_candidatesFor_15 : decode cX3_candidatesFor 15 = .ok (.iload_n 3, 1) := by decide +kernel
theorem dX3_candidatesFor_16 : decode cX3_candidatesFor 16 = .ok (.aload_n 0, 1) := by decide +kernel
theorem dX3_candidatesFor_17 : decode cX3_candidatesFor 17 = .ok (.getfield 84, 3) := by decide +kernel
theorem dX3_candidatesFor_20 : decode cX3_candidatesFor 20 = .ok (.if_icmp .ge 33, 3) := by decide +kernel
theorem dX3_candidatesFor_23 : decode cX3_candidatesFor 23 = .ok (.aload_n 0, 1) := by decide +kernel
theorem dX3_candidatesFor_24 : decode cX3_candidatesFor 24 = .ok (.iload_n 3, 1) := by decide +kernel
theorem dX3_candidatesFor_25 : decode cX3_candidatesFor 25 = .ok (.iload_n 1, 1) := by decide +kernel
theorem dX3_candidatesFor_26 : decode cX3_candidatesFor 26 = .ok (.invokevirtual 87, 3) := by decide +kernel
theorem dX3_candidatesFor_29 : decode cX3_candidatesFor 29 = .ok (.ifCond .eq 18, 3) := by decide +kernel
theorem dX3_candidatesFor_32 : decode cX3_candidatesFor 32 = .ok (.aload_n 0, 1) := by decide +kernel
theorem dX3_candidatesFor_33 : decode cX3_candidatesFor 33 = .ok (.iload_n 3, 1) := by decide +kernel
theorem dX3_candidatesFor_34 : decode cX3_candidatesFor 34 = .ok (.iload_n 1, 1) := by decide +kernel
theorem dX3_candidatesFor_35 : decode cX3_candidatesFor 35 = .ok (.invokevirtual 91, 3) := by decide +kernel
theorem dX3_candidatesFor_38 : decode cX3_candidatesFor 38 = .ok (.ifCond .ne 9, 3) := by decide +kernel
theorem dX3_candidatesFor_41 : decode cX3_candidatesFor 41 = .ok (.iload_n 2, 1) := by decide +kernel
theorem dX3_candidatesFor_42 : decode cX3_candidatesFor 42 = .ok (.iconst 1, 1) := by decide +kernel
theorem dX3_candidatesFor_43 : decode cX3_candidatesFor 43 = .ok (.iload_n 3, 1) := by decide +kernel
theorem dX3_candidatesFor_44 : decode cX3_candidatesFor 44 = .ok (.ishl, 1) := by decide +kernel
theorem dX3_candidatesFor_45 : decode cX3_candidatesFor 45 = .ok (.ior, 1) := by decide +kernel
theorem dX3_candidatesFor_46 : decode cX3_candidatesFor 46 = .ok (.istore_n 2, 1) := by decide +kernel
theorem dX3_candidatesFor_47 : decode cX3_candidatesFor 47 = .ok (.iinc 3 1, 3) := by decide +kernel
theorem dX3_candidatesFor_50 : decode cX3_candidatesFor 50 = .ok (.goto (-35), 3) := by decide +kernel
theorem dX3_candidatesFor_53 : decode cX3_candidatesFor 53 = .ok (.iload_n 2, 1) := by decide +kernel
theorem dX3_candidatesFor_54 : decode cX3_candidatesFor 54 = .ok (.ireturn, 1) := by decide +kernel
theorem dX3_bestChoice_0 : decode cX3_bestChoice 0 = .ok (.iconst 0, 1) := by decide +kernel
theorem dX3_bestChoice_1 : decode cX3_bestChoice 1 = .ok (.istore_n 3, 1) := by decide +kernel
theorem dX3_bestChoice_2 : decode cX3_bestChoice 2 = .ok (.iload_n 3, 1) := by decide +kernel
theorem dX3_bestChoice_3 : decode cX3_bestChoice 3 = .ok (.bipush 6, 2) := by decide +kernel
theorem dX3_bestChoice_5 : decode cX3_bestChoice 5 = .ok (.if_icmp .ge 70, 3) := by decide +kernel
theorem dX3_bestChoice_8 : decode cX3_bestChoice 8 = .ok (.aload_n 0, 1) := by decide +kernel
theorem dX3_bestChoice_9 : decode cX3_bestChoice 9 = .ok (.getfield 15, 3) := by decide +kernel
theorem dX3_bestChoice_12 : decode cX3_bestChoice 12 = .ok (.iload_n 1, 1) := by decide +kernel
theorem dX3_bestChoice_13 : decode cX3_bestChoice 13 = .ok (.iaload, 1) := by decide +kernel
theorem dX3_bestChoice_14 : decode cX3_bestChoice 14 = .ok (.iload_n 3, 1) := by decide +kernel
theorem dX3_bestChoice_15 : decode cX3_bestChoice 15 = .ok (.invokestatic 94, 3) := by decide +kernel
theorem dX3_bestChoice_18 : decode cX3_bestChoice 18 = .ok (.ifCond .eq 51, 3) := by decide +kernel
theorem dX3_bestChoice_21 : decode cX3_bestChoice 21 = .ok (.aload_n 0, 1) := by decide +kernel
theorem dX3_bestChoice_22 : decode cX3_bestChoice 22 = .ok (.getfield 19, 3) := by decide +kernel
theorem dX3_bestChoice_25 : decode cX3_bestChoice 25 = .ok (.iload_n 3, 1) := by decide +kernel
theorem dX3_bestChoice_26 : decode cX3_bestChoice 26 = .ok (.iaload, 1) := by decide +kernel
theorem dX3_bestChoice_27 : decode cX3_bestChoice 27 = .ok (.ifCond .le 42, 3) := by decide +kernel
theorem dX3_bestChoice_30 : decode cX3_bestChoice 30 = .ok (.aload_n 0, 1) := by decide +kernel
theorem dX3_bestChoice_31 : decode cX3_bestChoice 31 = .ok (.getfield 19, 3) := by decide +kernel
theorem dX3_bestChoice_34 : decode cX3_bestChoice 34 = .ok (.iload_n 3, 1) := by decide +kernel
theorem dX3_bestChoice_35 : decode cX3_bestChoice 35 = .ok (.dup2, 1) := by decide +kernel
theorem dX3_bestChoice_36 : decode cX3_bestChoice 36 = .ok (.iaload, 1) := by decide +kernel
theorem dX3_bestChoice_37 : decode cX3_bestChoice 37 = .ok (.iconst 1, 1) := by decide +kernel
theorem dX3_bestChoice_38 : decode cX3_bestChoice 38 = .ok (.isub, 1) := by decide +kernel
theorem dX3_bestChoice_39 : decode cX3_bestChoice 39 = .ok (.iastore, 1) := by decide +kernel
theorem dX3_bestChoice_40 : decode cX3_bestChoice 40 = .ok (.iconst 1, 1) := by decide +kernel
theorem dX3_bestChoice_41 : decode cX3_bestChoice 41 = .ok (.aload_n 0, 1) := by decide +kernel
theorem dX3_bestChoice_42 : decode cX3_bestChoice 42 = .ok (.iload_n 1, 1) := by decide +kernel
theorem dX3_bestChoice_43 : decode cX3_bestChoice 43 = .ok (.iconst 1, 1) := by decide +kernel
theorem dX3_bestChoice_44 : decode cX3_bestChoice 44 = .ok (.iadd, 1) := by decide +kernel
theorem dX3_bestChoice_45 : decode cX3_bestChoice 45 = .ok (.invokevirtual 45, 3) := by decide +kernel
theorem dX3_bestChoice_48 : decode cX3_bestChoice 48 = .ok (.iadd, 1) := by decide +kernel
theorem dX3_bestChoice_49 : decode cX3_bestChoice 49 = .ok (.istore 4, 2) := by decide +kernel
theorem dX3_bestChoice_51 : decode cX3_bestChoice 51 = .ok (.aload_n 0, 1) := by decide +kernel
theorem dX3_bestChoice_52 : decode cX3_bestChoice 52 = .ok (.getfield 19, 3) := by decide +kernel
theorem dX3_bestChoice_55 : decode cX3_bestChoice 55 = .ok (.iload_n 3, 1) := by decide +kernel
theorem dX3_bestChoice_56 : decode cX3_bestChoice 56 = .ok (.dup2, 1) := by decide +kernel
theorem dX3_bestChoice_57 : decode cX3_bestChoice 57 = .ok (.iaload, 1) := by decide +kernel
theorem dX3_bestChoice_58 : decode cX3_bestChoice 58 = .ok (.iconst 1, 1) := by decide +kernel
theorem dX3_bestChoice_59 : decode cX3_bestChoice 59 = .ok (.iadd, 1) := by decide +kernel
theorem dX3_bestChoice_60 : decode cX3_bestChoice 60 = .ok (.iastore, 1) := by decide +kernel
theorem dX3_bestChoice_61 : decode cX3_bestChoice 61 = .ok (.iload 4, 2) := by decide +kernel
theorem dX3_bestChoice_63 : decode cX3_bestChoice 63 = .ok (.iload_n 2, 1) := by decide +kernel
theorem dX3_bestChoice_64 : decode cX3_bestChoice 64 = .ok (.if_icmp .ne 5, 3) := by decide +kernel
theorem dX3_bestChoice_67 : decode cX3_bestChoice 67 = .ok (.iload_n 3, 1) := by decide +kernel
theorem dX3_bestChoice_68 : decode cX3_bestChoice 68 = .ok (.ireturn, 1) := by decide +kernel
theorem dX3_bestChoice_69 : decode cX3_bestChoice 69 = .ok (.iinc 3 1, 3) := by decide +kernel
theorem dX3_bestChoice_72 : decode cX3_bestChoice 72 = .ok (.goto (-70), 3) := by decide +kernel
theorem dX3_bestChoice_75 : decode cX3_bestChoice 75 = .ok (.iconst (-1), 1) := by decide +kernel
theorem dX3_bestChoice_76 : decode cX3_bestChoice 76 = .ok (.ireturn, 1) := by decide +kernel
theorem dX3_greatestFrom_0 : decode cX3_greatestFrom 0 = .ok (.iconst 0, 1) := by decide +kernel
theorem dX3_greatestFrom_1 : decode cX3_greatestFrom 1 = .ok (.istore_n 2, 1) := by decide +kernel
theorem dX3_greatestFrom_2 : decode cX3_greatestFrom 2 = .ok (.iload_n 2, 1) := by decide +kernel
theorem dX3_greatestFrom_3 : decode cX3_greatestFrom 3 = .ok (.bipush 8, 2) := by decide +kernel
theorem dX3_greatestFrom_5 : decode cX3_greatestFrom 5 = .ok (.if_icmp .ge 16, 3) := by decide +kernel
theorem dX3_greatestFrom_8 : decode cX3_greatestFrom 8 = .ok (.aload_n 0, 1) := by decide +kernel
theorem dX3_greatestFrom_9 : decode cX3_greatestFrom 9 = .ok (.getfield 25, 3) := by decide +kernel
theorem dX3_greatestFrom_12 : decode cX3_greatestFrom 12 = .ok (.iload_n 2, 1) := by decide +kernel
theorem dX3_greatestFrom_13 : decode cX3_greatestFrom 13 = .ok (.iconst (-1), 1) := by decide +kernel
theorem dX3_greatestFrom_14 : decode cX3_greatestFrom 14 = .ok (.iastore, 1) := by decide +kernel
theorem dX3_greatestFrom_15 : decode cX3_greatestFrom 15 = .ok (.iinc 2 1, 3) := by decide +kernel
theorem dX3_greatestFrom_18 : decode cX3_greatestFrom 18 = .ok (.goto (-16), 3) := by decide +kernel
theorem dX3_greatestFrom_21 : decode cX3_greatestFrom 21 = .ok (.iconst 0, 1) := by decide +kernel
theorem dX3_greatestFrom_22 : decode cX3_greatestFrom 22 = .ok (.istore_n 2, 1) := by decide +kernel
theorem dX3_greatestFrom_23 : decode cX3_greatestFrom 23 = .ok (.iload_n 2, 1) := by decide +kernel
theorem dX3_greatestFrom_24 : decode cX3_greatestFrom 24 = .ok (.bipush 6, 2) := by decide +kernel
theorem dX3_greatestFrom_26 : decode cX3_greatestFrom 26 = .ok (.if_icmp .ge 16, 3) := by decide +kernel
theorem dX3_greatestFrom_29 : decode cX3_greatestFrom 29 = .ok (.aload_n 0, 1) := by decide +kernel
theorem dX3_greatestFrom_30 : decode cX3_greatestFrom 30 = .ok (.getfield 28, 3) := by decide +kernel
theorem dX3_greatestFrom_33 : decode cX3_greatestFrom 33 = .ok (.iload_n 2, 1) := by decide +kernel
theorem dX3_greatestFrom_34 : decode cX3_greatestFrom 34 = .ok (.iconst 0, 1) := by decide +kernel
theorem dX3_greatestFrom_35 : decode cX3_greatestFrom 35 = .ok (.iastore, 1) := by decide +kernel
theorem dX3_greatestFrom_36 : decode cX3_greatestFrom 36 = .ok (.iinc 2 1, 3) := by decide +kernel
theorem dX3_greatestFrom_39 : decode cX3_greatestFrom 39 = .ok (.goto (-16), 3) := by decide +kernel
theorem dX3_greatestFrom_42 : decode cX3_greatestFrom 42 = .ok (.iconst 0, 1) := by decide +kernel
theorem dX3_greatestFrom_43 : decode cX3_greatestFrom 43 = .ok (.istore_n 2, 1) := by decide +kernel
theorem dX3_greatestFrom_44 : decode cX3_greatestFrom 44 = .ok (.iload_n 1, 1) := by decide +kernel
theorem dX3_greatestFrom_45 : decode cX3_greatestFrom 45 = .ok (.istore_n 3, 1) := by decide +kernel
theorem dX3_greatestFrom_46 : decode cX3_greatestFrom 46 = .ok (.iload_n 3, 1) := by decide +kernel
theorem dX3_greatestFrom_47 : decode cX3_greatestFrom 47 = .ok (.aload_n 0, 1) := by decide +kernel
theorem dX3_greatestFrom_48 : decode cX3_greatestFrom 48 = .ok (.getfield 9, 3) := by decide +kernel
theorem dX3_greatestFrom_51 : decode cX3_greatestFrom 51 = .ok (.if_icmp .ge 20, 3) := by decide +kernel
theorem dX3_greatestFrom_54 : decode cX3_greatestFrom 54 = .ok (.aload_n 0, 1) := by decide +kernel
theorem dX3_greatestFrom_55 : decode cX3_greatestFrom 55 = .ok (.iload_n 3, 1) := by decide +kernel
theorem dX3_greatestFrom_56 : decode cX3_greatestFrom 56 = .ok (.invokevirtual 97, 3) := by decide +kernel
theorem dX3_greatestFrom_59 : decode cX3_greatestFrom 59 = .ok (.ifCond .eq 6, 3) := by decide +kernel
theorem dX3_greatestFrom_62 : decode cX3_greatestFrom 62 = .ok (.iinc 2 1, 3) := by decide +kernel
theorem dX3_greatestFrom_65 : decode cX3_greatestFrom 65 = .ok (.iinc 3 1, 3) := by decide +kernel
theorem dX3_greatestFrom_68 : decode cX3_greatestFrom 68 = .ok (.goto (-22), 3) := by decide +kernel
theorem dX3_greatestFrom_71 : decode cX3_greatestFrom 71 = .ok (.iload_n 2, 1) := by decide +kernel
theorem dX3_greatestFrom_72 : decode cX3_greatestFrom 72 = .ok (.ireturn, 1) := by decide +kernel
theorem dX3_addByExchanges_0 : decode cX3_addByExchanges 0 = .ok (.aload_n 0, 1) := by decide +kernel
theorem dX3_addByExchanges_1 : decode cX3_addByExchanges 1 = .ok (.getfield 34, 3) := by decide +kernel
theorem dX3_addByExchanges_4 : decode cX3_addByExchanges 4 = .ok (.iconst 0, 1) := by decide +kernel
theorem dX3_addByExchanges_5 : decode cX3_addByExchanges 5 = .ok (.iload_n 1, 1) := by decide +kernel
theorem dX3_addByExchanges_6 : decode cX3_addByExchanges 6 = .ok (.iastore, 1) := by decide +kernel
theorem dX3_addByExchanges_7 : decode cX3_addByExchanges 7 = .ok (.iconst 1, 1) := by decide +kernel
theorem dX3_addByExchanges_8 : decode cX3_addByExchanges 8 = .ok (.istore_n 2, 1) := by decide +kernel
theorem dX3_addByExchanges_9 : decode cX3_addByExchanges 9 = .ok (.iconst 0, 1) := by decide +kernel
theorem dX3_addByExchanges_10 : decode cX3_addByExchanges 10 = .ok (.istore_n 3, 1) := by decide +kernel
theorem dX3_addByExchanges_11 : decode cX3_addByExchanges 11 = .ok (.iconst 0, 1) := by decide +kernel
theorem dX3_addByExchanges_12 : decode cX3_addByExchanges 12 = .ok (.istore 4, 2) := by decide +kernel
theorem dX3_addByExchanges_14 : decode cX3_addByExchanges 14 = .ok (.iload 4, 2) := by decide +kernel
theorem dX3_addByExchanges_16 : decode cX3_addByExchanges 16 = .ok (.iload_n 2, 1) := by decide +kernel
theorem dX3_addByExchanges_17 : decode cX3_addByExchanges 17 = .ok (.if_icmp .ge 109, 3) := by decide +kernel
theorem dX3_addByExchanges_20 : decode cX3_addByExchanges 20 = .ok (.iload 4, 2) := by decide +kernel
theorem dX3_addByExchanges_22 : decode cX3_addByExchanges 22 = .ok (.bipush 8, 2) := by decide +kernel
theorem dX3_addByExchanges_24 : decode cX3_addByExchanges 24 = .ok (.if_icmp .ge 102, 3) := by decide +kernel
theorem dX3_addByExchanges_27 : decode cX3_addByExchanges 27 = .ok (.aload_n 0, 1) := by decide +kernel
theorem dX3_addByExchanges_28 : decode cX3_addByExchanges 28 = .ok (.getfield 34, 3) := by decide +kernel
theorem dX3_addByExchanges_31 : decode cX3_addByExchanges 31 = .ok (.iload 4, 2) := by decide +kernel
theorem dX3_addByExchanges_33 : decode cX3_addByExchanges 33 = .ok (.iaload, 1) := by decide +kernel
theorem dX3_addByExchanges_34 : decode cX3_addByExchanges 34 = .ok (.istore 5, 2) := by decide +kernel
theorem dX3_addByExchanges_36 : decode cX3_addByExchanges 36 = .ok (.iconst 0, 1) := by decide +kernel
theorem dX3_addByExchanges_37 : decode cX3_addByExchanges 37 = .ok (.istore 6, 2) := by decide +kernel
theorem dX3_addByExchanges_39 : decode cX3_addByExchanges 39 = .ok (.iload 6, 2) := by decide +kernel
theorem dX3_addByExchanges_41 : decode cX3_addByExchanges 41 = .ok (.bipush 6, 2) := by decide +kernel
theorem dX3_addByExchanges_43 : decode cX3_addByExchanges 43 = .ok (.if_icmp .ge 77, 3) := by decide +kernel
theorem dX3_addByExchanges_46 : decode cX3_addByExchanges 46 = .ok (.aload_n 0, 1) := by decide +kernel
theorem dX3_addByExchanges_47 : decode cX3_addByExchanges 47 = .ok (.getfield 15, 3) := by decide +kernel
theorem dX3_addByExchanges_50 : decode cX3_addByExchanges 50 = .ok (.iload 5, 2) := by decide +kernel
theorem dX3_addByExchanges_52 : decode cX3_addByExchanges 52 = .ok (.iaload, 1) := by decide +kernel
theorem dX3_addByExchanges_53 : decode cX3_addByExchanges 53 = .ok (.iload_n 3, 1) := by decide +kernel
theorem dX3_addByExchanges_54 : decode cX3_addByExchanges 54 = .ok (.iconst (-1), 1) := by decide +kernel
theorem dX3_addByExchanges_55 : decode cX3_addByExchanges 55 = .ok (.ixor, 1) := by decide +kernel
theorem dX3_addByExchanges_56 : decode cX3_addByExchanges 56 = .ok (.iand, 1) := by decide +kernel
theorem dX3_addByExchanges_57 : decode cX3_addByExchanges 57 = .ok (.iload 6, 2) := by decide +kernel
theorem dX3_addByExchanges_59 : decode cX3_addByExchanges 59 = .ok (.invokestatic 94, 3) := by decide +kernel
theorem dX3_addByExchanges_62 : decode cX3_addByExchanges 62 = .ok (.ifCond .eq 52, 3) := by decide +kernel
theorem dX3_addByExchanges_65 : decode cX3_addByExchanges 65 = .ok (.iload_n 3, 1) := by decide +kernel
theorem dX3_addByExchanges_66 : decode cX3_addByExchanges 66 = .ok (.iconst 1, 1) := by decide +kernel
theorem dX3_addByExchanges_67 : decode cX3_addByExchanges 67 = .ok (.iload 6, 2) := by decide +kernel
theorem dX3_addByExchanges_69 : decode cX3_addByExchanges 69 = .ok (.ishl, 1) := by decide +kernel
theorem dX3_addByExchanges_70 : decode cX3_addByExchanges 70 = .ok (.ior, 1) := by decide +kernel
theorem dX3_addByExchanges_71 : decode cX3_addByExchanges 71 = .ok (.istore_n 3, 1) := by decide +kernel
theorem dX3_addByExchanges_72 : decode cX3_addByExchanges 72 = .ok (.aload_n 0, 1) := by decide +kernel
theorem dX3_addByExchanges_73 : decode cX3_addByExchanges 73 = .ok (.getfield 31, 3) := by decide +kernel
theorem dX3_addByExchanges_76 : decode cX3_addByExchanges 76 = .ok (.iload 6, 2) := by decide +kernel
theorem dX3_addByExchanges_78 : decode cX3_addByExchanges 78 = .ok (.iload 5, 2) := by decide +kernel
theorem dX3_addByExchanges_80 : decode cX3_addByExchanges 80 = .ok (.iastore, 1) := by decide +kernel
theorem dX3_addByExchanges_81 : decode cX3_addByExchanges 81 = .ok (.aload_n 0, 1) := by decide +kernel
theorem dX3_addByExchanges_82 : decode cX3_addByExchanges 82 = .ok (.getfield 28, 3) := by decide +kernel
theorem dX3_addByExchanges_85 : decode cX3_addByExchanges 85 = .ok (.iload 6, 2) := by decide +kernel
theorem dX3_addByExchanges_87 : decode cX3_addByExchanges 87 = .ok (.iaload, 1) := by decide +kernel
theorem dX3_addByExchanges_88 : decode cX3_addByExchanges 88 = .ok (.aload_n 0, 1) := by decide +kernel
theorem dX3_addByExchanges_89 : decode cX3_addByExchanges 89 = .ok (.getfield 19, 3) := by decide +kernel
theorem dX3_addByExchanges_92 : decode cX3_addByExchanges 92 = .ok (.iload 6, 2) := by decide +kernel
theorem dX3_addByExchanges_94 : decode cX3_addByExchanges 94 = .ok (.iaload, 1) := by decide +kernel
theorem dX3_addByExchanges_95 : decode cX3_addByExchanges 95 = .ok (.if_icmp .ge 11, 3) := by decide +kernel
theorem dX3_addByExchanges_98 : decode cX3_addByExchanges 98 = .ok (.aload_n 0, 1) := by decide +kernel
theorem dX3_addByExchanges_99 : decode cX3_addByExchanges 99 = .ok (.iload 6, 2) := by decide +kernel
theorem dX3_addByExchanges_101 : decode cX3_addByExchanges 101 = .ok (.invokevirtual 100, 3) := by decide +kernel
theorem dX3_addByExchanges_104 : decode cX3_addByExchanges 104 = .ok (.iconst 1, 1) := by decide +kernel
theorem dX3_addByExchanges_105 : decode cX3_addByExchanges 105 = .ok (.ireturn, 1) := by decide +kernel
theorem dX3_addByExchanges_106 : decode cX3_addByExchanges 106 = .ok (.aload_n 0, 1) := by decide +kernel
theorem dX3_addByExchanges_107 : decode cX3_addByExchanges 107 = .ok (.iload 6, 2) := by decide +kernel
theorem dX3_addByExchanges_109 : decode cX3_addByExchanges 109 = .ok (.iload_n 2, 1) := by decide +kernel
theorem dX3_addByExchanges_110 : decode cX3_addByExchanges 110 = .ok (.invokevirtual 103, 3) := by decide +kernel
theorem dX3_addByExchanges_113 : decode cX3_addByExchanges 113 = .ok (.istore_n 2, 1) := by decide +kernel
theorem dX3_addByExchanges_114 : decode cX3_addByExchanges 114 = .ok (.iinc 6 1, 3) := by decide +kernel
theorem dX3_addByExchanges_117 : decode cX3_addByExchanges 117 = .ok (.goto (-78), 3) := by decide +kernel
theorem dX3_addByExchanges_120 : decode cX3_addByExchanges 120 = .ok (.iinc 4 1, 3) := by decide +kernel
theorem dX3_addByExchanges_123 : decode cX3_addByExchanges 123 = .ok (.goto (-109), 3) := by decide +kernel
theorem dX3_addByExchanges_126 : decode cX3_addByExchanges 126 = .ok (.iconst 0, 1) := by decide +kernel
theorem dX3_addByExchanges_127 : decode cX3_addByExchanges 127 = .ok (.ireturn, 1) := by decide +kernel
theorem dX3_enqueueDoorsOf_0 : decode cX3_enqueueDoorsOf 0 = .ok (.iload_n 2, 1) := by decide +kernel
theorem dX3_enqueueDoorsOf_1 : decode cX3_enqueueDoorsOf 1 = .ok (.istore_n 3, 1) := by decide +kernel
theorem dX3_enqueueDoorsOf_2 : decode cX3_enqueueDoorsOf 2 = .ok (.iconst 0, 1) := by decide +kernel
theorem dX3_enqueueDoorsOf_3 : decode cX3_enqueueDoorsOf 3 = .ok (.istore 4, 2) := by decide +kernel
theorem dX3_enqueueDoorsOf_5 : decode cX3_enqueueDoorsOf 5 = .ok (.iload 4, 2) := by decide +kernel
theorem dX3_enqueueDoorsOf_7 : decode cX3_enqueueDoorsOf 7 = .ok (.aload_n 0, 1) := by decide +kernel
theorem dX3_enqueueDoorsOf_8 : decode cX3_enqueueDoorsOf 8 = .ok (.getfield 9, 3) := by decide +kernel
theorem dX3_enqueueDoorsOf_11 : decode cX3_enqueueDoorsOf 11 = .ok (.if_icmp .ge 37, 3) := by decide +kernel
theorem dX3_enqueueDoorsOf_14 : decode cX3_enqueueDoorsOf 14 = .ok (.aload_n 0, 1) := by decide +kernel
theorem dX3_enqueueDoorsOf_15 : decode cX3_enqueueDoorsOf 15 = .ok (.getfield 25, 3) := by decide +kernel
theorem dX3_enqueueDoorsOf_18 : decode cX3_enqueueDoorsOf 18 = .ok (.iload 4, 2) := by decide +kernel
theorem dX3_enqueueDoorsOf_20 : decode cX3_enqueueDoorsOf 20 = .ok (.iaload, 1) := by decide +kernel
theorem dX3_enqueueDoorsOf_21 : decode cX3_enqueueDoorsOf 21 = .ok (.iload_n 1, 1) := by decide +kernel
theorem dX3_enqueueDoorsOf_22 : decode cX3_enqueueDoorsOf 22 = .ok (.if_icmp .ne 20, 3) := by decide +kernel
theorem dX3_enqueueDoorsOf_25 : decode cX3_enqueueDoorsOf 25 = .ok (.iload_n 3, 1) := by decide +kernel
theorem dX3_enqueueDoorsOf_26 : decode cX3_enqueueDoorsOf 26 = .ok (.bipush 8, 2) := by decide +kernel
theorem dX3_enqueueDoorsOf_28 : decode cX3_enqueueDoorsOf 28 = .ok (.if_icmp .ge 14, 3) := by decide +kernel
theorem dX3_enqueueDoorsOf_31 : decode cX3_enqueueDoorsOf 31 = .ok (.aload_n 0, 1) := by decide +kernel
theorem dX3_enqueueDoorsOf_32 : decode cX3_enqueueDoorsOf 32 = .ok (.getfield 34, 3) := by decide +kernel
theorem dX3_enqueueDoorsOf_35 : decode cX3_enqueueDoorsOf 35 = .ok (.iload_n 3, 1) := by decide +kernel
theorem dX3_enqueueDoorsOf_36 : decode cX3_enqueueDoorsOf 36 = .ok (.iload 4, 2) := by decide +kernel
theorem dX3_enqueueDoorsOf_38 : decode cX3_enqueueDoorsOf 38 = .ok (.iastore, 1) := by decide +kernel
theorem dX3_enqueueDoorsOf_39 : decode cX3_enqueueDoorsOf 39 = .ok (.iinc 3 1, 3) := by decide +kernel
theorem dX3_enqueueDoorsOf_42 : decode cX3_enqueueDoorsOf 42 = .ok (.iinc 4 1, 3) := by decide +kernel
theorem dX3_enqueueDoorsOf_45 : decode cX3_enqueueDoorsOf 45 = .ok (.goto (-40), 3) := by decide +kernel
theorem dX3_enqueueDoorsOf_48 : decode cX3_enqueueDoorsOf 48 = .ok (.iload_n 3, 1) := by decide +kernel
theorem dX3_enqueueDoorsOf_49 : decode cX3_enqueueDoorsOf 49 = .ok (.ireturn, 1) := by decide +kernel
theorem dX3_exchange_0 : decode cX3_exchange 0 = .ok (.aload_n 0, 1) := by decide +kernel
theorem dX3_exchange_1 : decode cX3_exchange 1 = .ok (.getfield 28, 3) := by decide +kernel
theorem dX3_exchange_4 : decode cX3_exchange 4 = .ok (.iload_n 1, 1) := by decide +kernel
theorem dX3_exchange_5 : decode cX3_exchange 5 = .ok (.dup2, 1) := by decide +kernel
theorem dX3_exchange_6 : decode cX3_exchange 6 = .ok (.iaload, 1) := by decide +kernel
theorem dX3_exchange_7 : decode cX3_exchange 7 = .ok (.iconst 1, 1) := by decide +kernel
theorem dX3_exchange_8 : decode cX3_exchange 8 = .ok (.iadd, 1) := by decide +kernel
theorem dX3_exchange_9 : decode cX3_exchange 9 = .ok (.iastore, 1) := by decide +kernel
theorem dX3_exchange_10 : decode cX3_exchange 10 = .ok (.iload_n 1, 1) := by decide +kernel
theorem dX3_exchange_11 : decode cX3_exchange 11 = .ok (.istore_n 2, 1) := by decide +kernel
theorem dX3_exchange_12 : decode cX3_exchange 12 = .ok (.iconst 0, 1) := by decide +kernel
theorem dX3_exchange_13 : decode cX3_exchange 13 = .ok (.istore_n 3, 1) := by decide +kernel
theorem dX3_exchange_14 : decode cX3_exchange 14 = .ok (.iload_n 3, 1) := by decide +kernel
theorem dX3_exchange_15 : decode cX3_exchange 15 = .ok (.bipush 8, 2) := by decide +kernel
theorem dX3_exchange_17 : decode cX3_exchange 17 = .ok (.if_icmp .ge 42, 3) := by decide +kernel
theorem dX3_exchange_20 : decode cX3_exchange 20 = .ok (.iload_n 2, 1) := by decide +kernel
theorem dX3_exchange_21 : decode cX3_exchange 21 = .ok (.iconst (-1), 1) := by decide +kernel
theorem dX3_exchange_22 : decode cX3_exchange 22 = .ok (.if_icmp .eq 37, 3) := by decide +kernel
theorem dX3_exchange_25 : decode cX3_exchange 25 = .ok (.aload_n 0, 1) := by decide +kernel
theorem dX3_exchange_26 : decode cX3_exchange 26 = .ok (.getfield 31, 3) := by decide +kernel
theorem dX3_exchange_29 : decode cX3_exchange 29 = .ok (.iload_n 2, 1) := by decide +kernel
theorem dX3_exchange_30 : decode cX3_exchange 30 = .ok (.iaload, 1) := by decide +kernel
theorem dX3_exchange_31 : decode cX3_exchange 31 = .ok (.istore 4, 2) := by decide +kernel
theorem dX3_exchange_33 : decode cX3_exchange 33 = .ok (.aload_n 0, 1) := by decide +kernel
theorem dX3_exchange_34 : decode cX3_exchange 34 = .ok (.getfield 25, 3) := by decide +kernel
