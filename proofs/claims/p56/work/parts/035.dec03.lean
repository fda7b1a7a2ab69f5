theorem dX3_exchange_37 : decode cX3_exchange 37 = .ok (.iload 4, 2) := by decide +kernel
theorem dX3_exchange_39 : decode cX3_exchange 39 = .ok (.iaload, 1) := by decide +kernel
theorem dX3_exchange_40 : decode cX3_exchange 40 = .ok (.istore 5, 2) := by decide +kernel
theorem dX3_exchange_42 : decode cX3_exchange 42 = .ok (.aload_n 0, 1) := by decide +kernel
theorem dX3_exchange_43 : decode cX3_exchange 43 = .ok (.getfield 25, 3) := by decide +kernel
theorem dX3_exchange_46 : decode cX3_exchange 46 = .ok (.iload 4, 2) := by decide +kernel
theorem dX3_exchange_48 : decode cX3_exchange 48 = .ok (.iload_n 2, 1) := by decide +kernel
theorem dX3_exchange_49 : decode cX3_exchange 49 = .ok (.iastore, 1) := by decide +kernel
theorem dX3_exchange_50 : decode cX3_exchange 50 = .ok (.iload 5, 2) := by decide +kernel
theorem dX3_exchange_52 : decode cX3_exchange 52 = .ok (.istore_n 2, 1) := by decide +kernel
theorem dX3_exchange_53 : decode cX3_exchange 53 = .ok (.iinc 3 1, 3) := by decide +kernel
theorem dX3_exchange_56 : decode cX3_exchange 56 = .ok (.goto (-42), 3) := by decide +kernel
theorem dX3_exchange_59 : decode cX3_exchange 59 = .ok (.return_, 1) := by decide +kernel
theorem dX3_extendSets_0 : decode cX3_extendSets 0 = .ok (.sipush 255, 3) := by decide +kernel
theorem dX3_extendSets_3 : decode cX3_extendSets 3 = .ok (.istore_n 2, 1) := by decide +kernel
theorem dX3_extendSets_4 : decode cX3_extendSets 4 = .ok (.iload_n 2, 1) := by decide +kernel
theorem dX3_extendSets_5 : decode cX3_extendSets 5 = .ok (.ifCond .lt 66, 3) := by decide +kernel
theorem dX3_extendSets_8 : decode cX3_extendSets 8 = .ok (.aload_n 0, 1) := by decide +kernel
theorem dX3_extendSets_9 : decode cX3_extendSets 9 = .ok (.getfield 37, 3) := by decide +kernel
theorem dX3_extendSets_12 : decode cX3_extendSets 12 = .ok (.iload_n 2, 1) := by decide +kernel
theorem dX3_extendSets_13 : decode cX3_extendSets 13 = .ok (.baload, 1) := by decide +kernel
theorem dX3_extendSets_14 : decode cX3_extendSets 14 = .ok (.ifCond .eq 51, 3) := by decide +kernel
theorem dX3_extendSets_17 : decode cX3_extendSets 17 = .ok (.iconst 0, 1) := by decide +kernel
theorem dX3_extendSets_18 : decode cX3_extendSets 18 = .ok (.istore_n 3, 1) := by decide +kernel
theorem dX3_extendSets_19 : decode cX3_extendSets 19 = .ok (.iload_n 3, 1) := by decide +kernel
theorem dX3_extendSets_20 : decode cX3_extendSets 20 = .ok (.aload_n 0, 1) := by decide +kernel
theorem dX3_extendSets_21 : decode cX3_extendSets 21 = .ok (.getfield 9, 3) := by decide +kernel
theorem dX3_extendSets_24 : decode cX3_extendSets 24 = .ok (.if_icmp .ge 41, 3) := by decide +kernel
theorem dX3_extendSets_27 : decode cX3_extendSets 27 = .ok (.iload_n 2, 1) := by decide +kernel
theorem dX3_extendSets_28 : decode cX3_extendSets 28 = .ok (.iload_n 3, 1) := by decide +kernel
theorem dX3_extendSets_29 : decode cX3_extendSets 29 = .ok (.invokestatic 94, 3) := by decide +kernel
theorem dX3_extendSets_32 : decode cX3_extendSets 32 = .ok (.ifCond .ne 27, 3) := by decide +kernel
theorem dX3_extendSets_35 : decode cX3_extendSets 35 = .ok (.aload_n 0, 1) := by decide +kernel
theorem dX3_extendSets_36 : decode cX3_extendSets 36 = .ok (.getfield 15, 3) := by decide +kernel
theorem dX3_extendSets_39 : decode cX3_extendSets 39 = .ok (.iload_n 3, 1) := by decide +kernel
theorem dX3_extendSets_40 : decode cX3_extendSets 40 = .ok (.iaload, 1) := by decide +kernel
theorem dX3_extendSets_41 : decode cX3_extendSets 41 = .ok (.iload_n 1, 1) := by decide +kernel
theorem dX3_extendSets_42 : decode cX3_extendSets 42 = .ok (.invokestatic 94, 3) := by decide +kernel
theorem dX3_extendSets_45 : decode cX3_extendSets 45 = .ok (.ifCond .eq 14, 3) := by decide +kernel
theorem dX3_extendSets_48 : decode cX3_extendSets 48 = .ok (.aload_n 0, 1) := by decide +kernel
theorem dX3_extendSets_49 : decode cX3_extendSets 49 = .ok (.getfield 37, 3) := by decide +kernel
theorem dX3_extendSets_52 : decode cX3_extendSets 52 = .ok (.iload_n 2, 1) := by decide +kernel
theorem dX3_extendSets_53 : decode cX3_extendSets 53 = .ok (.iconst 1, 1) := by decide +kernel
theorem dX3_extendSets_54 : decode cX3_extendSets 54 = .ok (.iload_n 3, 1) := by decide +kernel
theorem dX3_extendSets_55 : decode cX3_extendSets 55 = .ok (.ishl, 1) := by decide +kernel
theorem dX3_extendSets_56 : decode cX3_extendSets 56 = .ok (.ior, 1) := by decide +kernel
theorem dX3_extendSets_57 : decode cX3_extendSets 57 = .ok (.iconst 1, 1) := by decide +kernel
theorem dX3_extendSets_58 : decode cX3_extendSets 58 = .ok (.bastore, 1) := by decide +kernel
theorem dX3_extendSets_59 : decode cX3_extendSets 59 = .ok (.iinc 3 1, 3) := by decide +kernel
theorem dX3_extendSets_62 : decode cX3_extendSets 62 = .ok (.goto (-43), 3) := by decide +kernel
theorem dX3_extendSets_65 : decode cX3_extendSets 65 = .ok (.iinc 2 (-1), 3) := by decide +kernel
theorem dX3_extendSets_68 : decode cX3_extendSets 68 = .ok (.goto (-64), 3) := by decide +kernel
theorem dX3_extendSets_71 : decode cX3_extendSets 71 = .ok (.return_, 1) := by decide +kernel
theorem dX4_init_0 : decode cX4_init 0 = .ok (.aload_n 0, 1) := by decide +kernel
theorem dX4_init_1 : decode cX4_init 1 = .ok (.invokespecial 5, 3) := by decide +kernel
theorem dX4_init_4 : decode cX4_init 4 = .ok (.aload_n 0, 1) := by decide +kernel
theorem dX4_init_5 : decode cX4_init 5 = .ok (.bipush 60, 2) := by decide +kernel
theorem dX4_init_7 : decode cX4_init 7 = .ok (.newarray .char, 2) := by decide +kernel
theorem dX4_init_9 : decode cX4_init 9 = .ok (.putfield 11, 3) := by decide +kernel
theorem dX4_init_12 : decode cX4_init 12 = .ok (.aload_n 0, 1) := by decide +kernel
theorem dX4_init_13 : decode cX4_init 13 = .ok (.iconst 0, 1) := by decide +kernel
theorem dX4_init_14 : decode cX4_init 14 = .ok (.putfield 15, 3) := by decide +kernel
theorem dX4_init_17 : decode cX4_init 17 = .ok (.aload_n 0, 1) := by decide +kernel
theorem dX4_init_18 : decode cX4_init 18 = .ok (.iconst 0, 1) := by decide +kernel
theorem dX4_init_19 : decode cX4_init 19 = .ok (.putfield 19, 3) := by decide +kernel
theorem dX4_init_22 : decode cX4_init 22 = .ok (.aload_n 0, 1) := by decide +kernel
theorem dX4_init_23 : decode cX4_init 23 = .ok (.bipush 13, 2) := by decide +kernel
theorem dX4_init_25 : decode cX4_init 25 = .ok (.newarray .int, 2) := by decide +kernel
theorem dX4_init_27 : decode cX4_init 27 = .ok (.putfield 22, 3) := by decide +kernel
theorem dX4_init_30 : decode cX4_init 30 = .ok (.aload_n 0, 1) := by decide +kernel
theorem dX4_init_31 : decode cX4_init 31 = .ok (.bipush 13, 2) := by decide +kernel
theorem dX4_init_33 : decode cX4_init 33 = .ok (.iconst 4, 1) := by decide +kernel
theorem dX4_init_34 : decode cX4_init 34 = .ok (.multianewarray 26 2, 4) := by decide +kernel
theorem dX4_init_38 : decode cX4_init 38 = .ok (.putfield 28, 3) := by decide +kernel
theorem dX4_init_41 : decode cX4_init 41 = .ok (.return_, 1) := by decide +kernel
theorem dX4_isFull_0 : decode cX4_isFull 0 = .ok (.aload_n 0, 1) := by decide +kernel
theorem dX4_isFull_1 : decode cX4_isFull 1 = .ok (.getfield 15, 3) := by decide +kernel
theorem dX4_isFull_4 : decode cX4_isFull 4 = .ok (.bipush 60, 2) := by decide +kernel
theorem dX4_isFull_6 : decode cX4_isFull 6 = .ok (.if_icmp .lt 7, 3) := by decide +kernel
theorem dX4_isFull_9 : decode cX4_isFull 9 = .ok (.iconst 1, 1) := by decide +kernel
theorem dX4_isFull_10 : decode cX4_isFull 10 = .ok (.goto 4, 3) := by decide +kernel
theorem dX4_isFull_13 : decode cX4_isFull 13 = .ok (.iconst 0, 1) := by decide +kernel
theorem dX4_isFull_14 : decode cX4_isFull 14 = .ok (.ireturn, 1) := by decide +kernel
theorem dX4_extend_0 : decode cX4_extend 0 = .ok (.aload_n 0, 1) := by decide +kernel
theorem dX4_extend_1 : decode cX4_extend 1 = .ok (.getfield 15, 3) := by decide +kernel
theorem dX4_extend_4 : decode cX4_extend 4 = .ok (.bipush 60, 2) := by decide +kernel
theorem dX4_extend_6 : decode cX4_extend 6 = .ok (.if_icmp .ge 23, 3) := by decide +kernel
theorem dX4_extend_9 : decode cX4_extend 9 = .ok (.aload_n 0, 1) := by decide +kernel
theorem dX4_extend_10 : decode cX4_extend 10 = .ok (.getfield 11, 3) := by decide +kernel
theorem dX4_extend_13 : decode cX4_extend 13 = .ok (.aload_n 0, 1) := by decide +kernel
theorem dX4_extend_14 : decode cX4_extend 14 = .ok (.getfield 15, 3) := by decide +kernel
theorem dX4_extend_17 : decode cX4_extend 17 = .ok (.iload_n 1, 1) := by decide +kernel
theorem dX4_extend_18 : decode cX4_extend 18 = .ok (.castore, 1) := by decide +kernel
theorem dX4_extend_19 : decode cX4_extend 19 = .ok (.aload_n 0, 1) := by decide +kernel
theorem dX4_extend_20 : decode cX4_extend 20 = .ok (.dup, 1) := by decide +kernel
theorem dX4_extend_21 : decode cX4_extend 21 = .ok (.getfield 15, 3) := by decide +kernel
theorem dX4_extend_24 : decode cX4_extend 24 = .ok (.iconst 1, 1) := by decide +kernel
theorem dX4_extend_25 : decode cX4_extend 25 = .ok (.iadd, 1) := by decide +kernel
theorem dX4_extend_26 : decode cX4_extend 26 = .ok (.putfield 15, 3) := by decide +kernel
theorem dX4_extend_29 : decode cX4_extend 29 = .ok (.return_, 1) := by decide +kernel
theorem dX4_empty_0 : decode cX4_empty 0 = .ok (.aload_n 0, 1) := by decide +kernel
theorem dX4_empty_1 : decode cX4_empty 1 = .ok (.iconst 0, 1) := by decide +kernel
theorem dX4_empty_2 : decode cX4_empty 2 = .ok (.putfield 15, 3) := by decide +kernel
theorem dX4_empty_5 : decode cX4_empty 5 = .ok (.return_, 1) := by decide +kernel
theorem dX4_parse_0 : decode cX4_parse 0 = .ok (.iconst 0, 1) := by decide +kernel
theorem dX4_parse_1 : decode cX4_parse 1 = .ok (.istore_n 1, 1) := by decide +kernel
theorem dX4_parse_2 : decode cX4_parse 2 = .ok (.aload_n 0, 1) := by decide +kernel
theorem dX4_parse_3 : decode cX4_parse 3 = .ok (.iconst 0, 1) := by decide +kernel
theorem dX4_parse_4 : decode cX4_parse 4 = .ok (.putfield 19, 3) := by decide +kernel
theorem dX4_parse_7 : decode cX4_parse 7 = .ok (.iconst 0, 1) := by decide +kernel
theorem dX4_parse_8 : decode cX4_parse 8 = .ok (.istore_n 2, 1) := by decide +kernel
theorem dX4_parse_9 : decode cX4_parse 9 = .ok (.iload_n 2, 1) := by decide +kernel
theorem dX4_parse_10 : decode cX4_parse 10 = .ok (.bipush 13, 2) := by decide +kernel
theorem dX4_parse_12 : decode cX4_parse 12 = .ok (.if_icmp .ge 59, 3) := by decide +kernel
theorem dX4_parse_15 : decode cX4_parse 15 = .ok (.aload_n 0, 1) := by decide +kernel
theorem dX4_parse_16 : decode cX4_parse 16 = .ok (.iload_n 2, 1) := by decide +kernel
theorem dX4_parse_17 : decode cX4_parse 17 = .ok (.iload_n 1, 1) := by decide +kernel
theorem dX4_parse_18 : decode cX4_parse 18 = .ok (.invokevirtual 31, 3) := by decide +kernel
theorem dX4_parse_21 : decode cX4_parse 21 = .ok (.istore_n 3, 1) := by decide +kernel
theorem dX4_parse_22 : decode cX4_parse 22 = .ok (.iload_n 3, 1) := by decide +kernel
theorem dX4_parse_23 : decode cX4_parse 23 = .ok (.ifCond .ge 8, 3) := by decide +kernel
theorem dX4_parse_26 : decode cX4_parse 26 = .ok (.iload_n 3, 1) := by decide +kernel
theorem dX4_parse_27 : decode cX4_parse 27 = .ok (.invokestatic 35, 3) := by decide +kernel
theorem dX4_parse_30 : decode cX4_parse 30 = .ok (.ireturn, 1) := by decide +kernel
theorem dX4_parse_31 : decode cX4_parse 31 = .ok (.aload_n 0, 1) := by decide +kernel
theorem dX4_parse_32 : decode cX4_parse 32 = .ok (.iload_n 2, 1) := by decide +kernel
theorem dX4_parse_33 : decode cX4_parse 33 = .ok (.iconst 1, 1) := by decide +kernel
theorem dX4_parse_34 : decode cX4_parse 34 = .ok (.iadd, 1) := by decide +kernel
theorem dX4_parse_35 : decode cX4_parse 35 = .ok (.putfield 19, 3) := by decide +kernel
theorem dX4_parse_38 : decode cX4_parse 38 = .ok (.iload_n 3, 1) := by decide +kernel
theorem dX4_parse_39 : decode cX4_parse 39 = .ok (.aload_n 0, 1) := by decide +kernel
theorem dX4_parse_40 : decode cX4_parse 40 = .ok (.getfield 15, 3) := by decide +kernel
theorem dX4_parse_43 : decode cX4_parse 43 = .ok (.if_icmp .lt 5, 3) := by decide +kernel
theorem dX4_parse_46 : decode cX4_parse 46 = .ok (.iconst (-1), 1) := by decide +kernel
theorem dX4_parse_47 : decode cX4_parse 47 = .ok (.ireturn, 1) := by decide +kernel
theorem dX4_parse_48 : decode cX4_parse 48 = .ok (.aload_n 0, 1) := by decide +kernel
theorem dX4_parse_49 : decode cX4_parse 49 = .ok (.getfield 11, 3) := by decide +kernel
theorem dX4_parse_52 : decode cX4_parse 52 = .ok (.iload_n 3, 1) := by decide +kernel
theorem dX4_parse_53 : decode cX4_parse 53 = .ok (.caload, 1) := by decide +kernel
theorem dX4_parse_54 : decode cX4_parse 54 = .ok (.bipush 59, 2) := by decide +kernel
theorem dX4_parse_56 : decode cX4_parse 56 = .ok (.if_icmp .eq 5, 3) := by decide +kernel
theorem dX4_parse_59 : decode cX4_parse 59 = .ok (.iload_n 3, 1) := by decide +kernel
theorem dX4_parse_60 : decode cX4_parse 60 = .ok (.ireturn, 1) := by decide +kernel
theorem dX4_parse_61 : decode cX4_parse 61 = .ok (.iload_n 3, 1) := by decide +kernel
theorem dX4_parse_62 : decode cX4_parse 62 = .ok (.iconst 1, 1) := by decide +kernel
theorem dX4_parse_63 : decode cX4_parse 63 = .ok (.iadd, 1) := by decide +kernel
theorem dX4_parse_64 : decode cX4_parse 64 = .ok (.istore_n 1, 1) := by decide +kernel
theorem dX4_parse_65 : decode cX4_parse 65 = .ok (.iinc 2 1, 3) := by decide +kernel
theorem dX4_parse_68 : decode cX4_parse 68 = .ok (.goto (-59), 3) := by decide +kernel
theorem dX4_parse_71 : decode cX4_parse 71 = .ok (.iload_n 1, 1) := by decide +kernel
theorem dX4_parse_72 : decode cX4_parse 72 = .ok (.ireturn, 1) := by decide +kernel
theorem dX4_readCommand_0 : decode cX4_readCommand 0 = .ok (.iload_n 2, 1) := by decide +kernel
theorem dX4_readCommand_1 : decode cX4_readCommand 1 = .ok (.istore_n 3, 1) := by decide +kernel
theorem dX4_readCommand_2 : decode cX4_readCommand 2 = .ok (.iconst 0, 1) := by decide +kernel
theorem dX4_readCommand_3 : decode cX4_readCommand 3 = .ok (.istore 4, 2) := by decide +kernel
theorem dX4_readCommand_5 : decode cX4_readCommand 5 = .ok (.iload 4, 2) := by decide +kernel
theorem dX4_readCommand_7 : decode cX4_readCommand 7 = .ok (.bipush 10, 2) := by decide +kernel
theorem dX4_readCommand_9 : decode cX4_readCommand 9 = .ok (.if_icmp .ge 48, 3) := by decide +kernel
theorem dX4_readCommand_12 : decode cX4_readCommand 12 = .ok (.aload_n 0, 1) := by decide +kernel
theorem dX4_readCommand_13 : decode cX4_readCommand 13 = .ok (.iload 4, 2) := by decide +kernel
theorem dX4_readCommand_15 : decode cX4_readCommand 15 = .ok (.invokestatic 39, 3) := by decide +kernel
theorem dX4_readCommand_18 : decode cX4_readCommand 18 = .ok (.iload_n 1, 1) := by decide +kernel
theorem dX4_readCommand_19 : decode cX4_readCommand 19 = .ok (.iload_n 2, 1) := by decide +kernel
theorem dX4_readCommand_20 : decode cX4_readCommand 20 = .ok (.invokevirtual 43, 3) := by decide +kernel
theorem dX4_readCommand_23 : decode cX4_readCommand 23 = .ok (.istore 5, 2) := by decide +kernel
theorem dX4_readCommand_25 : decode cX4_readCommand 25 = .ok (.iload 5, 2) := by decide +kernel
theorem dX4_readCommand_27 : decode cX4_readCommand 27 = .ok (.ifCond .lt 14, 3) := by decide +kernel
theorem dX4_readCommand_30 : decode cX4_readCommand 30 = .ok (.aload_n 0, 1) := by decide +kernel
theorem dX4_readCommand_31 : decode cX4_readCommand 31 = .ok (.getfield 22, 3) := by decide +kernel
theorem dX4_readCommand_34 : decode cX4_readCommand 34 = .ok (.iload_n 1, 1) := by decide +kernel
theorem dX4_readCommand_35 : decode cX4_readCommand 35 = .ok (.iload 4, 2) := by decide +kernel
theorem dX4_readCommand_37 : decode cX4_readCommand 37 = .ok (.iastore, 1) := by decide +kernel
theorem dX4_readCommand_38 : decode cX4_readCommand 38 = .ok (.iload 5, 2) := by decide +kernel
theorem dX4_readCommand_40 : decode cX4_readCommand 40 = .ok (.ireturn, 1) := by decide +kernel
theorem dX4_readCommand_41 : decode cX4_readCommand 41 = .ok (.iload_n 3, 1) := by decide +kernel
theorem dX4_readCommand_42 : decode cX4_readCommand 42 = .ok (.iload 5, 2) := by decide +kernel
theorem dX4_readCommand_44 : decode cX4_readCommand 44 = .ok (.invokestatic 35, 3) := by decide +kernel
theorem dX4_readCommand_47 : decode cX4_readCommand 47 = .ok (.invokestatic 47, 3) := by decide +kernel
theorem dX4_readCommand_50 : decode cX4_readCommand 50 = .ok (.istore_n 3, 1) := by decide +kernel
theorem dX4_readCommand_51 : decode cX4_readCommand 51 = .ok (.iinc 4 1, 3) := by decide +kernel
theorem dX4_readCommand_54 : decode cX4_readCommand 54 = .ok (.goto (-49), 3) := by decide +kernel
theorem dX4_readCommand_57 : decode cX4_readCommand 57 = .ok (.iload_n 3, 1) := by decide +kernel
theorem dX4_readCommand_58 : decode cX4_readCommand 58 = .ok (.invokestatic 52, 3) := by decide +kernel
theorem dX4_readCommand_61 : decode cX4_readCommand 61 = .ok (.ireturn, 1) := by decide +kernel
theorem dX4_match_0 : decode cX4_match 0 = .ok (.iload_n 3, 1) := by decide +kernel
theorem dX4_match_1 : decode cX4_match 1 = .ok (.istore 4, 2) := by decide +kernel
theorem dX4_match_3 : decode cX4_match 3 = .ok (.iconst 0, 1) := by decide +kernel
theorem dX4_match_4 : decode cX4_match 4 = .ok (.istore 5, 2) := by decide +kernel
theorem dX4_match_6 : decode cX4_match 6 = .ok (.iconst 0, 1) := by decide +kernel
theorem dX4_match_7 : decode cX4_match 7 = .ok (.istore 6, 2) := by decide +kernel
theorem dX4_match_9 : decode cX4_match 9 = .ok (.iload 6, 2) := by decide +kernel
theorem dX4_match_11 : decode cX4_match 11 = .ok (.aload_n 1, 1) := by decide +kernel
theorem dX4_match_12 : decode cX4_match 12 = .ok (.invokevirtual 55, 3) := by decide +kernel
theorem dX4_match_15 : decode cX4_match 15 = .ok (.if_icmp .ge 154, 3) := by decide +kernel
theorem dX4_match_18 : decode cX4_match 18 = .ok (.aload_n 1, 1) := by decide +kernel
theorem dX4_match_19 : decode cX4_match 19 = .ok (.iload 6, 2) := by decide +kernel
theorem dX4_match_21 : decode cX4_match 21 = .ok (.invokevirtual 60, 3) := by decide +kernel
theorem dX4_match_24 : decode cX4_match 24 = .ok (.istore 7, 2) := by decide +kernel
theorem dX4_match_26 : decode cX4_match 26 = .ok (.iload 4, 2) := by decide +kernel
theorem dX4_match_28 : decode cX4_match 28 = .ok (.aload_n 0, 1) := by decide +kernel
theorem dX4_match_29 : decode cX4_match 29 = .ok (.getfield 15, 3) := by decide +kernel
theorem dX4_match_32 : decode cX4_match 32 = .ok (.if_icmp .ge 18, 3) := by decide +kernel
theorem dX4_match_35 : decode cX4_match 35 = .ok (.iload 7, 2) := by decide +kernel
theorem dX4_match_37 : decode cX4_match 37 = .ok (.aload_n 0, 1) := by decide +kernel
theorem dX4_match_38 : decode cX4_match 38 = .ok (.getfield 11, 3) := by decide +kernel
theorem dX4_match_41 : decode cX4_match 41 = .ok (.iload 4, 2) := by decide +kernel
theorem dX4_match_43 : decode cX4_match 43 = .ok (.caload, 1) := by decide +kernel
theorem dX4_match_44 : decode cX4_match 44 = .ok (.invokestatic 64, 3) := by decide +kernel
theorem dX4_match_47 : decode cX4_match 47 = .ok (.ifCond .ne 9, 3) := by decide +kernel
theorem dX4_match_50 : decode cX4_match 50 = .ok (.iload 4, 2) := by decide +kernel
theorem dX4_match_52 : decode cX4_match 52 = .ok (.invokestatic 52, 3) := by decide +kernel
theorem dX4_match_55 : decode cX4_match 55 = .ok (.ireturn, 1) := by decide +kernel
theorem dX4_match_56 : decode cX4_match 56 = .ok (.aload_n 0, 1) := by decide +kernel
theorem dX4_match_57 : decode cX4_match 57 = .ok (.getfield 11, 3) := by decide +kernel
theorem dX4_match_60 : decode cX4_match 60 = .ok (.iload 4, 2) := by decide +kernel
theorem dX4_match_62 : decode cX4_match 62 = .ok (.caload, 1) := by decide +kernel
theorem dX4_match_63 : decode cX4_match 63 = .ok (.istore 8, 2) := by decide +kernel
theorem dX4_match_65 : decode cX4_match 65 = .ok (.iinc 4 1, 3) := by decide +kernel
theorem dX4_match_68 : decode cX4_match 68 = .ok (.iload 7, 2) := by decide +kernel
theorem dX4_match_70 : decode cX4_match 70 = .ok (.bipush 68, 2) := by decide +kernel
theorem dX4_match_72 : decode cX4_match 72 = .ok (.if_icmp .eq 10, 3) := by decide +kernel
theorem dX4_match_75 : decode cX4_match 75 = .ok (.iload 7, 2) := by decide +kernel
theorem dX4_match_77 : decode cX4_match 77 = .ok (.bipush 78, 2) := by decide +kernel
theorem dX4_match_79 : decode cX4_match 79 = .ok (.if_icmp .ne 6, 3) := by decide +kernel
theorem dX4_match_82 : decode cX4_match 82 = .ok (.iinc 8 (-48), 3) := by decide +kernel
theorem dX4_match_85 : decode cX4_match 85 = .ok (.iload 7, 2) := by decide +kernel
theorem dX4_match_87 : decode cX4_match 87 = .ok (.bipush 78, 2) := by decide +kernel
theorem dX4_match_89 : decode cX4_match 89 = .ok (.if_icmp .ne 46, 3) := by decide +kernel
theorem dX4_match_92 : decode cX4_match 92 = .ok (.iload 4, 2) := by decide +kernel
theorem dX4_match_94 : decode cX4_match 94 = .ok (.aload_n 0, 1) := by decide +kernel
theorem dX4_match_95 : decode cX4_match 95 = .ok (.getfield 15, 3) := by decide +kernel
theorem dX4_match_98 : decode cX4_match 98 = .ok (.if_icmp .ge 37, 3) := by decide +kernel
theorem dX4_match_101 : decode cX4_match 101 = .ok (.aload_n 0, 1) := by decide +kernel
theorem dX4_match_102 : decode cX4_match 102 = .ok (.getfield 11, 3) := by decide +kernel
theorem dX4_match_105 : decode cX4_match 105 = .ok (.iload 4, 2) := by decide +kernel
theorem dX4_match_107 : decode cX4_match 107 = .ok (.caload, 1) := by decide +kernel
theorem dX4_match_108 : decode cX4_match 108 = .ok (.invokestatic 68, 3) := by decide +kernel
theorem dX4_match_111 : decode cX4_match 111 = .ok (.ifCond .eq 24, 3) := by decide +kernel
theorem dX4_match_114 : decode cX4_match 114 = .ok (.iload 8, 2) := by decide +kernel
theorem dX4_match_116 : decode cX4_match 116 = .ok (.bipush 10, 2) := by decide +kernel
theorem dX4_match_118 : decode cX4_match 118 = .ok (.imul, 1) := by decide +kernel
theorem dX4_match_119 : decode cX4_match 119 = .ok (.aload_n 0, 1) := by decide +kernel
theorem dX4_match_120 : decode cX4_match 120 = .ok (.getfield 11, 3) := by decide +kernel
theorem dX4_match_123 : decode cX4_match 123 = .ok (.iload 4, 2) := by decide +kernel
theorem dX4_match_125 : decode cX4_match 125 = .ok (.caload, 1) := by decide +kernel
theorem dX4_match_126 : decode cX4_match 126 = .ok (.iadd, 1) := by decide +kernel
theorem dX4_match_127 : decode cX4_match 127 = .ok (.bipush 48, 2) := by decide +kernel
theorem dX4_match_129 : decode cX4_match 129 = .ok (.isub, 1) := by decide +kernel
theorem dX4_match_130 : decode cX4_match 130 = .ok (.istore 8, 2) := by decide +kernel
theorem dX4_match_132 : decode cX4_match 132 = .ok (.iinc 4 1, 3) := by decide +kernel
theorem dX4_match_135 : decode cX4_match 135 = .ok (.iload 7, 2) := by decide +kernel
theorem dX4_match_137 : decode cX4_match 137 = .ok (.invokestatic 72, 3) := by decide +kernel
theorem dX4_match_140 : decode cX4_match 140 = .ok (.ifCond .eq 23, 3) := by decide +kernel
theorem dX4_match_143 : decode cX4_match 143 = .ok (.iload 5, 2) := by decide +kernel
theorem dX4_match_145 : decode cX4_match 145 = .ok (.iconst 4, 1) := by decide +kernel
theorem dX4_match_146 : decode cX4_match 146 = .ok (.if_icmp .ge 17, 3) := by decide +kernel
theorem dX4_match_149 : decode cX4_match 149 = .ok (.aload_n 0, 1) := by decide +kernel
theorem dX4_match_150 : decode cX4_match 150 = .ok (.getfield 28, 3) := by decide +kernel
theorem dX4_match_153 : decode cX4_match 153 = .ok (.iload_n 2, 1) := by decide +kernel
theorem dX4_match_154 : decode cX4_match 154 = .ok (.aaload, 1) := by decide +kernel
theorem dX4_match_155 : decode cX4_match 155 = .ok (.iload 5, 2) := by decide +kernel
theorem dX4_match_157 : decode cX4_match 157 = .ok (.iload 8, 2) := by decide +kernel
theorem dX4_match_159 : decode cX4_match 159 = .ok (.iastore, 1) := by decide +kernel
theorem dX4_match_160 : decode cX4_match 160 = .ok (.iinc 5 1, 3) := by decide +kernel
theorem dX4_match_163 : decode cX4_match 163 = .ok (.iinc 6 1, 3) := by decide +kernel
theorem dX4_match_166 : decode cX4_match 166 = .ok (.goto (-157), 3) := by decide +kernel
theorem dX4_match_169 : decode cX4_match 169 = .ok (.iload 4, 2) := by decide +kernel
theorem dX4_match_171 : decode cX4_match 171 = .ok (.ireturn, 1) := by decide +kernel
theorem dX4_shapeOf_0 : decode cX4_shapeOf 0 = .ok (.iload_n 0, 1) := by decide +kernel
theorem dX4_shapeOf_1 : decode cX4_shapeOf 1 = .ok (.tableswitch 78 0 8 #[51, 54, 57, 60, 63, 66, 69, 72, 75], 51) := by decide +kernel
theorem dX4_shapeOf_52 : decode cX4_shapeOf 52 = .ok (.ldc 75, 2) := by decide +kernel
theorem dX4_shapeOf_54 : decode cX4_shapeOf 54 = .ok (.areturn, 1) := by decide +kernel
theorem dX4_shapeOf_55 : decode cX4_shapeOf 55 = .ok (.ldc 77, 2) := by decide +kernel
theorem dX4_shapeOf_57 : decode cX4_shapeOf 57 = .ok (.areturn, 1) := by decide +kernel
theorem dX4_shapeOf_58 : decode cX4_shapeOf 58 = .ok (.ldc 79, 2) := by decide +kernel
theorem dX4_shapeOf_60 : decode cX4_shapeOf 60 = .ok (.areturn, 1) := by decide +kernel
theorem dX4_shapeOf_61 : decode cX4_shapeOf 61 = .ok (.ldc 81, 2) := by decide +kernel
theorem dX4_shapeOf_63 : decode cX4_shapeOf 63 = .ok (.areturn, 1) := by decide +kernel
theorem dX4_shapeOf_64 : decode cX4_shapeOf 64 = .ok (.ldc 83, 2) := by decide +kernel
theorem dX4_shapeOf_66 : decode cX4_shapeOf 66 = .ok (.areturn, 1) := by decide +kernel
theorem dX4_shapeOf_67 : decode cX4_shapeOf 67 = .ok (.ldc 85, 2) := by decide +kernel
theorem dX4_shapeOf_69 : decode cX4_shapeOf 69 = .ok (.areturn, 1) := by decide +kernel
theorem dX4_shapeOf_70 : decode cX4_shapeOf 70 = .ok (.ldc 87, 2) := by decide +kernel
theorem dX4_shapeOf_72 : decode cX4_shapeOf 72 = .ok (.areturn, 1) := by decide +kernel
theorem dX4_shapeOf_73 : decode cX4_shapeOf 73 = .ok (.ldc 89, 2) := by decide +kernel
theorem dX4_shapeOf_75 : decode cX4_shapeOf 75 = .ok (.areturn, 1) := by decide +kernel
theorem dX4_shapeOf_76 : decode cX4_shapeOf 76 = .ok (.ldc 91, 2) := by decide +kernel
theorem dX4_shapeOf_78 : decode cX4_shapeOf 78 = .ok (.areturn, 1) := by decide +kernel
theorem dX4_shapeOf_79 : decode cX4_shapeOf 79 = .ok (.ldc 93, 2) := by decide +kernel
theorem dX4_shapeOf_81 : decode cX4_shapeOf 81 = .ok (.areturn, 1) := by decide +kernel
theorem dX4_fits_0 : decode cX4_fits 0 = .ok (.iload_n 0, 1) := by decide +kernel
theorem dX4_fits_1 : decode cX4_fits 1 = .ok (.bipush 70, 2) := by decide +kernel
theorem dX4_fits_3 : decode cX4_fits 3 = .ok (.if_icmp .ne 8, 3) := by decide +kernel
theorem dX4_fits_6 : decode cX4_fits 6 = .ok (.iload_n 1, 1) := by decide +kernel
theorem dX4_fits_7 : decode cX4_fits 7 = .ok (.invokestatic 95, 3) := by decide +kernel
theorem dX4_fits_10 : decode cX4_fits 10 = .ok (.ireturn, 1) := by decide +kernel
theorem dX4_fits_11 : decode cX4_fits 11 = .ok (.iload_n 0, 1) := by decide +kernel
theorem dX4_fits_12 : decode cX4_fits 12 = .ok (.bipush 68, 2) := by decide +kernel
theorem dX4_fits_14 : decode cX4_fits 14 = .ok (.if_icmp .eq 9, 3) := by decide +kernel
theorem dX4_fits_17 : decode cX4_fits 17 = .ok (.iload_n 0, 1) := by decide +kernel
theorem dX4_fits_18 : decode cX4_fits 18 = .ok (.bipush 78, 2) := by decide +kernel
theorem dX4_fits_20 : decode cX4_fits 20 = .ok (.if_icmp .ne 8, 3) := by decide +kernel
theorem dX4_fits_23 : decode cX4_fits 23 = .ok (.iload_n 1, 1) := by decide +kernel
theorem dX4_fits_24 : decode cX4_fits 24 = .ok (.invokestatic 68, 3) := by decide +kernel
theorem dX4_fits_27 : decode cX4_fits 27 = .ok (.ireturn, 1) := by decide +kernel
theorem dX4_fits_28 : decode cX4_fits 28 = .ok (.iload_n 0, 1) := by decide +kernel
theorem dX4_fits_29 : decode cX4_fits 29 = .ok (.iload_n 1, 1) := by decide +kernel
theorem dX4_fits_30 : decode cX4_fits 30 = .ok (.if_icmp .ne 7, 3) := by decide +kernel
theorem dX4_fits_33 : decode cX4_fits 33 = .ok (.iconst 1, 1) := by decide +kernel
theorem dX4_fits_34 : decode cX4_fits 34 = .ok (.goto 4, 3) := by decide +kernel
theorem dX4_fits_37 : decode cX4_fits 37 = .ok (.iconst 0, 1) := by decide +kernel
theorem dX4_fits_38 : decode cX4_fits 38 = .ok (.ireturn, 1) := by decide +kernel
theorem dX4_isOperand_0 : decode cX4_isOperand 0 = .ok (.iload_n 0, 1) := by decide +kernel
theorem dX4_isOperand_1 : decode cX4_isOperand 1 = .ok (.bipush 70, 2) := by decide +kernel
theorem dX4_isOperand_3 : decode cX4_isOperand 3 = .ok (.if_icmp .eq 15, 3) := by decide +kernel
theorem dX4_isOperand_6 : decode cX4_isOperand 6 = .ok (.iload_n 0, 1) := by decide +kernel
theorem dX4_isOperand_7 : decode cX4_isOperand 7 = .ok (.bipush 68, 2) := by decide +kernel
theorem dX4_isOperand_9 : decode cX4_isOperand 9 = .ok (.if_icmp .eq 9, 3) := by decide +kernel
theorem dX4_isOperand_12 : decode cX4_isOperand 12 = .ok (.iload_n 0, 1) := by decide +kernel
theorem dX4_isOperand_13 : decode cX4_isOperand 13 = .ok (.bipush 78, 2) := by decide +kernel
theorem dX4_isOperand_15 : decode cX4_isOperand 15 = .ok (.if_icmp .ne 7, 3) := by decide +kernel
theorem dX4_isOperand_18 : decode cX4_isOperand 18 = .ok (.iconst 1, 1) := by decide +kernel
theorem dX4_isOperand_19 : decode cX4_isOperand 19 = .ok (.goto 4, 3) := by decide +kernel
theorem dX4_isOperand_22 : decode cX4_isOperand 22 = .ok (.iconst 0, 1) := by decide +kernel
theorem dX4_isOperand_23 : decode cX4_isOperand 23 = .ok (.ireturn, 1) := by decide +kernel
theorem dX4_isDigit_0 : decode cX4_isDigit 0 = .ok (.iload_n 0, 1) := by decide +kernel
theorem dX4_isDigit_1 : decode cX4_isDigit 1 = .ok (.bipush 48, 2) := by decide +kernel
theorem dX4_isDigit_3 : decode cX4_isDigit 3 = .ok (.if_icmp .lt 13, 3) := by decide +kernel
theorem dX4_isDigit_6 : decode cX4_isDigit 6 = .ok (.iload_n 0, 1) := by decide +kernel
theorem dX4_isDigit_7 : decode cX4_isDigit 7 = .ok (.bipush 57, 2) := by decide +kernel
theorem dX4_isDigit_9 : decode cX4_isDigit 9 = .ok (.if_icmp .gt 7, 3) := by decide +kernel
theorem dX4_isDigit_12 : decode cX4_isDigit 12 = .ok (.iconst 1, 1) := by decide +kernel
theorem dX4_isDigit_13 : decode cX4_isDigit 13 = .ok (.goto 4, 3) := by decide +kernel
theorem dX4_isDigit_16 : decode cX4_isDigit 16 = .ok (.iconst 0, 1) := by decide +kernel
theorem dX4_isDigit_17 : decode cX4_isDigit 17 = .ok (.ireturn, 1) := by decide +kernel
theorem dX4_errorAt_0 : decode cX4_errorAt 0 = .ok (.iconst (-1), 1) := by decide +kernel
theorem dX4_errorAt_1 : decode cX4_errorAt 1 = .ok (.iload_n 0, 1) := by decide +kernel
theorem dX4_errorAt_2 : decode cX4_errorAt 2 = .ok (.isub, 1) := by decide +kernel
theorem dX4_errorAt_3 : decode cX4_errorAt 3 = .ok (.ireturn, 1) := by decide +kernel
theorem dX4_errorOf_0 : decode cX4_errorOf 0 = .ok (.iconst (-1), 1) := by decide +kernel
theorem dX4_errorOf_1 : decode cX4_errorOf 1 = .ok (.iload_n 0, 1) := by decide +kernel
theorem dX4_errorOf_2 : decode cX4_errorOf 2 = .ok (.isub, 1) := by decide +kernel
theorem dX4_errorOf_3 : decode cX4_errorOf 3 = .ok (.ireturn, 1) := by decide +kernel
theorem dX5_init_0 : decode cX5_init 0 = .ok (.aload_n 0, 1) := by decide +kernel
theorem dX5_init_1 : decode cX5_init 1 = .ok (.invokespecial 3, 3) := by decide +kernel
theorem dX5_init_4 : decode cX5_init 4 = .ok (.aload_n 0, 1) := by decide +kernel
theorem dX5_init_5 : decode cX5_init 5 = .ok (.iconst 0, 1) := by decide +kernel
theorem dX5_init_6 : decode cX5_init 6 = .ok (.putfield 9, 3) := by decide +kernel
theorem dX5_init_9 : decode cX5_init 9 = .ok (.aload_n 0, 1) := by decide +kernel
theorem dX5_init_10 : decode cX5_init 10 = .ok (.iconst 0, 1) := by decide +kernel
theorem dX5_init_11 : decode cX5_init 11 = .ok (.putfield 15, 3) := by decide +kernel
theorem dX5_init_14 : decode cX5_init 14 = .ok (.aload_n 0, 1) := by decide +kernel
theorem dX5_init_15 : decode cX5_init 15 = .ok (.iconst 0, 1) := by decide +kernel
theorem dX5_init_16 : decode cX5_init 16 = .ok (.putfield 18, 3) := by decide +kernel
theorem dX5_init_19 : decode cX5_init 19 = .ok (.aload_n 0, 1) := by decide +kernel
theorem dX5_init_20 : decode cX5_init 20 = .ok (.iconst 0, 1) := by decide +kernel
theorem dX5_init_21 : decode cX5_init 21 = .ok (.putfield 21, 3) := by decide +kernel
theorem dX5_init_24 : decode cX5_init 24 = .ok (.aload_n 0, 1) := by decide +kernel
theorem dX5_init_25 : decode cX5_init 25 = .ok (.bipush 8, 2) := by decide +kernel
theorem dX5_init_27 : decode cX5_init 27 = .ok (.newarray .char, 2) := by decide +kernel
theorem dX5_init_29 : decode cX5_init 29 = .ok (.putfield 24, 3) := by decide +kernel
theorem dX5_init_32 : decode cX5_init 32 = .ok (.aload_n 0, 1) := by decide +kernel
theorem dX5_init_33 : decode cX5_init 33 = .ok (.bipush 8, 2) := by decide +kernel
theorem dX5_init_35 : decode cX5_init 35 = .ok (.newarray .int, 2) := by decide +kernel
theorem dX5_init_37 : decode cX5_init 37 = .ok (.putfield 28, 3) := by decide +kernel
theorem dX5_init_40 : decode cX5_init 40 = .ok (.aload_n 0, 1) := by decide +kernel
theorem dX5_init_41 : decode cX5_init 41 = .ok (.iconst 0, 1) := by decide +kernel
theorem dX5_init_42 : decode cX5_init 42 = .ok (.putfield 32, 3) := by decide +kernel
theorem dX5_init_45 : decode cX5_init 45 = .ok (.aload_n 0, 1) := by decide +kernel
theorem dX5_init_46 : decode cX5_init 46 = .ok (.bipush 6, 2) := by decide +kernel
theorem dX5_init_48 : decode cX5_init 48 = .ok (.newarray .char, 2) := by decide +kernel
theorem dX5_init_50 : decode cX5_init 50 = .ok (.putfield 35, 3) := by decide +kernel
theorem dX5_init_53 : decode cX5_init 53 = .ok (.aload_n 0, 1) := by decide +kernel
theorem dX5_init_54 : decode cX5_init 54 = .ok (.bipush 6, 2) := by decide +kernel
theorem dX5_init_56 : decode cX5_init 56 = .ok (.newarray .int, 2) := by decide +kernel
theorem dX5_init_58 : decode cX5_init 58 = .ok (.putfield 38, 3) := by decide +kernel
theorem dX5_init_61 : decode cX5_init 61 = .ok (.aload_n 0, 1) := by decide +kernel
theorem dX5_init_62 : decode cX5_init 62 = .ok (.bipush 6, 2) := by decide +kernel
theorem dX5_init_64 : decode cX5_init 64 = .ok (.newarray .int, 2) := by decide +kernel
theorem dX5_init_66 : decode cX5_init 66 = .ok (.putfield 41, 3) := by decide +kernel
theorem dX5_init_69 : decode cX5_init 69 = .ok (.aload_n 0, 1) := by decide +kernel
theorem dX5_init_70 : decode cX5_init 70 = .ok (.bipush 6, 2) := by decide +kernel
theorem dX5_init_72 : decode cX5_init 72 = .ok (.newarray .int, 2) := by decide +kernel
theorem dX5_init_74 : decode cX5_init 74 = .ok (.putfield 44, 3) := by decide +kernel
theorem dX5_init_77 : decode cX5_init 77 = .ok (.aload_n 0, 1) := by decide +kernel
theorem dX5_init_78 : decode cX5_init 78 = .ok (.bipush 6, 2) := by decide +kernel
theorem dX5_init_80 : decode cX5_init 80 = .ok (.newarray .int, 2) := by decide +kernel
theorem dX5_init_82 : decode cX5_init 82 = .ok (.putfield 47, 3) := by decide +kernel
theorem dX5_init_85 : decode cX5_init 85 = .ok (.aload_n 0, 1) := by decide +kernel
theorem dX5_init_86 : decode cX5_init 86 = .ok (.bipush 6, 2) := by decide +kernel
theorem dX5_init_88 : decode cX5_init 88 = .ok (.newarray .int, 2) := by decide +kernel
theorem dX5_init_90 : decode cX5_init 90 = .ok (.putfield 50, 3) := by decide +kernel
theorem dX5_init_93 : decode cX5_init 93 = .ok (.aload_n 0, 1) := by decide +kernel
theorem dX5_init_94 : decode cX5_init 94 = .ok (.bipush 6, 2) := by decide +kernel
theorem dX5_init_96 : decode cX5_init 96 = .ok (.bipush 8, 2) := by decide +kernel
theorem dX5_init_98 : decode cX5_init 98 = .ok (.multianewarray 53 2, 4) := by decide +kernel
theorem dX5_init_102 : decode cX5_init 102 = .ok (.putfield 55, 3) := by decide +kernel
theorem dX5_init_105 : decode cX5_init 105 = .ok (.aload_n 0, 1) := by decide +kernel
theorem dX5_init_106 : decode cX5_init 106 = .ok (.bipush 10, 2) := by decide +kernel
theorem dX5_init_108 : decode cX5_init 108 = .ok (.putfield 58, 3) := by decide +kernel
theorem dX5_init_111 : decode cX5_init 111 = .ok (.aload_n 0, 1) := by decide +kernel
theorem dX5_init_112 : decode cX5_init 112 = .ok (.iconst 0, 1) := by decide +kernel
theorem dX5_init_113 : decode cX5_init 113 = .ok (.putfield 61, 3) := by decide +kernel
theorem dX5_init_116 : decode cX5_init 116 = .ok (.aload_n 0, 1) := by decide +kernel
theorem dX5_init_117 : decode cX5_init 117 = .ok (.bipush 8, 2) := by decide +kernel
theorem dX5_init_119 : decode cX5_init 119 = .ok (.newarray .int, 2) := by decide +kernel
theorem dX5_init_121 : decode cX5_init 121 = .ok (.putfield 64, 3) := by decide +kernel
theorem dX5_init_124 : decode cX5_init 124 = .ok (.iconst 0, 1) := by decide +kernel
theorem dX5_init_125 : decode cX5_init 125 = .ok (.istore_n 1, 1) := by decide +kernel
theorem dX5_init_126 : decode cX5_init 126 = .ok (.iload_n 1, 1) := by decide +kernel
theorem dX5_init_127 : decode cX5_init 127 = .ok (.bipush 6, 2) := by decide +kernel
theorem dX5_init_129 : decode cX5_init 129 = .ok (.if_icmp .ge 32, 3) := by decide +kernel
theorem dX5_init_132 : decode cX5_init 132 = .ok (.iconst 0, 1) := by decide +kernel
theorem dX5_init_133 : decode cX5_init 133 = .ok (.istore_n 2, 1) := by decide +kernel
theorem dX5_init_134 : decode cX5_init 134 = .ok (.iload_n 2, 1) := by decide +kernel
theorem dX5_init_135 : decode cX5_init 135 = .ok (.bipush 8, 2) := by decide +kernel
theorem dX5_init_137 : decode cX5_init 137 = .ok (.if_icmp .ge 18, 3) := by decide +kernel
theorem dX5_init_140 : decode cX5_init 140 = .ok (.aload_n 0, 1) := by decide +kernel
theorem dX5_init_141 : decode cX5_init 141 = .ok (.getfield 55, 3) := by decide +kernel
theorem dX5_init_144 : decode cX5_init 144 = .ok (.iload_n 1, 1) := by decide +kernel
theorem dX5_init_145 : decode cX5_init 145 = .ok (.aaload, 1) := by decide +kernel
theorem dX5_init_146 : decode cX5_init 146 = .ok (.iload_n 2, 1) := by decide +kernel
theorem dX5_init_147 : decode cX5_init 147 = .ok (.iconst (-1), 1) := by decide +kernel
theorem dX5_init_148 : decode cX5_init 148 = .ok (.iastore, 1) := by decide +kernel
theorem dX5_init_149 : decode cX5_init 149 = .ok (.iinc 2 1, 3) := by decide +kernel
theorem dX5_init_152 : decode cX5_init 152 = .ok (.goto (-18), 3) := by decide +kernel
theorem dX5_init_155 : decode cX5_init 155 = .ok (.iinc 1 1, 3) := by decide +kernel
theorem dX5_init_158 : decode cX5_init 158 = .ok (.goto (-32), 3) := by decide +kernel
theorem dX5_init_161 : decode cX5_init 161 = .ok (.return_, 1) := by decide +kernel
theorem dX5_copyFrom_0 : decode cX5_copyFrom 0 = .ok (.aload_n 0, 1) := by decide +kernel
theorem dX5_copyFrom_1 : decode cX5_copyFrom 1 = .ok (.aload_n 1, 1) := by decide +kernel
theorem dX5_copyFrom_2 : decode cX5_copyFrom 2 = .ok (.getfield 9, 3) := by decide +kernel
theorem dX5_copyFrom_5 : decode cX5_copyFrom 5 = .ok (.putfield 9, 3) := by decide +kernel
theorem dX5_copyFrom_8 : decode cX5_copyFrom 8 = .ok (.aload_n 0, 1) := by decide +kernel
theorem dX5_copyFrom_9 : decode cX5_copyFrom 9 = .ok (.aload_n 1, 1) := by decide +kernel
theorem dX5_copyFrom_10 : decode cX5_copyFrom 10 = .ok (.getfield 15, 3) := by decide +kernel
theorem dX5_copyFrom_13 : decode cX5_copyFrom 13 = .ok (.putfield 15, 3) := by decide +kernel
theorem dX5_copyFrom_16 : decode cX5_copyFrom 16 = .ok (.aload_n 0, 1) := by decide +kernel
theorem dX5_copyFrom_17 : decode cX5_copyFrom 17 = .ok (.aload_n 1, 1) := by decide +kernel
theorem dX5_copyFrom_18 : decode cX5_copyFrom 18 = .ok (.getfield 18, 3) := by decide +kernel
theorem dX5_copyFrom_21 : decode cX5_copyFrom 21 = .ok (.putfield 18, 3) := by decide +kernel
theorem dX5_copyFrom_24 : decode cX5_copyFrom 24 = .ok (.aload_n 0, 1) := by decide +kernel
theorem dX5_copyFrom_25 : decode cX5_copyFrom 25 = .ok (.aload_n 1, 1) := by decide +kernel
theorem dX5_copyFrom_26 : decode cX5_copyFrom 26 = .ok (.getfield 58, 3) := by decide +kernel
theorem dX5_copyFrom_29 : decode cX5_copyFrom 29 = .ok (.putfield 58, 3) := by decide +kernel
theorem dX5_copyFrom_32 : decode cX5_copyFrom 32 = .ok (.aload_n 0, 1) := by decide +kernel
theorem dX5_copyFrom_33 : decode cX5_copyFrom 33 = .ok (.aload_n 1, 1) := by decide +kernel
theorem dX5_copyFrom_34 : decode cX5_copyFrom 34 = .ok (.getfield 21, 3) := by decide +kernel
theorem dX5_copyFrom_37 : decode cX5_copyFrom 37 = .ok (.putfield 21, 3) := by decide +kernel
theorem dX5_copyFrom_40 : decode cX5_copyFrom 40 = .ok (.aload_n 0, 1) := by decide +kernel
theorem dX5_copyFrom_41 : decode cX5_copyFrom 41 = .ok (.aload_n 1, 1) := by decide +kernel
theorem dX5_copyFrom_42 : decode cX5_copyFrom 42 = .ok (.getfield 32, 3) := by decide +kernel
theorem dX5_copyFrom_45 : decode cX5_copyFrom 45 = .ok (.putfield 32, 3) := by decide +kernel
theorem dX5_copyFrom_48 : decode cX5_copyFrom 48 = .ok (.aload_n 0, 1) := by decide +kernel
theorem dX5_copyFrom_49 : decode cX5_copyFrom 49 = .ok (.aload_n 1, 1) := by decide +kernel
theorem dX5_copyFrom_50 : decode cX5_copyFrom 50 = .ok (.getfield 61, 3) := by decide +kernel
theorem dX5_copyFrom_53 : decode cX5_copyFrom 53 = .ok (.putfield 61, 3) := by decide +kernel
theorem dX5_copyFrom_56 : decode cX5_copyFrom 56 = .ok (.iconst 0, 1) := by decide +kernel
theorem dX5_copyFrom_57 : decode cX5_copyFrom 57 = .ok (.istore_n 2, 1) := by decide +kernel
theorem dX5_copyFrom_58 : decode cX5_copyFrom 58 = .ok (.iload_n 2, 1) := by decide +kernel
theorem dX5_copyFrom_59 : decode cX5_copyFrom 59 = .ok (.bipush 8, 2) := by decide +kernel
theorem dX5_copyFrom_61 : decode cX5_copyFrom 61 = .ok (.if_icmp .ge 45, 3) := by decide +kernel
theorem dX5_copyFrom_64 : decode cX5_copyFrom 64 = .ok (.aload_n 0, 1) := by decide +kernel
theorem dX5_copyFrom_65 : decode cX5_copyFrom 65 = .ok (.getfield 24, 3) := by decide +kernel
theorem dX5_copyFrom_68 : decode cX5_copyFrom 68 = .ok (.iload_n 2, 1) := by decide +kernel
theorem dX5_copyFrom_69 : decode cX5_copyFrom 69 = .ok (.aload_n 1, 1) := by decide +kernel
theorem dX5_copyFrom_70 : decode cX5_copyFrom 70 = .ok (.getfield 24, 3) := by decide +kernel
theorem dX5_copyFrom_73 : decode cX5_copyFrom 73 = .ok (.iload_n 2, 1) := by decide +kernel
theorem dX5_copyFrom_74 : decode cX5_copyFrom 74 = .ok (.caload, 1) := by decide +kernel
theorem dX5_copyFrom_75 : decode cX5_copyFrom 75 = .ok (.castore, 1) := by decide +kernel
theorem dX5_copyFrom_76 : decode cX5_copyFrom 76 = .ok (.aload_n 0, 1) := by decide +kernel
theorem dX5_copyFrom_77 : decode cX5_copyFrom 77 = .ok (.getfield 28, 3) := by decide +kernel
theorem dX5_copyFrom_80 : decode cX5_copyFrom 80 = .ok (.iload_n 2, 1) := by decide +kernel
theorem dX5_copyFrom_81 : decode cX5_copyFrom 81 = .ok (.aload_n 1, 1) := by decide +kernel
theorem dX5_copyFrom_82 : decode cX5_copyFrom 82 = .ok (.getfield 28, 3) := by decide +kernel
theorem dX5_copyFrom_85 : decode cX5_copyFrom 85 = .ok (.iload_n 2, 1) := by decide +kernel
theorem dX5_copyFrom_86 : decode cX5_copyFrom 86 = .ok (.iaload, 1) := by decide +kernel
theorem dX5_copyFrom_87 : decode cX5_copyFrom 87 = .ok (.iastore, 1) := by decide +kernel
theorem dX5_copyFrom_88 : decode cX5_copyFrom 88 = .ok (.aload_n 0, 1) := by decide +kernel
theorem dX5_copyFrom_89 : decode cX5_copyFrom 89 = .ok (.getfield 64, 3) := by decide +kernel
theorem dX5_copyFrom_92 : decode cX5_copyFrom 92 = .ok (.iload_n 2, 1) := by decide +kernel
theorem dX5_copyFrom_93 : decode cX5_copyFrom 93 = .ok (.aload_n 1, 1) := by decide +kernel
theorem dX5_copyFrom_94 : decode cX5_copyFrom 94 = .ok (.getfield 64, 3) := by decide +kernel
theorem dX5_copyFrom_97 : decode cX5_copyFrom 97 = .ok (.iload_n 2, 1) := by decide +kernel
theorem dX5_copyFrom_98 : decode cX5_copyFrom 98 = .ok (.iaload, 1) := by decide +kernel
theorem dX5_copyFrom_99 : decode cX5_copyFrom 99 = .ok (.iastore, 1) := by decide +kernel
theorem dX5_copyFrom_100 : decode cX5_copyFrom 100 = .ok (.iinc 2 1, 3) := by decide +kernel
theorem dX5_copyFrom_103 : decode cX5_copyFrom 103 = .ok (.goto (-45), 3) := by decide +kernel
theorem dX5_copyFrom_106 : decode cX5_copyFrom 106 = .ok (.iconst 0, 1) := by decide +kernel
theorem dX5_copyFrom_107 : decode cX5_copyFrom 107 = .ok (.istore_n 2, 1) := by decide +kernel
theorem dX5_copyFrom_108 : decode cX5_copyFrom 108 = .ok (.iload_n 2, 1) := by decide +kernel
theorem dX5_copyFrom_109 : decode cX5_copyFrom 109 = .ok (.bipush 6, 2) := by decide +kernel
theorem dX5_copyFrom_111 : decode cX5_copyFrom 111 = .ok (.if_icmp .ge 111, 3) := by decide +kernel
theorem dX5_copyFrom_114 : decode cX5_copyFrom 114 = .ok (.aload_n 0, 1) := by decide +kernel
theorem dX5_copyFrom_115 : decode cX5_copyFrom 115 = .ok (.getfield 35, 3) := by decide +kernel
theorem dX5_copyFrom_118 : decode cX5_copyFrom 118 = .ok (.iload_n 2, 1) := by decide +kernel
theorem dX5_copyFrom_119 : decode cX5_copyFrom 119 = .ok (.aload_n 1, 1) := by decide +kernel
theorem dX5_copyFrom_120 : decode cX5_copyFrom 120 = .ok (.getfield 35, 3) := by decide +kernel
theorem dX5_copyFrom_123 : decode cX5_copyFrom 123 = .ok (.iload_n 2, 1) := by decide +kernel
theorem dX5_copyFrom_124 : decode cX5_copyFrom 124 = .ok (.caload, 1) := by decide +kernel
theorem dX5_copyFrom_125 : decode cX5_copyFrom 125 = .ok (.castore, 1) := by decide +kernel
theorem dX5_copyFrom_126 : decode cX5_copyFrom 126 = .ok (.aload_n 0, 1) := by decide +kernel
theorem dX5_copyFrom_127 : decode cX5_copyFrom 127 = .ok (.getfield 38, 3) := by decide +kernel
theorem dX5_copyFrom_130 : decode cX5_copyFrom 130 = .ok (.iload_n 2, 1) := by decide +kernel
theorem dX5_copyFrom_131 : decode cX5_copyFrom 131 = .ok (.aload_n 1, 1) := by decide +kernel
theorem dX5_copyFrom_132 : decode cX5_copyFrom 132 = .ok (.getfield 38, 3) := by decide +kernel
theorem dX5_copyFrom_135 : decode cX5_copyFrom 135 = .ok (.iload_n 2, 1) := by decide +kernel
theorem dX5_copyFrom_136 : decode cX5_copyFrom 136 = .ok (.iaload, 1) := by decide +kernel
theorem dX5_copyFrom_137 : decode cX5_copyFrom 137 = .ok (.iastore, 1) := by decide +kernel
theorem dX5_copyFrom_138 : decode cX5_copyFrom 138 = .ok (.aload_n 0, 1) := by decide +kernel
theorem dX5_copyFrom_139 : decode cX5_copyFrom 139 = .ok (.getfield 41, 3) := by decide +kernel
theorem dX5_copyFrom_142 : decode cX5_copyFrom 142 = .ok (.iload_n 2, 1) := by decide +kernel
theorem dX5_copyFrom_143 : decode cX5_copyFrom 143 = .ok (.aload_n 1, 1) := by decide +kernel
theorem dX5_copyFrom_144 : decode cX5_copyFrom 144 = .ok (.getfield 41, 3) := by decide +kernel
theorem dX5_copyFrom_147 : decode cX5_copyFrom 147 = .ok (.iload_n 2, 1) := by decide +kernel
theorem dX5_copyFrom_148 : decode cX5_copyFrom 148 = .ok (.iaload, 1) := by decide +kernel
theorem dX5_copyFrom_149 : decode cX5_copyFrom 149 = .ok (.iastore, 1) := by decide +kernel
theorem dX5_copyFrom_150 : decode cX5_copyFrom 150 = .ok (.aload_n 0, 1) := by decide +kernel
theorem dX5_copyFrom_151 : decode cX5_copyFrom 151 = .ok (.getfield 44, 3) := by decide +kernel
theorem dX5_copyFrom_154 : decode cX5_copyFrom 154 = .ok (.iload_n 2, 1) := by decide +kernel
theorem dX5_copyFrom_155 : decode cX5_copyFrom 155 = .ok (.aload_n 1, 1) := by decide +kernel
theorem dX5_copyFrom_156 : decode cX5_copyFrom 156 = .ok (.getfield 44, 3) := by decide +kernel
theorem dX5_copyFrom_159 : decode cX5_copyFrom 159 = .ok (.iload_n 2, 1) := by decide +kernel
theorem dX5_copyFrom_160 : decode cX5_copyFrom 160 = .ok (.iaload, 1) := by decide +kernel
theorem dX5_copyFrom_161 : decode cX5_copyFrom 161 = .ok (.iastore, 1) := by decide +kernel
theorem dX5_copyFrom_162 : decode cX5_copyFrom 162 = .ok (.aload_n 0, 1) := by decide +kernel
theorem dX5_copyFrom_163 : decode cX5_copyFrom 163 = .ok (.getfield 47, 3) := by decide +kernel
theorem dX5_copyFrom_166 : decode cX5_copyFrom 166 = .ok (.iload_n 2, 1) := by decide +kernel
theorem dX5_copyFrom_167 : decode cX5_copyFrom 167 = .ok (.aload_n 1, 1) := by decide +kernel
theorem dX5_copyFrom_168 : decode cX5_copyFrom 168 = .ok (.getfield 47, 3) := by decide +kernel
theorem dX5_copyFrom_171 : decode cX5_copyFrom 171 = .ok (.iload_n 2, 1) := by decide +kernel
theorem dX5_copyFrom_172 : decode cX5_copyFrom 172 = .ok (.iaload, 1) := by decide +kernel
theorem dX5_copyFrom_173 : decode cX5_copyFrom 173 = .ok (.iastore, 1) := by decide +kernel
theorem dX5_copyFrom_174 : decode cX5_copyFrom 174 = .ok (.aload_n 0, 1) := by decide +kernel
theorem dX5_copyFrom_175 : decode cX5_copyFrom 175 = .ok (.getfield 50, 3) := by decide +kernel
theorem dX5_copyFrom_178 : decode cX5_copyFrom 178 = .ok (.iload_n 2, 1) := by decide +kernel
theorem dX5_copyFrom_179 : decode cX5_copyFrom 179 = .ok (.aload_n 1, 1) := by decide +kernel
theorem dX5_copyFrom_180 : decode cX5_copyFrom 180 = .ok (.getfield 50, 3) := by decide +kernel
theorem dX5_copyFrom_183 : decode cX5_copyFrom 183 = .ok (.iload_n 2, 1) := by decide +kernel
theorem dX5_copyFrom_184 : decode cX5_copyFrom 184 = .ok (.iaload, 1) := by decide +kernel
theorem dX5_copyFrom_185 : decode cX5_copyFrom 185 = .ok (.iastore, 1) := by decide +kernel
theorem dX5_copyFrom_186 : decode cX5_copyFrom 186 = .ok (.iconst 0, 1) := by decide +kernel
theorem dX5_copyFrom_187 : decode cX5_copyFrom 187 = .ok (.istore_n 3, 1) := by decide +kernel
theorem dX5_copyFrom_188 : decode cX5_copyFrom 188 = .ok (.iload_n 3, 1) := by decide +kernel
theorem dX5_copyFrom_189 : decode cX5_copyFrom 189 = .ok (.bipush 8, 2) := by decide +kernel
theorem dX5_copyFrom_191 : decode cX5_copyFrom 191 = .ok (.if_icmp .ge 25, 3) := by decide +kernel
theorem dX5_copyFrom_194 : decode cX5_copyFrom 194 = .ok (.aload_n 0, 1) := by decide +kernel
theorem dX5_copyFrom_195 : decode cX5_copyFrom 195 = .ok (.getfield 55, 3) := by decide +kernel
theorem dX5_copyFrom_198 : decode cX5_copyFrom 198 = .ok (.iload_n 2, 1) := by decide +kernel
theorem dX5_copyFrom_199 : decode cX5_copyFrom 199 = .ok (.aaload, 1) := by decide +kernel
theorem dX5_copyFrom_200 : decode cX5_copyFrom 200 = .ok (.iload_n 3, 1) := by decide +kernel
theorem dX5_copyFrom_201 : decode cX5_copyFrom 201 = .ok (.aload_n 1, 1) := by decide +kernel
theorem dX5_copyFrom_202 : decode cX5_copyFrom 202 = .ok (.getfield 55, 3) := by decide +kernel
theorem dX5_copyFrom_205 : decode cX5_copyFrom 205 = .ok (.iload_n 2, 1) := by decide +kernel
theorem dX5_copyFrom_206 : decode cX5_copyFrom 206 = .ok (.aaload, 1) := by decide +kernel
theorem dX5_copyFrom_207 : decode cX5_copyFrom 207 = .ok (.iload_n 3, 1) := by decide +kernel
theorem dX5_copyFrom_208 : decode cX5_copyFrom 208 = .ok (.iaload, 1) := by decide +kernel
theorem dX5_copyFrom_209 : decode cX5_copyFrom 209 = .ok (.iastore, 1) := by decide +kernel
theorem dX5_copyFrom_210 : decode cX5_copyFrom 210 = .ok (.iinc 3 1, 3) := by decide +kernel
theorem dX5_copyFrom_213 : decode cX5_copyFrom 213 = .ok (.goto (-25), 3) := by decide +kernel
theorem dX5_copyFrom_216 : decode cX5_copyFrom 216 = .ok (.iinc 2 1, 3) := by decide +kernel
theorem dX5_copyFrom_219 : decode cX5_copyFrom 219 = .ok (.goto (-111), 3) := by decide +kernel
theorem dX5_copyFrom_222 : decode cX5_copyFrom 222 = .ok (.return_, 1) := by decide +kernel
theorem dX5_hasDoor_0 : decode cX5_hasDoor 0 = .ok (.iload_n 1, 1) := by decide +kernel
theorem dX5_hasDoor_1 : decode cX5_hasDoor 1 = .ok (.ifCond .lt 15, 3) := by decide +kernel
theorem dX5_hasDoor_4 : decode cX5_hasDoor 4 = .ok (.iload_n 1, 1) := by decide +kernel
theorem dX5_hasDoor_5 : decode cX5_hasDoor 5 = .ok (.aload_n 0, 1) := by decide +kernel
theorem dX5_hasDoor_6 : decode cX5_hasDoor 6 = .ok (.getfield 21, 3) := by decide +kernel
theorem dX5_hasDoor_9 : decode cX5_hasDoor 9 = .ok (.if_icmp .ge 7, 3) := by decide +kernel
theorem dX5_hasDoor_12 : decode cX5_hasDoor 12 = .ok (.iconst 1, 1) := by decide +kernel
theorem dX5_hasDoor_13 : decode cX5_hasDoor 13 = .ok (.goto 4, 3) := by decide +kernel
theorem dX5_hasDoor_16 : decode cX5_hasDoor 16 = .ok (.iconst 0, 1) := by decide +kernel
theorem dX5_hasDoor_17 : decode cX5_hasDoor 17 = .ok (.ireturn, 1) := by decide +kernel
theorem dX5_hasExaminer_0 : decode cX5_hasExaminer 0 = .ok (.iload_n 1, 1) := by decide +kernel
theorem dX5_hasExaminer_1 : decode cX5_hasExaminer 1 = .ok (.ifCond .lt 15, 3) := by decide +kernel
theorem dX5_hasExaminer_4 : decode cX5_hasExaminer 4 = .ok (.iload_n 1, 1) := by decide +kernel
theorem dX5_hasExaminer_5 : decode cX5_hasExaminer 5 = .ok (.aload_n 0, 1) := by decide +kernel
theorem dX5_hasExaminer_6 : decode cX5_hasExaminer 6 = .ok (.getfield 32, 3) := by decide +kernel
theorem dX5_hasExaminer_9 : decode cX5_hasExaminer 9 = .ok (.if_icmp .ge 7, 3) := by decide +kernel
theorem dX5_hasExaminer_12 : decode cX5_hasExaminer 12 = .ok (.iconst 1, 1) := by decide +kernel
theorem dX5_hasExaminer_13 : decode cX5_hasExaminer 13 = .ok (.goto 4, 3) := by decide +kernel
theorem dX5_hasExaminer_16 : decode cX5_hasExaminer 16 = .ok (.iconst 0, 1) := by decide +kernel
theorem dX5_hasExaminer_17 : decode cX5_hasExaminer 17 = .ok (.ireturn, 1) := by decide +kernel
theorem dX5_hasPair_0 : decode cX5_hasPair 0 = .ok (.aload_n 0, 1) := by decide +kernel
theorem dX5_hasPair_1 : decode cX5_hasPair 1 = .ok (.iload_n 1, 1) := by decide +kernel
theorem dX5_hasPair_2 : decode cX5_hasPair 2 = .ok (.invokevirtual 67, 3) := by decide +kernel
theorem dX5_hasPair_5 : decode cX5_hasPair 5 = .ok (.ifCond .eq 15, 3) := by decide +kernel
theorem dX5_hasPair_8 : decode cX5_hasPair 8 = .ok (.aload_n 0, 1) := by decide +kernel
theorem dX5_hasPair_9 : decode cX5_hasPair 9 = .ok (.iload_n 2, 1) := by decide +kernel
theorem dX5_hasPair_10 : decode cX5_hasPair 10 = .ok (.invokevirtual 71, 3) := by decide +kernel
theorem dX5_hasPair_13 : decode cX5_hasPair 13 = .ok (.ifCond .eq 7, 3) := by decide +kernel
theorem dX5_hasPair_16 : decode cX5_hasPair 16 = .ok (.iconst 1, 1) := by decide +kernel
theorem dX5_hasPair_17 : decode cX5_hasPair 17 = .ok (.goto 4, 3) := by decide +kernel
theorem dX5_hasPair_20 : decode cX5_hasPair 20 = .ok (.iconst 0, 1) := by decide +kernel
theorem dX5_hasPair_21 : decode cX5_hasPair 21 = .ok (.ireturn, 1) := by decide +kernel
theorem dX5_hasEntry_0 : decode cX5_hasEntry 0 = .ok (.iload_n 1, 1) := by decide +kernel
theorem dX5_hasEntry_1 : decode cX5_hasEntry 1 = .ok (.iconst 1, 1) := by decide +kernel
theorem dX5_hasEntry_2 : decode cX5_hasEntry 2 = .ok (.if_icmp .lt 15, 3) := by decide +kernel
theorem dX5_hasEntry_5 : decode cX5_hasEntry 5 = .ok (.iload_n 1, 1) := by decide +kernel
theorem dX5_hasEntry_6 : decode cX5_hasEntry 6 = .ok (.aload_n 0, 1) := by decide +kernel
theorem dX5_hasEntry_7 : decode cX5_hasEntry 7 = .ok (.getfield 61, 3) := by decide +kernel
theorem dX5_hasEntry_10 : decode cX5_hasEntry 10 = .ok (.if_icmp .gt 7, 3) := by decide +kernel
theorem dX5_hasEntry_13 : decode cX5_hasEntry 13 = .ok (.iconst 1, 1) := by decide +kernel
theorem dX5_hasEntry_14 : decode cX5_hasEntry 14 = .ok (.goto 4, 3) := by decide +kernel
theorem dX5_hasEntry_17 : decode cX5_hasEntry 17 = .ok (.iconst 0, 1) := by decide +kernel
theorem dX5_hasEntry_18 : decode cX5_hasEntry 18 = .ok (.ireturn, 1) := by decide +kernel
theorem dX5_neutral_0 : decode cX5_neutral 0 = .ok (.aload_n 0, 1) := by decide +kernel
theorem dX5_neutral_1 : decode cX5_neutral 1 = .ok (.getfield 35, 3) := by decide +kernel
theorem dX5_neutral_4 : decode cX5_neutral 4 = .ok (.iload_n 1, 1) := by decide +kernel
theorem dX5_neutral_5 : decode cX5_neutral 5 = .ok (.caload, 1) := by decide +kernel
theorem dX5_neutral_6 : decode cX5_neutral 6 = .ok (.aload_n 0, 1) := by decide +kernel
theorem dX5_neutral_7 : decode cX5_neutral 7 = .ok (.getfield 24, 3) := by decide +kernel
theorem dX5_neutral_10 : decode cX5_neutral 10 = .ok (.iload_n 2, 1) := by decide +kernel
theorem dX5_neutral_11 : decode cX5_neutral 11 = .ok (.caload, 1) := by decide +kernel
theorem dX5_neutral_12 : decode cX5_neutral 12 = .ok (.if_icmp .eq 20, 3) := by decide +kernel
theorem dX5_neutral_15 : decode cX5_neutral 15 = .ok (.aload_n 0, 1) := by decide +kernel
theorem dX5_neutral_16 : decode cX5_neutral 16 = .ok (.getfield 47, 3) := by decide +kernel
theorem dX5_neutral_19 : decode cX5_neutral 19 = .ok (.iload_n 1, 1) := by decide +kernel
theorem dX5_neutral_20 : decode cX5_neutral 20 = .ok (.iaload, 1) := by decide +kernel
theorem dX5_neutral_21 : decode cX5_neutral 21 = .ok (.iconst 1, 1) := by decide +kernel
theorem dX5_neutral_22 : decode cX5_neutral 22 = .ok (.iload_n 2, 1) := by decide +kernel
theorem dX5_neutral_23 : decode cX5_neutral 23 = .ok (.ishl, 1) := by decide +kernel
theorem dX5_neutral_24 : decode cX5_neutral 24 = .ok (.iand, 1) := by decide +kernel
theorem dX5_neutral_25 : decode cX5_neutral 25 = .ok (.ifCond .ne 7, 3) := by decide +kernel
theorem dX5_neutral_28 : decode cX5_neutral 28 = .ok (.iconst 1, 1) := by decide +kernel
theorem dX5_neutral_29 : decode cX5_neutral 29 = .ok (.goto 4, 3) := by decide +kernel
theorem dX5_neutral_32 : decode cX5_neutral 32 = .ok (.iconst 0, 1) := by decide +kernel
theorem dX5_neutral_33 : decode cX5_neutral 33 = .ok (.ireturn, 1) := by decide +kernel
theorem dX5_canJudge_0 : decode cX5_canJudge 0 = .ok (.aload_n 0, 1) := by decide +kernel
theorem dX5_canJudge_1 : decode cX5_canJudge 1 = .ok (.iload_n 1, 1) := by decide +kernel
theorem dX5_canJudge_2 : decode cX5_canJudge 2 = .ok (.iload_n 2, 1) := by decide +kernel
theorem dX5_canJudge_3 : decode cX5_canJudge 3 = .ok (.invokevirtual 74, 3) := by decide +kernel
theorem dX5_canJudge_6 : decode cX5_canJudge 6 = .ok (.ifCond .eq 25, 3) := by decide +kernel
theorem dX5_canJudge_9 : decode cX5_canJudge 9 = .ok (.aload_n 0, 1) := by decide +kernel
theorem dX5_canJudge_10 : decode cX5_canJudge 10 = .ok (.getfield 38, 3) := by decide +kernel
theorem dX5_canJudge_13 : decode cX5_canJudge 13 = .ok (.iload_n 1, 1) := by decide +kernel
theorem dX5_canJudge_14 : decode cX5_canJudge 14 = .ok (.iaload, 1) := by decide +kernel
theorem dX5_canJudge_15 : decode cX5_canJudge 15 = .ok (.aload_n 0, 1) := by decide +kernel
theorem dX5_canJudge_16 : decode cX5_canJudge 16 = .ok (.getfield 28, 3) := by decide +kernel
theorem dX5_canJudge_19 : decode cX5_canJudge 19 = .ok (.iload_n 2, 1) := by decide +kernel
theorem dX5_canJudge_20 : decode cX5_canJudge 20 = .ok (.iaload, 1) := by decide +kernel
theorem dX5_canJudge_21 : decode cX5_canJudge 21 = .ok (.invokestatic 78, 3) := by decide +kernel
theorem dX5_canJudge_24 : decode cX5_canJudge 24 = .ok (.ifCond .eq 7, 3) := by decide +kernel
theorem dX5_canJudge_27 : decode cX5_canJudge 27 = .ok (.iconst 1, 1) := by decide +kernel
theorem dX5_canJudge_28 : decode cX5_canJudge 28 = .ok (.goto 4, 3) := by decide +kernel
theorem dX5_canJudge_31 : decode cX5_canJudge 31 = .ok (.iconst 0, 1) := by decide +kernel
theorem dX5_canJudge_32 : decode cX5_canJudge 32 = .ok (.ireturn, 1) := by decide +kernel
theorem dX5_assigned_0 : decode cX5_assigned 0 = .ok (.aload_n 0, 1) := by decide +kernel
theorem dX5_assigned_1 : decode cX5_assigned 1 = .ok (.getfield 50, 3) := by decide +kernel
theorem dX5_assigned_4 : decode cX5_assigned 4 = .ok (.iload_n 1, 1) := by decide +kernel
theorem dX5_assigned_5 : decode cX5_assigned 5 = .ok (.iaload, 1) := by decide +kernel
theorem dX5_assigned_6 : decode cX5_assigned 6 = .ok (.iconst 1, 1) := by decide +kernel
theorem dX5_assigned_7 : decode cX5_assigned 7 = .ok (.iload_n 2, 1) := by decide +kernel
theorem dX5_assigned_8 : decode cX5_assigned 8 = .ok (.ishl, 1) := by decide +kernel
theorem dX5_assigned_9 : decode cX5_assigned 9 = .ok (.iand, 1) := by decide +kernel
theorem dX5_assigned_10 : decode cX5_assigned 10 = .ok (.ifCond .eq 7, 3) := by decide +kernel
theorem dX5_assigned_13 : decode cX5_assigned 13 = .ok (.iconst 1, 1) := by decide +kernel
theorem dX5_assigned_14 : decode cX5_assigned 14 = .ok (.goto 4, 3) := by decide +kernel
theorem dX5_assigned_17 : decode cX5_assigned 17 = .ok (.iconst 0, 1) := by decide +kernel
theorem dX5_assigned_18 : decode cX5_assigned 18 = .ok (.ireturn, 1) := by decide +kernel
theorem dX5_loadOf_0 : decode cX5_loadOf 0 = .ok (.aload_n 0, 1) := by decide +kernel
theorem dX5_loadOf_1 : decode cX5_loadOf 1 = .ok (.getfield 50, 3) := by decide +kernel
theorem dX5_loadOf_4 : decode cX5_loadOf 4 = .ok (.iload_n 1, 1) := by decide +kernel
theorem dX5_loadOf_5 : decode cX5_loadOf 5 = .ok (.iaload, 1) := by decide +kernel
theorem dX5_loadOf_6 : decode cX5_loadOf 6 = .ok (.invokestatic 81, 3) := by decide +kernel
theorem dX5_loadOf_9 : decode cX5_loadOf 9 = .ok (.ireturn, 1) := by decide +kernel
theorem dX5_freeCapacity_0 : decode cX5_freeCapacity 0 = .ok (.aload_n 0, 1) := by decide +kernel
theorem dX5_freeCapacity_1 : decode cX5_freeCapacity 1 = .ok (.getfield 41, 3) := by decide +kernel
theorem dX5_freeCapacity_4 : decode cX5_freeCapacity 4 = .ok (.iload_n 1, 1) := by decide +kernel
theorem dX5_freeCapacity_5 : decode cX5_freeCapacity 5 = .ok (.iaload, 1) := by decide +kernel
theorem dX5_freeCapacity_6 : decode cX5_freeCapacity 6 = .ok (.aload_n 0, 1) := by decide +kernel
theorem dX5_freeCapacity_7 : decode cX5_freeCapacity 7 = .ok (.iload_n 1, 1) := by decide +kernel
theorem dX5_freeCapacity_8 : decode cX5_freeCapacity 8 = .ok (.invokevirtual 87, 3) := by decide +kernel
theorem dX5_freeCapacity_11 : decode cX5_freeCapacity 11 = .ok (.isub, 1) := by decide +kernel
theorem dX5_freeCapacity_12 : decode cX5_freeCapacity 12 = .ok (.ireturn, 1) := by decide +kernel
theorem dX5_neutralCount_0 : decode cX5_neutralCount 0 = .ok (.iconst 0, 1) := by decide +kernel
theorem dX5_neutralCount_1 : decode cX5_neutralCount 1 = .ok (.istore_n 2, 1) := by decide +kernel
theorem dX5_neutralCount_2 : decode cX5_neutralCount 2 = .ok (.iconst 0, 1) := by decide +kernel
theorem dX5_neutralCount_3 : decode cX5_neutralCount 3 = .ok (.istore_n 3, 1) := by decide +kernel
theorem dX5_neutralCount_4 : decode cX5_neutralCount 4 = .ok (.iload_n 3, 1) := by decide +kernel
theorem dX5_neutralCount_5 : decode cX5_neutralCount 5 = .ok (.aload_n 0, 1) := by decide +kernel
theorem dX5_neutralCount_6 : decode cX5_neutralCount 6 = .ok (.getfield 32, 3) := by decide +kernel
theorem dX5_neutralCount_9 : decode cX5_neutralCount 9 = .ok (.if_icmp .ge 21, 3) := by decide +kernel
theorem dX5_neutralCount_12 : decode cX5_neutralCount 12 = .ok (.aload_n 0, 1) := by decide +kernel
theorem dX5_neutralCount_13 : decode cX5_neutralCount 13 = .ok (.iload_n 3, 1) := by decide +kernel
theorem dX5_neutralCount_14 : decode cX5_neutralCount 14 = .ok (.iload_n 1, 1) := by decide +kernel
theorem dX5_neutralCount_15 : decode cX5_neutralCount 15 = .ok (.invokevirtual 74, 3) := by decide +kernel
theorem dX5_neutralCount_18 : decode cX5_neutralCount 18 = .ok (.ifCond .eq 6, 3) := by decide +kernel
theorem dX5_neutralCount_21 : decode cX5_neutralCount 21 = .ok (.iinc 2 1, 3) := by decide +kernel
theorem dX5_neutralCount_24 : decode cX5_neutralCount 24 = .ok (.iinc 3 1, 3) := by decide +kernel
theorem dX5_neutralCount_27 : decode cX5_neutralCount 27 = .ok (.goto (-23), 3) := by decide +kernel
theorem dX5_neutralCount_30 : decode cX5_neutralCount 30 = .ok (.iload_n 2, 1) := by decide +kernel
theorem dX5_neutralCount_31 : decode cX5_neutralCount 31 = .ok (.ireturn, 1) := by decide +kernel
theorem dX5_assignedCount_0 : decode cX5_assignedCount 0 = .ok (.iconst 0, 1) := by decide +kernel
theorem dX5_assignedCount_1 : decode cX5_assignedCount 1 = .ok (.istore_n 2, 1) := by decide +kernel
theorem dX5_assignedCount_2 : decode cX5_assignedCount 2 = .ok (.iconst 0, 1) := by decide +kernel
theorem dX5_assignedCount_3 : decode cX5_assignedCount 3 = .ok (.istore_n 3, 1) := by decide +kernel
theorem dX5_assignedCount_4 : decode cX5_assignedCount 4 = .ok (.iload_n 3, 1) := by decide +kernel
theorem dX5_assignedCount_5 : decode cX5_assignedCount 5 = .ok (.aload_n 0, 1) := by decide +kernel
theorem dX5_assignedCount_6 : decode cX5_assignedCount 6 = .ok (.getfield 32, 3) := by decide +kernel
theorem dX5_assignedCount_9 : decode cX5_assignedCount 9 = .ok (.if_icmp .ge 21, 3) := by decide +kernel
theorem dX5_assignedCount_12 : decode cX5_assignedCount 12 = .ok (.aload_n 0, 1) := by decide +kernel
theorem dX5_assignedCount_13 : decode cX5_assignedCount 13 = .ok (.iload_n 3, 1) := by decide +kernel
theorem dX5_assignedCount_14 : decode cX5_assignedCount 14 = .ok (.iload_n 1, 1) := by decide +kernel
theorem dX5_assignedCount_15 : decode cX5_assignedCount 15 = .ok (.invokevirtual 90, 3) := by decide +kernel
theorem dX5_assignedCount_18 : decode cX5_assignedCount 18 = .ok (.ifCond .eq 6, 3) := by decide +kernel
theorem dX5_assignedCount_21 : decode cX5_assignedCount 21 = .ok (.iinc 2 1, 3) := by decide +kernel
theorem dX5_assignedCount_24 : decode cX5_assignedCount 24 = .ok (.iinc 3 1, 3) := by decide +kernel
theorem dX5_assignedCount_27 : decode cX5_assignedCount 27 = .ok (.goto (-23), 3) := by decide +kernel
theorem dX5_assignedCount_30 : decode cX5_assignedCount 30 = .ok (.iload_n 2, 1) := by decide +kernel
theorem dX5_assignedCount_31 : decode cX5_assignedCount 31 = .ok (.ireturn, 1) := by decide +kernel
theorem dX5_gradeCount_0 : decode cX5_gradeCount 0 = .ok (.iconst 0, 1) := by decide +kernel
theorem dX5_gradeCount_1 : decode cX5_gradeCount 1 = .ok (.istore_n 2, 1) := by decide +kernel
theorem dX5_gradeCount_2 : decode cX5_gradeCount 2 = .ok (.iconst 0, 1) := by decide +kernel
theorem dX5_gradeCount_3 : decode cX5_gradeCount 3 = .ok (.istore_n 3, 1) := by decide +kernel
theorem dX5_gradeCount_4 : decode cX5_gradeCount 4 = .ok (.iload_n 3, 1) := by decide +kernel
theorem dX5_gradeCount_5 : decode cX5_gradeCount 5 = .ok (.aload_n 0, 1) := by decide +kernel
theorem dX5_gradeCount_6 : decode cX5_gradeCount 6 = .ok (.getfield 32, 3) := by decide +kernel
theorem dX5_gradeCount_9 : decode cX5_gradeCount 9 = .ok (.if_icmp .ge 24, 3) := by decide +kernel
theorem dX5_gradeCount_12 : decode cX5_gradeCount 12 = .ok (.aload_n 0, 1) := by decide +kernel
theorem dX5_gradeCount_13 : decode cX5_gradeCount 13 = .ok (.getfield 55, 3) := by decide +kernel
theorem dX5_gradeCount_16 : decode cX5_gradeCount 16 = .ok (.iload_n 3, 1) := by decide +kernel
theorem dX5_gradeCount_17 : decode cX5_gradeCount 17 = .ok (.aaload, 1) := by decide +kernel
theorem dX5_gradeCount_18 : decode cX5_gradeCount 18 = .ok (.iload_n 1, 1) := by decide +kernel
theorem dX5_gradeCount_19 : decode cX5_gradeCount 19 = .ok (.iaload, 1) := by decide +kernel
theorem dX5_gradeCount_20 : decode cX5_gradeCount 20 = .ok (.iconst (-1), 1) := by decide +kernel
theorem dX5_gradeCount_21 : decode cX5_gradeCount 21 = .ok (.if_icmp .eq 6, 3) := by decide +kernel
theorem dX5_gradeCount_24 : decode cX5_gradeCount 24 = .ok (.iinc 2 1, 3) := by decide +kernel
theorem dX5_gradeCount_27 : decode cX5_gradeCount 27 = .ok (.iinc 3 1, 3) := by decide +kernel
theorem dX5_gradeCount_30 : decode cX5_gradeCount 30 = .ok (.goto (-26), 3) := by decide +kernel
theorem dX5_gradeCount_33 : decode cX5_gradeCount 33 = .ok (.iload_n 2, 1) := by decide +kernel
theorem dX5_gradeCount_34 : decode cX5_gradeCount 34 = .ok (.ireturn, 1) := by decide +kernel
theorem dX5_gradeSum_0 : decode cX5_gradeSum 0 = .ok (.iconst 0, 1) := by decide +kernel
theorem dX5_gradeSum_1 : decode cX5_gradeSum 1 = .ok (.istore_n 2, 1) := by decide +kernel
theorem dX5_gradeSum_2 : decode cX5_gradeSum 2 = .ok (.iconst 0, 1) := by decide +kernel
theorem dX5_gradeSum_3 : decode cX5_gradeSum 3 = .ok (.istore_n 3, 1) := by decide +kernel
theorem dX5_gradeSum_4 : decode cX5_gradeSum 4 = .ok (.iload_n 3, 1) := by decide +kernel
theorem dX5_gradeSum_5 : decode cX5_gradeSum 5 = .ok (.aload_n 0, 1) := by decide +kernel
theorem dX5_gradeSum_6 : decode cX5_gradeSum 6 = .ok (.getfield 32, 3) := by decide +kernel
theorem dX5_gradeSum_9 : decode cX5_gradeSum 9 = .ok (.if_icmp .ge 32, 3) := by decide +kernel
theorem dX5_gradeSum_12 : decode cX5_gradeSum 12 = .ok (.aload_n 0, 1) := by decide +kernel
theorem dX5_gradeSum_13 : decode cX5_gradeSum 13 = .ok (.getfield 55, 3) := by decide +kernel
theorem dX5_gradeSum_16 : decode cX5_gradeSum 16 = .ok (.iload_n 3, 1) := by decide +kernel
theorem dX5_gradeSum_17 : decode cX5_gradeSum 17 = .ok (.aaload, 1) := by decide +kernel
theorem dX5_gradeSum_18 : decode cX5_gradeSum 18 = .ok (.iload_n 1, 1) := by decide +kernel
theorem dX5_gradeSum_19 : decode cX5_gradeSum 19 = .ok (.iaload, 1) := by decide +kernel
theorem dX5_gradeSum_20 : decode cX5_gradeSum 20 = .ok (.iconst (-1), 1) := by decide +kernel
theorem dX5_gradeSum_21 : decode cX5_gradeSum 21 = .ok (.if_icmp .eq 14, 3) := by decide +kernel
theorem dX5_gradeSum_24 : decode cX5_gradeSum 24 = .ok (.iload_n 2, 1) := by decide +kernel
theorem dX5_gradeSum_25 : decode cX5_gradeSum 25 = .ok (.aload_n 0, 1) := by decide +kernel
theorem dX5_gradeSum_26 : decode cX5_gradeSum 26 = .ok (.getfield 55, 3) := by decide +kernel
theorem dX5_gradeSum_29 : decode cX5_gradeSum 29 = .ok (.iload_n 3, 1) := by decide +kernel
theorem dX5_gradeSum_30 : decode cX5_gradeSum 30 = .ok (.aaload, 1) := by decide +kernel
theorem dX5_gradeSum_31 : decode cX5_gradeSum 31 = .ok (.iload_n 1, 1) := by decide +kernel
theorem dX5_gradeSum_32 : decode cX5_gradeSum 32 = .ok (.iaload, 1) := by decide +kernel
theorem dX5_gradeSum_33 : decode cX5_gradeSum 33 = .ok (.iadd, 1) := by decide +kernel
theorem dX5_gradeSum_34 : decode cX5_gradeSum 34 = .ok (.istore_n 2, 1) := by decide +kernel
theorem dX5_gradeSum_35 : decode cX5_gradeSum 35 = .ok (.iinc 3 1, 3) := by decide +kernel
theorem dX5_gradeSum_38 : decode cX5_gradeSum 38 = .ok (.goto (-34), 3) := by decide +kernel
theorem dX5_gradeSum_41 : decode cX5_gradeSum 41 = .ok (.iload_n 2, 1) := by decide +kernel
theorem dX5_gradeSum_42 : decode cX5_gradeSum 42 = .ok (.ireturn, 1) := by decide +kernel
theorem dX5_median_0 : decode cX5_median 0 = .ok (.aload_n 0, 1) := by decide +kernel
theorem dX5_median_1 : decode cX5_median 1 = .ok (.iload_n 1, 1) := by decide +kernel
theorem dX5_median_2 : decode cX5_median 2 = .ok (.invokevirtual 93, 3) := by decide +kernel
theorem dX5_median_5 : decode cX5_median 5 = .ok (.istore_n 2, 1) := by decide +kernel
theorem dX5_median_6 : decode cX5_median 6 = .ok (.iload_n 2, 1) := by decide +kernel
theorem dX5_median_7 : decode cX5_median 7 = .ok (.iconst 2, 1) := by decide +kernel
theorem dX5_median_8 : decode cX5_median 8 = .ok (.if_icmp .ge 5, 3) := by decide +kernel
theorem dX5_median_11 : decode cX5_median 11 = .ok (.iconst (-1), 1) := by decide +kernel
theorem dX5_median_12 : decode cX5_median 12 = .ok (.ireturn, 1) := by decide +kernel
theorem dX5_median_13 : decode cX5_median 13 = .ok (.aload_n 0, 1) := by decide +kernel
theorem dX5_median_14 : decode cX5_median 14 = .ok (.iload_n 1, 1) := by decide +kernel
theorem dX5_median_15 : decode cX5_median 15 = .ok (.invokevirtual 96, 3) := by decide +kernel
theorem dX5_median_18 : decode cX5_median 18 = .ok (.istore_n 3, 1) := by decide +kernel
theorem dX5_median_19 : decode cX5_median 19 = .ok (.iload_n 2, 1) := by decide +kernel
theorem dX5_median_20 : decode cX5_median 20 = .ok (.iconst 2, 1) := by decide +kernel
theorem dX5_median_21 : decode cX5_median 21 = .ok (.if_icmp .ne 7, 3) := by decide +kernel
theorem dX5_median_24 : decode cX5_median 24 = .ok (.iload_n 3, 1) := by decide +kernel
theorem dX5_median_25 : decode cX5_median 25 = .ok (.iconst 2, 1) := by decide +kernel
theorem dX5_median_26 : decode cX5_median 26 = .ok (.idiv, 1) := by decide +kernel
theorem dX5_median_27 : decode cX5_median 27 = .ok (.ireturn, 1) := by decide +kernel
theorem dX5_median_28 : decode cX5_median 28 = .ok (.bipush 20, 2) := by decide +kernel
theorem dX5_median_30 : decode cX5_median 30 = .ok (.istore 4, 2) := by decide +kernel
theorem dX5_median_32 : decode cX5_median 32 = .ok (.iconst 0, 1) := by decide +kernel
theorem dX5_median_33 : decode cX5_median 33 = .ok (.istore 5, 2) := by decide +kernel
theorem dX5_median_35 : decode cX5_median 35 = .ok (.iconst 0, 1) := by decide +kernel
theorem dX5_median_36 : decode cX5_median 36 = .ok (.istore 6, 2) := by decide +kernel
theorem dX5_median_38 : decode cX5_median 38 = .ok (.iload 6, 2) := by decide +kernel
theorem dX5_median_40 : decode cX5_median 40 = .ok (.aload_n 0, 1) := by decide +kernel
theorem dX5_median_41 : decode cX5_median 41 = .ok (.getfield 32, 3) := by decide +kernel
theorem dX5_median_44 : decode cX5_median 44 = .ok (.if_icmp .ge 44, 3) := by decide +kernel
theorem dX5_median_47 : decode cX5_median 47 = .ok (.aload_n 0, 1) := by decide +kernel
theorem dX5_median_48 : decode cX5_median 48 = .ok (.getfield 55, 3) := by decide +kernel
theorem dX5_median_51 : decode cX5_median 51 = .ok (.iload 6, 2) := by decide +kernel
theorem dX5_median_53 : decode cX5_median 53 = .ok (.aaload, 1) := by decide +kernel
theorem dX5_median_54 : decode cX5_median 54 = .ok (.iload_n 1, 1) := by decide +kernel
theorem dX5_median_55 : decode cX5_median 55 = .ok (.iaload, 1) := by decide +kernel
theorem dX5_median_56 : decode cX5_median 56 = .ok (.istore 7, 2) := by decide +kernel
theorem dX5_median_58 : decode cX5_median 58 = .ok (.iload 7, 2) := by decide +kernel
theorem dX5_median_60 : decode cX5_median 60 = .ok (.iconst (-1), 1) := by decide +kernel
theorem dX5_median_61 : decode cX5_median 61 = .ok (.if_icmp .eq 21, 3) := by decide +kernel
theorem dX5_median_64 : decode cX5_median 64 = .ok (.iload 4, 2) := by decide +kernel
theorem dX5_median_66 : decode cX5_median 66 = .ok (.iload 7, 2) := by decide +kernel
theorem dX5_median_68 : decode cX5_median 68 = .ok (.invokestatic 99, 3) := by decide +kernel
theorem dX5_median_71 : decode cX5_median 71 = .ok (.istore 4, 2) := by decide +kernel
theorem dX5_median_73 : decode cX5_median 73 = .ok (.iload 5, 2) := by decide +kernel
theorem dX5_median_75 : decode cX5_median 75 = .ok (.iload 7, 2) := by decide +kernel
theorem dX5_median_77 : decode cX5_median 77 = .ok (.invokestatic 105, 3) := by decide +kernel
theorem dX5_median_80 : decode cX5_median 80 = .ok (.istore 5, 2) := by decide +kernel
theorem dX5_median_82 : decode cX5_median 82 = .ok (.iinc 6 1, 3) := by decide +kernel
theorem dX5_median_85 : decode cX5_median 85 = .ok (.goto (-47), 3) := by decide +kernel
theorem dX5_median_88 : decode cX5_median 88 = .ok (.iload_n 3, 1) := by decide +kernel
theorem dX5_median_89 : decode cX5_median 89 = .ok (.iload 4, 2) := by decide +kernel
theorem dX5_median_91 : decode cX5_median 91 = .ok (.isub, 1) := by decide +kernel
theorem dX5_median_92 : decode cX5_median 92 = .ok (.iload 5, 2) := by decide +kernel
theorem dX5_median_94 : decode cX5_median 94 = .ok (.isub, 1) := by decide +kernel
theorem dX5_median_95 : decode cX5_median 95 = .ok (.ireturn, 1) := by decide +kernel
theorem dX5_hasPassed_0 : decode cX5_hasPassed 0 = .ok (.aload_n 0, 1) := by decide +kernel
theorem dX5_hasPassed_1 : decode cX5_hasPassed 1 = .ok (.iload_n 1, 1) := by decide +kernel
theorem dX5_hasPassed_2 : decode cX5_hasPassed 2 = .ok (.invokevirtual 108, 3) := by decide +kernel
theorem dX5_hasPassed_5 : decode cX5_hasPassed 5 = .ok (.istore_n 2, 1) := by decide +kernel
theorem dX5_hasPassed_6 : decode cX5_hasPassed 6 = .ok (.iload_n 2, 1) := by decide +kernel
theorem dX5_hasPassed_7 : decode cX5_hasPassed 7 = .ok (.iconst (-1), 1) := by decide +kernel
theorem dX5_hasPassed_8 : decode cX5_hasPassed 8 = .ok (.if_icmp .eq 15, 3) := by decide +kernel
theorem dX5_hasPassed_11 : decode cX5_hasPassed 11 = .ok (.iload_n 2, 1) := by decide +kernel
theorem dX5_hasPassed_12 : decode cX5_hasPassed 12 = .ok (.aload_n 0, 1) := by decide +kernel
theorem dX5_hasPassed_13 : decode cX5_hasPassed 13 = .ok (.getfield 58, 3) := by decide +kernel
theorem dX5_hasPassed_16 : decode cX5_hasPassed 16 = .ok (.if_icmp .lt 7, 3) := by decide +kernel
theorem dX5_hasPassed_19 : decode cX5_hasPassed 19 = .ok (.iconst 1, 1) := by decide +kernel
theorem dX5_hasPassed_20 : decode cX5_hasPassed 20 = .ok (.goto 4, 3) := by decide +kernel
theorem dX5_hasPassed_23 : decode cX5_hasPassed 23 = .ok (.iconst 0, 1) := by decide +kernel
theorem dX5_hasPassed_24 : decode cX5_hasPassed 24 = .ok (.ireturn, 1) := by decide +kernel
theorem dX5_deservesDegree_0 : decode cX5_deservesDegree 0 = .ok (.aload_n 0, 1) := by decide +kernel
theorem dX5_deservesDegree_1 : decode cX5_deservesDegree 1 = .ok (.iload_n 1, 1) := by decide +kernel
theorem dX5_deservesDegree_2 : decode cX5_deservesDegree 2 = .ok (.invokevirtual 111, 3) := by decide +kernel
theorem dX5_deservesDegree_5 : decode cX5_deservesDegree 5 = .ok (.ifCond .ne 14, 3) := by decide +kernel
theorem dX5_deservesDegree_8 : decode cX5_deservesDegree 8 = .ok (.aload_n 0, 1) := by decide +kernel
theorem dX5_deservesDegree_9 : decode cX5_deservesDegree 9 = .ok (.getfield 15, 3) := by decide +kernel
theorem dX5_deservesDegree_12 : decode cX5_deservesDegree 12 = .ok (.iload_n 1, 1) := by decide +kernel
theorem dX5_deservesDegree_13 : decode cX5_deservesDegree 13 = .ok (.invokestatic 78, 3) := by decide +kernel
theorem dX5_deservesDegree_16 : decode cX5_deservesDegree 16 = .ok (.ifCond .eq 7, 3) := by decide +kernel
theorem dX5_deservesDegree_19 : decode cX5_deservesDegree 19 = .ok (.iconst 1, 1) := by decide +kernel
theorem dX5_deservesDegree_20 : decode cX5_deservesDegree 20 = .ok (.goto 4, 3) := by decide +kernel
theorem dX5_deservesDegree_23 : decode cX5_deservesDegree 23 = .ok (.iconst 0, 1) := by decide +kernel
theorem dX5_deservesDegree_24 : decode cX5_deservesDegree 24 = .ok (.ireturn, 1) := by decide +kernel
theorem dX5_entryOf_0 : decode cX5_entryOf 0 = .ok (.iconst 1, 1) := by decide +kernel
theorem dX5_entryOf_1 : decode cX5_entryOf 1 = .ok (.istore_n 2, 1) := by decide +kernel
theorem dX5_entryOf_2 : decode cX5_entryOf 2 = .ok (.iload_n 2, 1) := by decide +kernel
theorem dX5_entryOf_3 : decode cX5_entryOf 3 = .ok (.aload_n 0, 1) := by decide +kernel
theorem dX5_entryOf_4 : decode cX5_entryOf 4 = .ok (.getfield 61, 3) := by decide +kernel
theorem dX5_entryOf_7 : decode cX5_entryOf 7 = .ok (.if_icmp .gt 23, 3) := by decide +kernel
theorem dX5_entryOf_10 : decode cX5_entryOf 10 = .ok (.aload_n 0, 1) := by decide +kernel
theorem dX5_entryOf_11 : decode cX5_entryOf 11 = .ok (.getfield 64, 3) := by decide +kernel
theorem dX5_entryOf_14 : decode cX5_entryOf 14 = .ok (.iload_n 2, 1) := by decide +kernel
theorem dX5_entryOf_15 : decode cX5_entryOf 15 = .ok (.iconst 1, 1) := by decide +kernel
theorem dX5_entryOf_16 : decode cX5_entryOf 16 = .ok (.isub, 1) := by decide +kernel
theorem dX5_entryOf_17 : decode cX5_entryOf 17 = .ok (.iaload, 1) := by decide +kernel
theorem dX5_entryOf_18 : decode cX5_entryOf 18 = .ok (.iload_n 1, 1) := by decide +kernel
theorem dX5_entryOf_19 : decode cX5_entryOf 19 = .ok (.if_icmp .ne 5, 3) := by decide +kernel
theorem dX5_entryOf_22 : decode cX5_entryOf 22 = .ok (.iload_n 2, 1) := by decide +kernel
theorem dX5_entryOf_23 : decode cX5_entryOf 23 = .ok (.ireturn, 1) := by decide +kernel
theorem dX5_entryOf_24 : decode cX5_entryOf 24 = .ok (.iinc 2 1, 3) := by decide +kernel
theorem dX5_entryOf_27 : decode cX5_entryOf 27 = .ok (.goto (-25), 3) := by decide +kernel
theorem dX5_entryOf_30 : decode cX5_entryOf 30 = .ok (.iconst (-1), 1) := by decide +kernel
theorem dX5_entryOf_31 : decode cX5_entryOf 31 = .ok (.ireturn, 1) := by decide +kernel
theorem dX5_holdsDegree_0 : decode cX5_holdsDegree 0 = .ok (.aload_n 0, 1) := by decide +kernel
theorem dX5_holdsDegree_1 : decode cX5_holdsDegree 1 = .ok (.iload_n 1, 1) := by decide +kernel
theorem dX5_holdsDegree_2 : decode cX5_holdsDegree 2 = .ok (.invokevirtual 114, 3) := by decide +kernel
theorem dX5_holdsDegree_5 : decode cX5_holdsDegree 5 = .ok (.istore_n 2, 1) := by decide +kernel
theorem dX5_holdsDegree_6 : decode cX5_holdsDegree 6 = .ok (.iload_n 2, 1) := by decide +kernel
theorem dX5_holdsDegree_7 : decode cX5_holdsDegree 7 = .ok (.iconst (-1), 1) := by decide +kernel
theorem dX5_holdsDegree_8 : decode cX5_holdsDegree 8 = .ok (.if_icmp .eq 18, 3) := by decide +kernel
theorem dX5_holdsDegree_11 : decode cX5_holdsDegree 11 = .ok (.aload_n 0, 1) := by decide +kernel
theorem dX5_holdsDegree_12 : decode cX5_holdsDegree 12 = .ok (.getfield 18, 3) := by decide +kernel
theorem dX5_holdsDegree_15 : decode cX5_holdsDegree 15 = .ok (.iload_n 2, 1) := by decide +kernel
theorem dX5_holdsDegree_16 : decode cX5_holdsDegree 16 = .ok (.invokestatic 78, 3) := by decide +kernel
theorem dX5_holdsDegree_19 : decode cX5_holdsDegree 19 = .ok (.ifCond .ne 7, 3) := by decide +kernel
theorem dX5_holdsDegree_22 : decode cX5_holdsDegree 22 = .ok (.iconst 1, 1) := by decide +kernel
theorem dX5_holdsDegree_23 : decode cX5_holdsDegree 23 = .ok (.goto 4, 3) := by decide +kernel
theorem dX5_holdsDegree_26 : decode cX5_holdsDegree 26 = .ok (.iconst 0, 1) := by decide +kernel
theorem dX5_holdsDegree_27 : decode cX5_holdsDegree 27 = .ok (.ireturn, 1) := by decide +kernel
theorem dX5_doorRanked_0 : decode cX5_doorRanked 0 = .ok (.iconst 0, 1) := by decide +kernel
theorem dX5_doorRanked_1 : decode cX5_doorRanked 1 = .ok (.istore_n 2, 1) := by decide +kernel
theorem dX5_doorRanked_2 : decode cX5_doorRanked 2 = .ok (.iload_n 2, 1) := by decide +kernel
theorem dX5_doorRanked_3 : decode cX5_doorRanked 3 = .ok (.aload_n 0, 1) := by decide +kernel
theorem dX5_doorRanked_4 : decode cX5_doorRanked 4 = .ok (.getfield 21, 3) := by decide +kernel
theorem dX5_doorRanked_7 : decode cX5_doorRanked 7 = .ok (.if_icmp .ge 20, 3) := by decide +kernel
theorem dX5_doorRanked_10 : decode cX5_doorRanked 10 = .ok (.aload_n 0, 1) := by decide +kernel
theorem dX5_doorRanked_11 : decode cX5_doorRanked 11 = .ok (.iload_n 2, 1) := by decide +kernel
theorem dX5_doorRanked_12 : decode cX5_doorRanked 12 = .ok (.invokevirtual 117, 3) := by decide +kernel
theorem dX5_doorRanked_15 : decode cX5_doorRanked 15 = .ok (.iload_n 1, 1) := by decide +kernel
theorem dX5_doorRanked_16 : decode cX5_doorRanked 16 = .ok (.if_icmp .ne 5, 3) := by decide +kernel
theorem dX5_doorRanked_19 : decode cX5_doorRanked 19 = .ok (.iload_n 2, 1) := by decide +kernel
theorem dX5_doorRanked_20 : decode cX5_doorRanked 20 = .ok (.ireturn, 1) := by decide +kernel
theorem dX5_doorRanked_21 : decode cX5_doorRanked 21 = .ok (.iinc 2 1, 3) := by decide +kernel
theorem dX5_doorRanked_24 : decode cX5_doorRanked 24 = .ok (.goto (-22), 3) := by decide +kernel
theorem dX5_doorRanked_27 : decode cX5_doorRanked 27 = .ok (.iconst (-1), 1) := by decide +kernel
theorem dX5_doorRanked_28 : decode cX5_doorRanked 28 = .ok (.ireturn, 1) := by decide +kernel
theorem dX5_rankOf_0 : decode cX5_rankOf 0 = .ok (.iconst 0, 1) := by decide +kernel
theorem dX5_rankOf_1 : decode cX5_rankOf 1 = .ok (.istore_n 2, 1) := by decide +kernel
theorem dX5_rankOf_2 : decode cX5_rankOf 2 = .ok (.iconst 0, 1) := by decide +kernel
theorem dX5_rankOf_3 : decode cX5_rankOf 3 = .ok (.istore_n 3, 1) := by decide +kernel
theorem dX5_rankOf_4 : decode cX5_rankOf 4 = .ok (.iload_n 3, 1) := by decide +kernel
theorem dX5_rankOf_5 : decode cX5_rankOf 5 = .ok (.aload_n 0, 1) := by decide +kernel
theorem dX5_rankOf_6 : decode cX5_rankOf 6 = .ok (.getfield 21, 3) := by decide +kernel
theorem dX5_rankOf_9 : decode cX5_rankOf 9 = .ok (.if_icmp .ge 21, 3) := by decide +kernel
theorem dX5_rankOf_12 : decode cX5_rankOf 12 = .ok (.aload_n 0, 1) := by decide +kernel
theorem dX5_rankOf_13 : decode cX5_rankOf 13 = .ok (.iload_n 3, 1) := by decide +kernel
theorem dX5_rankOf_14 : decode cX5_rankOf 14 = .ok (.iload_n 1, 1) := by decide +kernel
theorem dX5_rankOf_15 : decode cX5_rankOf 15 = .ok (.invokevirtual 120, 3) := by decide +kernel
theorem dX5_rankOf_18 : decode cX5_rankOf 18 = .ok (.ifCond .eq 6, 3) := by decide +kernel
theorem dX5_rankOf_21 : decode cX5_rankOf 21 = .ok (.iinc 2 1, 3) := by decide +kernel
theorem dX5_rankOf_24 : decode cX5_rankOf 24 = .ok (.iinc 3 1, 3) := by decide +kernel
theorem dX5_rankOf_27 : decode cX5_rankOf 27 = .ok (.goto (-23), 3) := by decide +kernel
theorem dX5_rankOf_30 : decode cX5_rankOf 30 = .ok (.iload_n 2, 1) := by decide +kernel
theorem dX5_rankOf_31 : decode cX5_rankOf 31 = .ok (.ireturn, 1) := by decide +kernel
theorem dX5_ranksBefore_0 : decode cX5_ranksBefore 0 = .ok (.aload_n 0, 1) := by decide +kernel
theorem dX5_ranksBefore_1 : decode cX5_ranksBefore 1 = .ok (.iload_n 1, 1) := by decide +kernel
theorem dX5_ranksBefore_2 : decode cX5_ranksBefore 2 = .ok (.invokevirtual 108, 3) := by decide +kernel
theorem dX5_ranksBefore_5 : decode cX5_ranksBefore 5 = .ok (.istore_n 3, 1) := by decide +kernel
theorem dX5_ranksBefore_6 : decode cX5_ranksBefore 6 = .ok (.aload_n 0, 1) := by decide +kernel
theorem dX5_ranksBefore_7 : decode cX5_ranksBefore 7 = .ok (.iload_n 2, 1) := by decide +kernel
theorem dX5_ranksBefore_8 : decode cX5_ranksBefore 8 = .ok (.invokevirtual 108, 3) := by decide +kernel
theorem dX5_ranksBefore_11 : decode cX5_ranksBefore 11 = .ok (.istore 4, 2) := by decide +kernel
theorem dX5_ranksBefore_13 : decode cX5_ranksBefore 13 = .ok (.iload_n 3, 1) := by decide +kernel
theorem dX5_ranksBefore_14 : decode cX5_ranksBefore 14 = .ok (.iload 4, 2) := by decide +kernel
theorem dX5_ranksBefore_16 : decode cX5_ranksBefore 16 = .ok (.if_icmp .eq 15, 3) := by decide +kernel
theorem dX5_ranksBefore_19 : decode cX5_ranksBefore 19 = .ok (.iload_n 3, 1) := by decide +kernel
theorem dX5_ranksBefore_20 : decode cX5_ranksBefore 20 = .ok (.iload 4, 2) := by decide +kernel
theorem dX5_ranksBefore_22 : decode cX5_ranksBefore 22 = .ok (.if_icmp .le 7, 3) := by decide +kernel
theorem dX5_ranksBefore_25 : decode cX5_ranksBefore 25 = .ok (.iconst 1, 1) := by decide +kernel
theorem dX5_ranksBefore_26 : decode cX5_ranksBefore 26 = .ok (.goto 4, 3) := by decide +kernel
theorem dX5_ranksBefore_29 : decode cX5_ranksBefore 29 = .ok (.iconst 0, 1) := by decide +kernel
theorem dX5_ranksBefore_30 : decode cX5_ranksBefore 30 = .ok (.ireturn, 1) := by decide +kernel
theorem dX5_ranksBefore_31 : decode cX5_ranksBefore 31 = .ok (.aload_n 0, 1) := by decide +kernel
theorem dX5_ranksBefore_32 : decode cX5_ranksBefore 32 = .ok (.iload_n 1, 1) := by decide +kernel
theorem dX5_ranksBefore_33 : decode cX5_ranksBefore 33 = .ok (.invokevirtual 93, 3) := by decide +kernel
theorem dX5_ranksBefore_36 : decode cX5_ranksBefore 36 = .ok (.istore 5, 2) := by decide +kernel
theorem dX5_ranksBefore_38 : decode cX5_ranksBefore 38 = .ok (.aload_n 0, 1) := by decide +kernel
theorem dX5_ranksBefore_39 : decode cX5_ranksBefore 39 = .ok (.iload_n 2, 1) := by decide +kernel
theorem dX5_ranksBefore_40 : decode cX5_ranksBefore 40 = .ok (.invokevirtual 93, 3) := by decide +kernel
theorem dX5_ranksBefore_43 : decode cX5_ranksBefore 43 = .ok (.istore 6, 2) := by decide +kernel
theorem dX5_ranksBefore_45 : decode cX5_ranksBefore 45 = .ok (.iload_n 3, 1) := by decide +kernel
theorem dX5_ranksBefore_46 : decode cX5_ranksBefore 46 = .ok (.iconst (-1), 1) := by decide +kernel
theorem dX5_ranksBefore_47 : decode cX5_ranksBefore 47 = .ok (.if_icmp .eq 23, 3) := by decide +kernel
theorem dX5_ranksBefore_50 : decode cX5_ranksBefore 50 = .ok (.iload 5, 2) := by decide +kernel
theorem dX5_ranksBefore_52 : decode cX5_ranksBefore 52 = .ok (.iload 6, 2) := by decide +kernel
theorem dX5_ranksBefore_54 : decode cX5_ranksBefore 54 = .ok (.if_icmp .eq 16, 3) := by decide +kernel
theorem dX5_ranksBefore_57 : decode cX5_ranksBefore 57 = .ok (.iload 5, 2) := by decide +kernel
theorem dX5_ranksBefore_59 : decode cX5_ranksBefore 59 = .ok (.iload 6, 2) := by decide +kernel
theorem dX5_ranksBefore_61 : decode cX5_ranksBefore 61 = .ok (.if_icmp .le 7, 3) := by decide +kernel
theorem dX5_ranksBefore_64 : decode cX5_ranksBefore 64 = .ok (.iconst 1, 1) := by decide +kernel
theorem dX5_ranksBefore_65 : decode cX5_ranksBefore 65 = .ok (.goto 4, 3) := by decide +kernel
theorem dX5_ranksBefore_68 : decode cX5_ranksBefore 68 = .ok (.iconst 0, 1) := by decide +kernel
theorem dX5_ranksBefore_69 : decode cX5_ranksBefore 69 = .ok (.ireturn, 1) := by decide +kernel
theorem dX5_ranksBefore_70 : decode cX5_ranksBefore 70 = .ok (.iload_n 1, 1) := by decide +kernel
theorem dX5_ranksBefore_71 : decode cX5_ranksBefore 71 = .ok (.iload_n 2, 1) := by decide +kernel
theorem dX5_ranksBefore_72 : decode cX5_ranksBefore 72 = .ok (.if_icmp .ge 7, 3) := by decide +kernel
theorem dX5_ranksBefore_75 : decode cX5_ranksBefore 75 = .ok (.iconst 1, 1) := by decide +kernel
theorem dX5_ranksBefore_76 : decode cX5_ranksBefore 76 = .ok (.goto 4, 3) := by decide +kernel
theorem dX5_ranksBefore_79 : decode cX5_ranksBefore 79 = .ok (.iconst 0, 1) := by decide +kernel
theorem dX5_ranksBefore_80 : decode cX5_ranksBefore 80 = .ok (.ireturn, 1) := by decide +kernel
theorem dX5_tryNewDoor_0 : decode cX5_tryNewDoor 0 = .ok (.iload_n 1, 1) := by decide +kernel
theorem dX5_tryNewDoor_1 : decode cX5_tryNewDoor 1 = .ok (.invokestatic 123, 3) := by decide +kernel
theorem dX5_tryNewDoor_4 : decode cX5_tryNewDoor 4 = .ok (.ifCond .eq 13, 3) := by decide +kernel
theorem dX5_tryNewDoor_7 : decode cX5_tryNewDoor 7 = .ok (.iload_n 2, 1) := by decide +kernel
theorem dX5_tryNewDoor_8 : decode cX5_tryNewDoor 8 = .ok (.ifCond .lt 9, 3) := by decide +kernel
theorem dX5_tryNewDoor_11 : decode cX5_tryNewDoor 11 = .ok (.iload_n 2, 1) := by decide +kernel
theorem dX5_tryNewDoor_12 : decode cX5_tryNewDoor 12 = .ok (.bipush 6, 2) := by decide +kernel
theorem dX5_tryNewDoor_14 : decode cX5_tryNewDoor 14 = .ok (.if_icmp .lt 6, 3) := by decide +kernel
theorem dX5_tryNewDoor_17 : decode cX5_tryNewDoor 17 = .ok (.bipush (-2), 2) := by decide +kernel
theorem dX5_tryNewDoor_19 : decode cX5_tryNewDoor 19 = .ok (.ireturn, 1) := by decide +kernel
theorem dX5_tryNewDoor_20 : decode cX5_tryNewDoor 20 = .ok (.aload_n 0, 1) := by decide +kernel
theorem dX5_tryNewDoor_21 : decode cX5_tryNewDoor 21 = .ok (.getfield 21, 3) := by decide +kernel
theorem dX5_tryNewDoor_24 : decode cX5_tryNewDoor 24 = .ok (.bipush 8, 2) := by decide +kernel
theorem dX5_tryNewDoor_26 : decode cX5_tryNewDoor 26 = .ok (.if_icmp .lt 6, 3) := by decide +kernel
theorem dX5_tryNewDoor_29 : decode cX5_tryNewDoor 29 = .ok (.bipush (-3), 2) := by decide +kernel
theorem dX5_tryNewDoor_31 : decode cX5_tryNewDoor 31 = .ok (.ireturn, 1) := by decide +kernel
theorem dX5_tryNewDoor_32 : decode cX5_tryNewDoor 32 = .ok (.aload_n 0, 1) := by decide +kernel
theorem dX5_tryNewDoor_33 : decode cX5_tryNewDoor 33 = .ok (.getfield 24, 3) := by decide +kernel
theorem dX5_tryNewDoor_36 : decode cX5_tryNewDoor 36 = .ok (.aload_n 0, 1) := by decide +kernel
theorem dX5_tryNewDoor_37 : decode cX5_tryNewDoor 37 = .ok (.getfield 21, 3) := by decide +kernel
theorem dX5_tryNewDoor_40 : decode cX5_tryNewDoor 40 = .ok (.iload_n 1, 1) := by decide +kernel
theorem dX5_tryNewDoor_41 : decode cX5_tryNewDoor 41 = .ok (.castore, 1) := by decide +kernel
theorem dX5_tryNewDoor_42 : decode cX5_tryNewDoor 42 = .ok (.aload_n 0, 1) := by decide +kernel
theorem dX5_tryNewDoor_43 : decode cX5_tryNewDoor 43 = .ok (.getfield 28, 3) := by decide +kernel
theorem dX5_tryNewDoor_46 : decode cX5_tryNewDoor 46 = .ok (.aload_n 0, 1) := by decide +kernel
theorem dX5_tryNewDoor_47 : decode cX5_tryNewDoor 47 = .ok (.getfield 21, 3) := by decide +kernel
theorem dX5_tryNewDoor_50 : decode cX5_tryNewDoor 50 = .ok (.iload_n 2, 1) := by decide +kernel
theorem dX5_tryNewDoor_51 : decode cX5_tryNewDoor 51 = .ok (.iastore, 1) := by decide +kernel
theorem dX5_tryNewDoor_52 : decode cX5_tryNewDoor 52 = .ok (.aload_n 0, 1) := by decide +kernel
theorem dX5_tryNewDoor_53 : decode cX5_tryNewDoor 53 = .ok (.dup, 1) := by decide +kernel
theorem dX5_tryNewDoor_54 : decode cX5_tryNewDoor 54 = .ok (.getfield 21, 3) := by decide +kernel
theorem dX5_tryNewDoor_57 : decode cX5_tryNewDoor 57 = .ok (.iconst 1, 1) := by decide +kernel
theorem dX5_tryNewDoor_58 : decode cX5_tryNewDoor 58 = .ok (.iadd, 1) := by decide +kernel
theorem dX5_tryNewDoor_59 : decode cX5_tryNewDoor 59 = .ok (.putfield 21, 3) := by decide +kernel
theorem dX5_tryNewDoor_62 : decode cX5_tryNewDoor 62 = .ok (.aload_n 0, 1) := by decide +kernel
theorem dX5_tryNewDoor_63 : decode cX5_tryNewDoor 63 = .ok (.getfield 21, 3) := by decide +kernel
theorem dX5_tryNewDoor_66 : decode cX5_tryNewDoor 66 = .ok (.iconst 1, 1) := by decide +kernel
theorem dX5_tryNewDoor_67 : decode cX5_tryNewDoor 67 = .ok (.isub, 1) := by decide +kernel
theorem dX5_tryNewDoor_68 : decode cX5_tryNewDoor 68 = .ok (.ireturn, 1) := by decide +kernel
theorem dX5_tryNewExaminer_0 : decode cX5_tryNewExaminer 0 = .ok (.iload_n 1, 1) := by decide +kernel
theorem dX5_tryNewExaminer_1 : decode cX5_tryNewExaminer 1 = .ok (.invokestatic 123, 3) := by decide +kernel
theorem dX5_tryNewExaminer_4 : decode cX5_tryNewExaminer 4 = .ok (.ifCond .eq 36, 3) := by decide +kernel
theorem dX5_tryNewExaminer_7 : decode cX5_tryNewExaminer 7 = .ok (.iload_n 2, 1) := by decide +kernel
theorem dX5_tryNewExaminer_8 : decode cX5_tryNewExaminer 8 = .ok (.iconst 1, 1) := by decide +kernel
theorem dX5_tryNewExaminer_9 : decode cX5_tryNewExaminer 9 = .ok (.if_icmp .lt 31, 3) := by decide +kernel
theorem dX5_tryNewExaminer_12 : decode cX5_tryNewExaminer 12 = .ok (.iload_n 2, 1) := by decide +kernel
theorem dX5_tryNewExaminer_13 : decode cX5_tryNewExaminer 13 = .ok (.bipush 64, 2) := by decide +kernel
theorem dX5_tryNewExaminer_15 : decode cX5_tryNewExaminer 15 = .ok (.if_icmp .ge 25, 3) := by decide +kernel
theorem dX5_tryNewExaminer_18 : decode cX5_tryNewExaminer 18 = .ok (.iload_n 3, 1) := by decide +kernel
theorem dX5_tryNewExaminer_19 : decode cX5_tryNewExaminer 19 = .ok (.iconst 1, 1) := by decide +kernel
theorem dX5_tryNewExaminer_20 : decode cX5_tryNewExaminer 20 = .ok (.if_icmp .lt 20, 3) := by decide +kernel
theorem dX5_tryNewExaminer_23 : decode cX5_tryNewExaminer 23 = .ok (.iload_n 3, 1) := by decide +kernel
theorem dX5_tryNewExaminer_24 : decode cX5_tryNewExaminer 24 = .ok (.iconst 4, 1) := by decide +kernel
theorem dX5_tryNewExaminer_25 : decode cX5_tryNewExaminer 25 = .ok (.if_icmp .gt 15, 3) := by decide +kernel
theorem dX5_tryNewExaminer_28 : decode cX5_tryNewExaminer 28 = .ok (.iload 4, 2) := by decide +kernel
theorem dX5_tryNewExaminer_30 : decode cX5_tryNewExaminer 30 = .ok (.ifCond .lt 10, 3) := by decide +kernel
theorem dX5_tryNewExaminer_33 : decode cX5_tryNewExaminer 33 = .ok (.iload 4, 2) := by decide +kernel
theorem dX5_tryNewExaminer_35 : decode cX5_tryNewExaminer 35 = .ok (.bipush 9, 2) := by decide +kernel
theorem dX5_tryNewExaminer_37 : decode cX5_tryNewExaminer 37 = .ok (.if_icmp .le 6, 3) := by decide +kernel
theorem dX5_tryNewExaminer_40 : decode cX5_tryNewExaminer 40 = .ok (.bipush (-2), 2) := by decide +kernel
theorem dX5_tryNewExaminer_42 : decode cX5_tryNewExaminer 42 = .ok (.ireturn, 1) := by decide +kernel
theorem dX5_tryNewExaminer_43 : decode cX5_tryNewExaminer 43 = .ok (.aload_n 0, 1) := by decide +kernel
theorem dX5_tryNewExaminer_44 : decode cX5_tryNewExaminer 44 = .ok (.getfield 32, 3) := by decide +kernel
theorem dX5_tryNewExaminer_47 : decode cX5_tryNewExaminer 47 = .ok (.bipush 6, 2) := by decide +kernel
theorem dX5_tryNewExaminer_49 : decode cX5_tryNewExaminer 49 = .ok (.if_icmp .lt 6, 3) := by decide +kernel
theorem dX5_tryNewExaminer_52 : decode cX5_tryNewExaminer 52 = .ok (.bipush (-3), 2) := by decide +kernel
theorem dX5_tryNewExaminer_54 : decode cX5_tryNewExaminer 54 = .ok (.ireturn, 1) := by decide +kernel
theorem dX5_tryNewExaminer_55 : decode cX5_tryNewExaminer 55 = .ok (.aload_n 0, 1) := by decide +kernel
theorem dX5_tryNewExaminer_56 : decode cX5_tryNewExaminer 56 = .ok (.getfield 35, 3) := by decide +kernel
theorem dX5_tryNewExaminer_59 : decode cX5_tryNewExaminer 59 = .ok (.aload_n 0, 1) := by decide +kernel
theorem dX5_tryNewExaminer_60 : decode cX5_tryNewExaminer 60 = .ok (.getfield 32, 3) := by decide +kernel
theorem dX5_tryNewExaminer_63 : decode cX5_tryNewExaminer 63 = .ok (.iload_n 1, 1) := by decide +kernel
theorem dX5_tryNewExaminer_64 : decode cX5_tryNewExaminer 64 = .ok (.castore, 1) := by decide +kernel
theorem dX5_tryNewExaminer_65 : decode cX5_tryNewExaminer 65 = .ok (.aload_n 0, 1) := by decide +kernel
theorem dX5_tryNewExaminer_66 : decode cX5_tryNewExaminer 66 = .ok (.getfield 38, 3) := by decide +kernel
theorem dX5_tryNewExaminer_69 : decode cX5_tryNewExaminer 69 = .ok (.aload_n 0, 1) := by decide +kernel
theorem dX5_tryNewExaminer_70 : decode cX5_tryNewExaminer 70 = .ok (.getfield 32, 3) := by decide +kernel
theorem dX5_tryNewExaminer_73 : decode cX5_tryNewExaminer 73 = .ok (.iload_n 2, 1) := by decide +kernel
theorem dX5_tryNewExaminer_74 : decode cX5_tryNewExaminer 74 = .ok (.iastore, 1) := by decide +kernel
theorem dX5_tryNewExaminer_75 : decode cX5_tryNewExaminer 75 = .ok (.aload_n 0, 1) := by decide +kernel
theorem dX5_tryNewExaminer_76 : decode cX5_tryNewExaminer 76 = .ok (.getfield 41, 3) := by decide +kernel
theorem dX5_tryNewExaminer_79 : decode cX5_tryNewExaminer 79 = .ok (.aload_n 0, 1) := by decide +kernel
theorem dX5_tryNewExaminer_80 : decode cX5_tryNewExaminer 80 = .ok (.getfield 32, 3) := by decide +kernel
theorem dX5_tryNewExaminer_83 : decode cX5_tryNewExaminer 83 = .ok (.iload_n 3, 1) := by decide +kernel
theorem dX5_tryNewExaminer_84 : decode cX5_tryNewExaminer 84 = .ok (.iastore, 1) := by decide +kernel
theorem dX5_tryNewExaminer_85 : decode cX5_tryNewExaminer 85 = .ok (.aload_n 0, 1) := by decide +kernel
theorem dX5_tryNewExaminer_86 : decode cX5_tryNewExaminer 86 = .ok (.getfield 44, 3) := by decide +kernel
theorem dX5_tryNewExaminer_89 : decode cX5_tryNewExaminer 89 = .ok (.aload_n 0, 1) := by decide +kernel
theorem dX5_tryNewExaminer_90 : decode cX5_tryNewExaminer 90 = .ok (.getfield 32, 3) := by decide +kernel
theorem dX5_tryNewExaminer_93 : decode cX5_tryNewExaminer 93 = .ok (.iload 4, 2) := by decide +kernel
theorem dX5_tryNewExaminer_95 : decode cX5_tryNewExaminer 95 = .ok (.iastore, 1) := by decide +kernel
theorem dX5_tryNewExaminer_96 : decode cX5_tryNewExaminer 96 = .ok (.aload_n 0, 1) := by decide +kernel
theorem dX5_tryNewExaminer_97 : decode cX5_tryNewExaminer 97 = .ok (.dup, 1) := by decide +kernel
theorem dX5_tryNewExaminer_98 : decode cX5_tryNewExaminer 98 = .ok (.getfield 32, 3) := by decide +kernel
theorem dX5_tryNewExaminer_101 : decode cX5_tryNewExaminer 101 = .ok (.iconst 1, 1) := by decide +kernel
theorem dX5_tryNewExaminer_102 : decode cX5_tryNewExaminer 102 = .ok (.iadd, 1) := by decide +kernel
theorem dX5_tryNewExaminer_103 : decode cX5_tryNewExaminer 103 = .ok (.putfield 32, 3) := by decide +kernel
theorem dX5_tryNewExaminer_106 : decode cX5_tryNewExaminer 106 = .ok (.aload_n 0, 1) := by decide +kernel
theorem dX5_tryNewExaminer_107 : decode cX5_tryNewExaminer 107 = .ok (.getfield 32, 3) := by decide +kernel
theorem dX5_tryNewExaminer_110 : decode cX5_tryNewExaminer 110 = .ok (.iconst 1, 1) := by decide +kernel
theorem dX5_tryNewExaminer_111 : decode cX5_tryNewExaminer 111 = .ok (.isub, 1) := by decide +kernel
theorem dX5_tryNewExaminer_112 : decode cX5_tryNewExaminer 112 = .ok (.ireturn, 1) := by decide +kernel
theorem dX5_tryConflict_0 : decode cX5_tryConflict 0 = .ok (.aload_n 0, 1) := by decide +kernel
theorem dX5_tryConflict_1 : decode cX5_tryConflict 1 = .ok (.iload_n 1, 1) := by decide +kernel
theorem dX5_tryConflict_2 : decode cX5_tryConflict 2 = .ok (.iload_n 2, 1) := by decide +kernel
theorem dX5_tryConflict_3 : decode cX5_tryConflict 3 = .ok (.invokevirtual 127, 3) := by decide +kernel
theorem dX5_tryConflict_6 : decode cX5_tryConflict 6 = .ok (.ifCond .ne 5, 3) := by decide +kernel
theorem dX5_tryConflict_9 : decode cX5_tryConflict 9 = .ok (.iconst (-1), 1) := by decide +kernel
theorem dX5_tryConflict_10 : decode cX5_tryConflict 10 = .ok (.ireturn, 1) := by decide +kernel
theorem dX5_tryConflict_11 : decode cX5_tryConflict 11 = .ok (.aload_n 0, 1) := by decide +kernel
theorem dX5_tryConflict_12 : decode cX5_tryConflict 12 = .ok (.getfield 47, 3) := by decide +kernel
theorem dX5_tryConflict_15 : decode cX5_tryConflict 15 = .ok (.iload_n 1, 1) := by decide +kernel
theorem dX5_tryConflict_16 : decode cX5_tryConflict 16 = .ok (.iaload, 1) := by decide +kernel
theorem dX5_tryConflict_17 : decode cX5_tryConflict 17 = .ok (.iload_n 2, 1) := by decide +kernel
theorem dX5_tryConflict_18 : decode cX5_tryConflict 18 = .ok (.invokestatic 78, 3) := by decide +kernel
theorem dX5_tryConflict_21 : decode cX5_tryConflict 21 = .ok (.ifCond .ne 12, 3) := by decide +kernel
theorem dX5_tryConflict_24 : decode cX5_tryConflict 24 = .ok (.aload_n 0, 1) := by decide +kernel
theorem dX5_tryConflict_25 : decode cX5_tryConflict 25 = .ok (.iload_n 1, 1) := by decide +kernel
theorem dX5_tryConflict_26 : decode cX5_tryConflict 26 = .ok (.iload_n 2, 1) := by decide +kernel
theorem dX5_tryConflict_27 : decode cX5_tryConflict 27 = .ok (.invokevirtual 90, 3) := by decide +kernel
theorem dX5_tryConflict_30 : decode cX5_tryConflict 30 = .ok (.ifCond .eq 6, 3) := by decide +kernel
theorem dX5_tryConflict_33 : decode cX5_tryConflict 33 = .ok (.bipush (-3), 2) := by decide +kernel
theorem dX5_tryConflict_35 : decode cX5_tryConflict 35 = .ok (.ireturn, 1) := by decide +kernel
theorem dX5_tryConflict_36 : decode cX5_tryConflict 36 = .ok (.aload_n 0, 1) := by decide +kernel
theorem dX5_tryConflict_37 : decode cX5_tryConflict 37 = .ok (.getfield 47, 3) := by decide +kernel
theorem dX5_tryConflict_40 : decode cX5_tryConflict 40 = .ok (.iload_n 1, 1) := by decide +kernel
theorem dX5_tryConflict_41 : decode cX5_tryConflict 41 = .ok (.dup2, 1) := by decide +kernel
theorem dX5_tryConflict_42 : decode cX5_tryConflict 42 = .ok (.iaload, 1) := by decide +kernel
theorem dX5_tryConflict_43 : decode cX5_tryConflict 43 = .ok (.iconst 1, 1) := by decide +kernel
theorem dX5_tryConflict_44 : decode cX5_tryConflict 44 = .ok (.iload_n 2, 1) := by decide +kernel
theorem dX5_tryConflict_45 : decode cX5_tryConflict 45 = .ok (.ishl, 1) := by decide +kernel
theorem dX5_tryConflict_46 : decode cX5_tryConflict 46 = .ok (.ior, 1) := by decide +kernel
theorem dX5_tryConflict_47 : decode cX5_tryConflict 47 = .ok (.iastore, 1) := by decide +kernel
theorem dX5_tryConflict_48 : decode cX5_tryConflict 48 = .ok (.aload_n 0, 1) := by decide +kernel
theorem dX5_tryConflict_49 : decode cX5_tryConflict 49 = .ok (.iload_n 2, 1) := by decide +kernel
theorem dX5_tryConflict_50 : decode cX5_tryConflict 50 = .ok (.invokevirtual 130, 3) := by decide +kernel
theorem dX5_tryConflict_53 : decode cX5_tryConflict 53 = .ok (.ireturn, 1) := by decide +kernel
theorem dX5_tryAssignment_0 : decode cX5_tryAssignment 0 = .ok (.aload_n 0, 1) := by decide +kernel
