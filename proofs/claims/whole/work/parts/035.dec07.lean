theorem dL_award_13 : decode cL_award 13 = .ok (.iconst 1, 1) := by decide +kernel
theorem dL_award_14 : decode cL_award 14 = .ok (.ireturn, 1) := by decide +kernel
theorem dL_award_15 : decode cL_award 15 = .ok (.astore_n 3, 1) := by decide +kernel
theorem dL_award_16 : decode cL_award 16 = .ok (.iconst 2, 1) := by decide +kernel
theorem dL_award_17 : decode cL_award 17 = .ok (.ireturn, 1) := by decide +kernel
theorem dL_award_18 : decode cL_award 18 = .ok (.astore_n 3, 1) := by decide +kernel
theorem dL_award_19 : decode cL_award 19 = .ok (.iconst 3, 1) := by decide +kernel
theorem dL_award_20 : decode cL_award 20 = .ok (.ireturn, 1) := by decide +kernel
theorem dL_award_21 : decode cL_award 21 = .ok (.iconst 0, 1) := by decide +kernel
theorem dL_award_22 : decode cL_award 22 = .ok (.ireturn, 1) := by decide +kernel
theorem dL_revoke_0 : decode cL_revoke 0 = .ok (.aload_n 2, 1) := by decide +kernel
theorem dL_revoke_1 : decode cL_revoke 1 = .ok (.iconst 0, 1) := by decide +kernel
theorem dL_revoke_2 : decode cL_revoke 2 = .ok (.aload_n 0, 1) := by decide +kernel
theorem dL_revoke_3 : decode cL_revoke 3 = .ok (.iload_n 1, 1) := by decide +kernel
theorem dL_revoke_4 : decode cL_revoke 4 = .ok (.invokevirtual 46, 3) := by decide +kernel
theorem dL_revoke_7 : decode cL_revoke 7 = .ok (.i2l, 1) := by decide +kernel
theorem dL_revoke_8 : decode cL_revoke 8 = .ok (.lastore, 1) := by decide +kernel
theorem dL_revoke_9 : decode cL_revoke 9 = .ok (.goto 9, 3) := by decide +kernel
theorem dL_revoke_12 : decode cL_revoke 12 = .ok (.astore_n 3, 1) := by decide +kernel
theorem dL_revoke_13 : decode cL_revoke 13 = .ok (.iconst 1, 1) := by decide +kernel
theorem dL_revoke_14 : decode cL_revoke 14 = .ok (.ireturn, 1) := by decide +kernel
theorem dL_revoke_15 : decode cL_revoke 15 = .ok (.astore_n 3, 1) := by decide +kernel
theorem dL_revoke_16 : decode cL_revoke 16 = .ok (.iconst 2, 1) := by decide +kernel
theorem dL_revoke_17 : decode cL_revoke 17 = .ok (.ireturn, 1) := by decide +kernel
theorem dL_revoke_18 : decode cL_revoke 18 = .ok (.iconst 0, 1) := by decide +kernel
theorem dL_revoke_19 : decode cL_revoke 19 = .ok (.ireturn, 1) := by decide +kernel
theorem dL_frameOfDoor_0 : decode cL_frameOfDoor 0 = .ok (.aload_n 2, 1) := by decide +kernel
theorem dL_frameOfDoor_1 : decode cL_frameOfDoor 1 = .ok (.iconst 0, 1) := by decide +kernel
theorem dL_frameOfDoor_2 : decode cL_frameOfDoor 2 = .ok (.aload_n 0, 1) := by decide +kernel
theorem dL_frameOfDoor_3 : decode cL_frameOfDoor 3 = .ok (.iload_n 1, 1) := by decide +kernel
theorem dL_frameOfDoor_4 : decode cL_frameOfDoor 4 = .ok (.invokevirtual 51, 3) := by decide +kernel
theorem dL_frameOfDoor_7 : decode cL_frameOfDoor 7 = .ok (.i2l, 1) := by decide +kernel
theorem dL_frameOfDoor_8 : decode cL_frameOfDoor 8 = .ok (.lastore, 1) := by decide +kernel
theorem dL_frameOfDoor_9 : decode cL_frameOfDoor 9 = .ok (.goto 6, 3) := by decide +kernel
theorem dL_frameOfDoor_12 : decode cL_frameOfDoor 12 = .ok (.astore_n 3, 1) := by decide +kernel
theorem dL_frameOfDoor_13 : decode cL_frameOfDoor 13 = .ok (.iconst 1, 1) := by decide +kernel
theorem dL_frameOfDoor_14 : decode cL_frameOfDoor 14 = .ok (.ireturn, 1) := by decide +kernel
theorem dL_frameOfDoor_15 : decode cL_frameOfDoor 15 = .ok (.iconst 0, 1) := by decide +kernel
theorem dL_frameOfDoor_16 : decode cL_frameOfDoor 16 = .ok (.ireturn, 1) := by decide +kernel
theorem dL_topic_0 : decode cL_topic 0 = .ok (.aload_n 2, 1) := by decide +kernel
theorem dL_topic_1 : decode cL_topic 1 = .ok (.iconst 0, 1) := by decide +kernel
theorem dL_topic_2 : decode cL_topic 2 = .ok (.aload_n 0, 1) := by decide +kernel
theorem dL_topic_3 : decode cL_topic 3 = .ok (.iload_n 1, 1) := by decide +kernel
theorem dL_topic_4 : decode cL_topic 4 = .ok (.invokevirtual 55, 3) := by decide +kernel
theorem dL_topic_7 : decode cL_topic 7 = .ok (.i2l, 1) := by decide +kernel
theorem dL_topic_8 : decode cL_topic 8 = .ok (.lastore, 1) := by decide +kernel
theorem dL_topic_9 : decode cL_topic 9 = .ok (.goto 6, 3) := by decide +kernel
theorem dL_topic_12 : decode cL_topic 12 = .ok (.astore_n 3, 1) := by decide +kernel
theorem dL_topic_13 : decode cL_topic 13 = .ok (.iconst 1, 1) := by decide +kernel
theorem dL_topic_14 : decode cL_topic 14 = .ok (.ireturn, 1) := by decide +kernel
theorem dL_topic_15 : decode cL_topic 15 = .ok (.iconst 0, 1) := by decide +kernel
theorem dL_topic_16 : decode cL_topic 16 = .ok (.ireturn, 1) := by decide +kernel
theorem dL_examinersOf_0 : decode cL_examinersOf 0 = .ok (.aload_n 2, 1) := by decide +kernel
theorem dL_examinersOf_1 : decode cL_examinersOf 1 = .ok (.iconst 0, 1) := by decide +kernel
theorem dL_examinersOf_2 : decode cL_examinersOf 2 = .ok (.aload_n 0, 1) := by decide +kernel
theorem dL_examinersOf_3 : decode cL_examinersOf 3 = .ok (.iload_n 1, 1) := by decide +kernel
theorem dL_examinersOf_4 : decode cL_examinersOf 4 = .ok (.invokevirtual 58, 3) := by decide +kernel
theorem dL_examinersOf_7 : decode cL_examinersOf 7 = .ok (.i2l, 1) := by decide +kernel
theorem dL_examinersOf_8 : decode cL_examinersOf 8 = .ok (.lastore, 1) := by decide +kernel
theorem dL_examinersOf_9 : decode cL_examinersOf 9 = .ok (.goto 6, 3) := by decide +kernel
theorem dL_examinersOf_12 : decode cL_examinersOf 12 = .ok (.astore_n 3, 1) := by decide +kernel
theorem dL_examinersOf_13 : decode cL_examinersOf 13 = .ok (.iconst 1, 1) := by decide +kernel
theorem dL_examinersOf_14 : decode cL_examinersOf 14 = .ok (.ireturn, 1) := by decide +kernel
theorem dL_examinersOf_15 : decode cL_examinersOf 15 = .ok (.iconst 0, 1) := by decide +kernel
theorem dL_examinersOf_16 : decode cL_examinersOf 16 = .ok (.ireturn, 1) := by decide +kernel
theorem dL_gradesOf_0 : decode cL_gradesOf 0 = .ok (.aload_n 2, 1) := by decide +kernel
theorem dL_gradesOf_1 : decode cL_gradesOf 1 = .ok (.iconst 0, 1) := by decide +kernel
theorem dL_gradesOf_2 : decode cL_gradesOf 2 = .ok (.aload_n 0, 1) := by decide +kernel
theorem dL_gradesOf_3 : decode cL_gradesOf 3 = .ok (.iload_n 1, 1) := by decide +kernel
theorem dL_gradesOf_4 : decode cL_gradesOf 4 = .ok (.invokevirtual 61, 3) := by decide +kernel
theorem dL_gradesOf_7 : decode cL_gradesOf 7 = .ok (.i2l, 1) := by decide +kernel
theorem dL_gradesOf_8 : decode cL_gradesOf 8 = .ok (.lastore, 1) := by decide +kernel
theorem dL_gradesOf_9 : decode cL_gradesOf 9 = .ok (.goto 6, 3) := by decide +kernel
theorem dL_gradesOf_12 : decode cL_gradesOf 12 = .ok (.astore_n 3, 1) := by decide +kernel
theorem dL_gradesOf_13 : decode cL_gradesOf 13 = .ok (.iconst 1, 1) := by decide +kernel
theorem dL_gradesOf_14 : decode cL_gradesOf 14 = .ok (.ireturn, 1) := by decide +kernel
theorem dL_gradesOf_15 : decode cL_gradesOf 15 = .ok (.iconst 0, 1) := by decide +kernel
theorem dL_gradesOf_16 : decode cL_gradesOf 16 = .ok (.ireturn, 1) := by decide +kernel
theorem dL_result_0 : decode cL_result 0 = .ok (.aload_n 2, 1) := by decide +kernel
theorem dL_result_1 : decode cL_result 1 = .ok (.iconst 0, 1) := by decide +kernel
theorem dL_result_2 : decode cL_result 2 = .ok (.aload_n 0, 1) := by decide +kernel
theorem dL_result_3 : decode cL_result 3 = .ok (.iload_n 1, 1) := by decide +kernel
theorem dL_result_4 : decode cL_result 4 = .ok (.invokevirtual 64, 3) := by decide +kernel
theorem dL_result_7 : decode cL_result 7 = .ok (.i2l, 1) := by decide +kernel
theorem dL_result_8 : decode cL_result 8 = .ok (.lastore, 1) := by decide +kernel
theorem dL_result_9 : decode cL_result 9 = .ok (.goto 9, 3) := by decide +kernel
theorem dL_result_12 : decode cL_result 12 = .ok (.astore_n 3, 1) := by decide +kernel
theorem dL_result_13 : decode cL_result 13 = .ok (.iconst 1, 1) := by decide +kernel
theorem dL_result_14 : decode cL_result 14 = .ok (.ireturn, 1) := by decide +kernel
theorem dL_result_15 : decode cL_result 15 = .ok (.astore_n 3, 1) := by decide +kernel
theorem dL_result_16 : decode cL_result 16 = .ok (.iconst 2, 1) := by decide +kernel
theorem dL_result_17 : decode cL_result 17 = .ok (.ireturn, 1) := by decide +kernel
theorem dL_result_18 : decode cL_result 18 = .ok (.iconst 0, 1) := by decide +kernel
theorem dL_result_19 : decode cL_result 19 = .ok (.ireturn, 1) := by decide +kernel
theorem dL_passes_0 : decode cL_passes 0 = .ok (.aload_n 2, 1) := by decide +kernel
theorem dL_passes_1 : decode cL_passes 1 = .ok (.iconst 0, 1) := by decide +kernel
theorem dL_passes_2 : decode cL_passes 2 = .ok (.aload_n 0, 1) := by decide +kernel
theorem dL_passes_3 : decode cL_passes 3 = .ok (.iload_n 1, 1) := by decide +kernel
theorem dL_passes_4 : decode cL_passes 4 = .ok (.invokevirtual 67, 3) := by decide +kernel
theorem dL_passes_7 : decode cL_passes 7 = .ok (.ifCond .eq 7, 3) := by decide +kernel
theorem dL_passes_10 : decode cL_passes 10 = .ok (.lconst 1, 1) := by decide +kernel
theorem dL_passes_11 : decode cL_passes 11 = .ok (.goto 4, 3) := by decide +kernel
theorem dL_passes_14 : decode cL_passes 14 = .ok (.lconst 0, 1) := by decide +kernel
theorem dL_passes_15 : decode cL_passes 15 = .ok (.lastore, 1) := by decide +kernel
theorem dL_passes_16 : decode cL_passes 16 = .ok (.goto 6, 3) := by decide +kernel
theorem dL_passes_19 : decode cL_passes 19 = .ok (.astore_n 3, 1) := by decide +kernel
theorem dL_passes_20 : decode cL_passes 20 = .ok (.iconst 1, 1) := by decide +kernel
theorem dL_passes_21 : decode cL_passes 21 = .ok (.ireturn, 1) := by decide +kernel
theorem dL_passes_22 : decode cL_passes 22 = .ok (.iconst 0, 1) := by decide +kernel
theorem dL_passes_23 : decode cL_passes 23 = .ok (.ireturn, 1) := by decide +kernel
theorem dL_wasGranted_0 : decode cL_wasGranted 0 = .ok (.aload_n 2, 1) := by decide +kernel
theorem dL_wasGranted_1 : decode cL_wasGranted 1 = .ok (.iconst 0, 1) := by decide +kernel
theorem dL_wasGranted_2 : decode cL_wasGranted 2 = .ok (.aload_n 0, 1) := by decide +kernel
theorem dL_wasGranted_3 : decode cL_wasGranted 3 = .ok (.iload_n 1, 1) := by decide +kernel
theorem dL_wasGranted_4 : decode cL_wasGranted 4 = .ok (.invokevirtual 71, 3) := by decide +kernel
theorem dL_wasGranted_7 : decode cL_wasGranted 7 = .ok (.ifCond .eq 7, 3) := by decide +kernel
theorem dL_wasGranted_10 : decode cL_wasGranted 10 = .ok (.lconst 1, 1) := by decide +kernel
theorem dL_wasGranted_11 : decode cL_wasGranted 11 = .ok (.goto 4, 3) := by decide +kernel
theorem dL_wasGranted_14 : decode cL_wasGranted 14 = .ok (.lconst 0, 1) := by decide +kernel
theorem dL_wasGranted_15 : decode cL_wasGranted 15 = .ok (.lastore, 1) := by decide +kernel
theorem dL_wasGranted_16 : decode cL_wasGranted 16 = .ok (.goto 6, 3) := by decide +kernel
theorem dL_wasGranted_19 : decode cL_wasGranted 19 = .ok (.astore_n 3, 1) := by decide +kernel
theorem dL_wasGranted_20 : decode cL_wasGranted 20 = .ok (.iconst 1, 1) := by decide +kernel
theorem dL_wasGranted_21 : decode cL_wasGranted 21 = .ok (.ireturn, 1) := by decide +kernel
theorem dL_wasGranted_22 : decode cL_wasGranted 22 = .ok (.iconst 0, 1) := by decide +kernel
theorem dL_wasGranted_23 : decode cL_wasGranted 23 = .ok (.ireturn, 1) := by decide +kernel
theorem dL_isEntitled_0 : decode cL_isEntitled 0 = .ok (.aload_n 2, 1) := by decide +kernel
theorem dL_isEntitled_1 : decode cL_isEntitled 1 = .ok (.iconst 0, 1) := by decide +kernel
theorem dL_isEntitled_2 : decode cL_isEntitled 2 = .ok (.aload_n 0, 1) := by decide +kernel
theorem dL_isEntitled_3 : decode cL_isEntitled 3 = .ok (.iload_n 1, 1) := by decide +kernel
theorem dL_isEntitled_4 : decode cL_isEntitled 4 = .ok (.invokevirtual 74, 3) := by decide +kernel
theorem dL_isEntitled_7 : decode cL_isEntitled 7 = .ok (.ifCond .eq 7, 3) := by decide +kernel
theorem dL_isEntitled_10 : decode cL_isEntitled 10 = .ok (.lconst 1, 1) := by decide +kernel
theorem dL_isEntitled_11 : decode cL_isEntitled 11 = .ok (.goto 4, 3) := by decide +kernel
theorem dL_isEntitled_14 : decode cL_isEntitled 14 = .ok (.lconst 0, 1) := by decide +kernel
theorem dL_isEntitled_15 : decode cL_isEntitled 15 = .ok (.lastore, 1) := by decide +kernel
theorem dL_isEntitled_16 : decode cL_isEntitled 16 = .ok (.goto 6, 3) := by decide +kernel
theorem dL_isEntitled_19 : decode cL_isEntitled 19 = .ok (.astore_n 3, 1) := by decide +kernel
theorem dL_isEntitled_20 : decode cL_isEntitled 20 = .ok (.iconst 1, 1) := by decide +kernel
theorem dL_isEntitled_21 : decode cL_isEntitled 21 = .ok (.ireturn, 1) := by decide +kernel
theorem dL_isEntitled_22 : decode cL_isEntitled 22 = .ok (.iconst 0, 1) := by decide +kernel
theorem dL_isEntitled_23 : decode cL_isEntitled 23 = .ok (.ireturn, 1) := by decide +kernel
theorem dL_doorAtRank_0 : decode cL_doorAtRank 0 = .ok (.aload_n 2, 1) := by decide +kernel
theorem dL_doorAtRank_1 : decode cL_doorAtRank 1 = .ok (.iconst 0, 1) := by decide +kernel
theorem dL_doorAtRank_2 : decode cL_doorAtRank 2 = .ok (.aload_n 0, 1) := by decide +kernel
theorem dL_doorAtRank_3 : decode cL_doorAtRank 3 = .ok (.iload_n 1, 1) := by decide +kernel
theorem dL_doorAtRank_4 : decode cL_doorAtRank 4 = .ok (.invokevirtual 77, 3) := by decide +kernel
theorem dL_doorAtRank_7 : decode cL_doorAtRank 7 = .ok (.i2l, 1) := by decide +kernel
theorem dL_doorAtRank_8 : decode cL_doorAtRank 8 = .ok (.lastore, 1) := by decide +kernel
theorem dL_doorAtRank_9 : decode cL_doorAtRank 9 = .ok (.goto 6, 3) := by decide +kernel
theorem dL_doorAtRank_12 : decode cL_doorAtRank 12 = .ok (.astore_n 3, 1) := by decide +kernel
theorem dL_doorAtRank_13 : decode cL_doorAtRank 13 = .ok (.iconst 1, 1) := by decide +kernel
theorem dL_doorAtRank_14 : decode cL_doorAtRank 14 = .ok (.ireturn, 1) := by decide +kernel
theorem dL_doorAtRank_15 : decode cL_doorAtRank 15 = .ok (.iconst 0, 1) := by decide +kernel
theorem dL_doorAtRank_16 : decode cL_doorAtRank 16 = .ok (.ireturn, 1) := by decide +kernel
theorem dL_frameOfExaminer_0 : decode cL_frameOfExaminer 0 = .ok (.aload_n 2, 1) := by decide +kernel
theorem dL_frameOfExaminer_1 : decode cL_frameOfExaminer 1 = .ok (.iconst 0, 1) := by decide +kernel
theorem dL_frameOfExaminer_2 : decode cL_frameOfExaminer 2 = .ok (.aload_n 0, 1) := by decide +kernel
theorem dL_frameOfExaminer_3 : decode cL_frameOfExaminer 3 = .ok (.iload_n 1, 1) := by decide +kernel
theorem dL_frameOfExaminer_4 : decode cL_frameOfExaminer 4 = .ok (.invokevirtual 80, 3) := by decide +kernel
theorem dL_frameOfExaminer_7 : decode cL_frameOfExaminer 7 = .ok (.i2l, 1) := by decide +kernel
theorem dL_frameOfExaminer_8 : decode cL_frameOfExaminer 8 = .ok (.lastore, 1) := by decide +kernel
theorem dL_frameOfExaminer_9 : decode cL_frameOfExaminer 9 = .ok (.goto 6, 3) := by decide +kernel
theorem dL_frameOfExaminer_12 : decode cL_frameOfExaminer 12 = .ok (.astore_n 3, 1) := by decide +kernel
theorem dL_frameOfExaminer_13 : decode cL_frameOfExaminer 13 = .ok (.iconst 1, 1) := by decide +kernel
theorem dL_frameOfExaminer_14 : decode cL_frameOfExaminer 14 = .ok (.ireturn, 1) := by decide +kernel
theorem dL_frameOfExaminer_15 : decode cL_frameOfExaminer 15 = .ok (.iconst 0, 1) := by decide +kernel
theorem dL_frameOfExaminer_16 : decode cL_frameOfExaminer 16 = .ok (.ireturn, 1) := by decide +kernel
theorem dL_load_0 : decode cL_load 0 = .ok (.aload_n 2, 1) := by decide +kernel
theorem dL_load_1 : decode cL_load 1 = .ok (.iconst 0, 1) := by decide +kernel
theorem dL_load_2 : decode cL_load 2 = .ok (.aload_n 0, 1) := by decide +kernel
theorem dL_load_3 : decode cL_load 3 = .ok (.iload_n 1, 1) := by decide +kernel
theorem dL_load_4 : decode cL_load 4 = .ok (.invokevirtual 83, 3) := by decide +kernel
theorem dL_load_7 : decode cL_load 7 = .ok (.i2l, 1) := by decide +kernel
theorem dL_load_8 : decode cL_load 8 = .ok (.lastore, 1) := by decide +kernel
theorem dL_load_9 : decode cL_load 9 = .ok (.goto 6, 3) := by decide +kernel
theorem dL_load_12 : decode cL_load 12 = .ok (.astore_n 3, 1) := by decide +kernel
theorem dL_load_13 : decode cL_load 13 = .ok (.iconst 1, 1) := by decide +kernel
theorem dL_load_14 : decode cL_load 14 = .ok (.ireturn, 1) := by decide +kernel
theorem dL_load_15 : decode cL_load 15 = .ok (.iconst 0, 1) := by decide +kernel
theorem dL_load_16 : decode cL_load 16 = .ok (.ireturn, 1) := by decide +kernel
theorem dL_isNeutral_0 : decode cL_isNeutral 0 = .ok (.aload_n 3, 1) := by decide +kernel
theorem dL_isNeutral_1 : decode cL_isNeutral 1 = .ok (.iconst 0, 1) := by decide +kernel
theorem dL_isNeutral_2 : decode cL_isNeutral 2 = .ok (.aload_n 0, 1) := by decide +kernel
theorem dL_isNeutral_3 : decode cL_isNeutral 3 = .ok (.iload_n 1, 1) := by decide +kernel
theorem dL_isNeutral_4 : decode cL_isNeutral 4 = .ok (.iload_n 2, 1) := by decide +kernel
theorem dL_isNeutral_5 : decode cL_isNeutral 5 = .ok (.invokevirtual 86, 3) := by decide +kernel
theorem dL_isNeutral_8 : decode cL_isNeutral 8 = .ok (.ifCond .eq 7, 3) := by decide +kernel
theorem dL_isNeutral_11 : decode cL_isNeutral 11 = .ok (.lconst 1, 1) := by decide +kernel
theorem dL_isNeutral_12 : decode cL_isNeutral 12 = .ok (.goto 4, 3) := by decide +kernel
theorem dL_isNeutral_15 : decode cL_isNeutral 15 = .ok (.lconst 0, 1) := by decide +kernel
theorem dL_isNeutral_16 : decode cL_isNeutral 16 = .ok (.lastore, 1) := by decide +kernel
theorem dL_isNeutral_17 : decode cL_isNeutral 17 = .ok (.goto 7, 3) := by decide +kernel
theorem dL_isNeutral_20 : decode cL_isNeutral 20 = .ok (.astore 4, 2) := by decide +kernel
theorem dL_isNeutral_22 : decode cL_isNeutral 22 = .ok (.iconst 1, 1) := by decide +kernel
theorem dL_isNeutral_23 : decode cL_isNeutral 23 = .ok (.ireturn, 1) := by decide +kernel
theorem dL_isNeutral_24 : decode cL_isNeutral 24 = .ok (.iconst 0, 1) := by decide +kernel
theorem dL_isNeutral_25 : decode cL_isNeutral 25 = .ok (.ireturn, 1) := by decide +kernel
theorem dL_mayJudge_0 : decode cL_mayJudge 0 = .ok (.aload_n 3, 1) := by decide +kernel
theorem dL_mayJudge_1 : decode cL_mayJudge 1 = .ok (.iconst 0, 1) := by decide +kernel
theorem dL_mayJudge_2 : decode cL_mayJudge 2 = .ok (.aload_n 0, 1) := by decide +kernel
theorem dL_mayJudge_3 : decode cL_mayJudge 3 = .ok (.iload_n 1, 1) := by decide +kernel
theorem dL_mayJudge_4 : decode cL_mayJudge 4 = .ok (.iload_n 2, 1) := by decide +kernel
theorem dL_mayJudge_5 : decode cL_mayJudge 5 = .ok (.invokevirtual 90, 3) := by decide +kernel
theorem dL_mayJudge_8 : decode cL_mayJudge 8 = .ok (.ifCond .eq 7, 3) := by decide +kernel
theorem dL_mayJudge_11 : decode cL_mayJudge 11 = .ok (.lconst 1, 1) := by decide +kernel
theorem dL_mayJudge_12 : decode cL_mayJudge 12 = .ok (.goto 4, 3) := by decide +kernel
theorem dL_mayJudge_15 : decode cL_mayJudge 15 = .ok (.lconst 0, 1) := by decide +kernel
theorem dL_mayJudge_16 : decode cL_mayJudge 16 = .ok (.lastore, 1) := by decide +kernel
theorem dL_mayJudge_17 : decode cL_mayJudge 17 = .ok (.goto 7, 3) := by decide +kernel
theorem dL_mayJudge_20 : decode cL_mayJudge 20 = .ok (.astore 4, 2) := by decide +kernel
theorem dL_mayJudge_22 : decode cL_mayJudge 22 = .ok (.iconst 1, 1) := by decide +kernel
theorem dL_mayJudge_23 : decode cL_mayJudge 23 = .ok (.ireturn, 1) := by decide +kernel
theorem dL_mayJudge_24 : decode cL_mayJudge 24 = .ok (.iconst 0, 1) := by decide +kernel
theorem dL_mayJudge_25 : decode cL_mayJudge 25 = .ok (.ireturn, 1) := by decide +kernel
theorem dL_isAssigned_0 : decode cL_isAssigned 0 = .ok (.aload_n 3, 1) := by decide +kernel
theorem dL_isAssigned_1 : decode cL_isAssigned 1 = .ok (.iconst 0, 1) := by decide +kernel
theorem dL_isAssigned_2 : decode cL_isAssigned 2 = .ok (.aload_n 0, 1) := by decide +kernel
theorem dL_isAssigned_3 : decode cL_isAssigned 3 = .ok (.iload_n 1, 1) := by decide +kernel
theorem dL_isAssigned_4 : decode cL_isAssigned 4 = .ok (.iload_n 2, 1) := by decide +kernel
theorem dL_isAssigned_5 : decode cL_isAssigned 5 = .ok (.invokevirtual 93, 3) := by decide +kernel
theorem dL_isAssigned_8 : decode cL_isAssigned 8 = .ok (.ifCond .eq 7, 3) := by decide +kernel
theorem dL_isAssigned_11 : decode cL_isAssigned 11 = .ok (.lconst 1, 1) := by decide +kernel
theorem dL_isAssigned_12 : decode cL_isAssigned 12 = .ok (.goto 4, 3) := by decide +kernel
theorem dL_isAssigned_15 : decode cL_isAssigned 15 = .ok (.lconst 0, 1) := by decide +kernel
theorem dL_isAssigned_16 : decode cL_isAssigned 16 = .ok (.lastore, 1) := by decide +kernel
theorem dL_isAssigned_17 : decode cL_isAssigned 17 = .ok (.goto 7, 3) := by decide +kernel
theorem dL_isAssigned_20 : decode cL_isAssigned 20 = .ok (.astore 4, 2) := by decide +kernel
theorem dL_isAssigned_22 : decode cL_isAssigned 22 = .ok (.iconst 1, 1) := by decide +kernel
theorem dL_isAssigned_23 : decode cL_isAssigned 23 = .ok (.ireturn, 1) := by decide +kernel
theorem dL_isAssigned_24 : decode cL_isAssigned 24 = .ok (.iconst 0, 1) := by decide +kernel
theorem dL_isAssigned_25 : decode cL_isAssigned 25 = .ok (.ireturn, 1) := by decide +kernel
theorem dL_gradeBy_0 : decode cL_gradeBy 0 = .ok (.aload_n 3, 1) := by decide +kernel
theorem dL_gradeBy_1 : decode cL_gradeBy 1 = .ok (.iconst 0, 1) := by decide +kernel
theorem dL_gradeBy_2 : decode cL_gradeBy 2 = .ok (.aload_n 0, 1) := by decide +kernel
theorem dL_gradeBy_3 : decode cL_gradeBy 3 = .ok (.iload_n 1, 1) := by decide +kernel
theorem dL_gradeBy_4 : decode cL_gradeBy 4 = .ok (.iload_n 2, 1) := by decide +kernel
theorem dL_gradeBy_5 : decode cL_gradeBy 5 = .ok (.invokevirtual 96, 3) := by decide +kernel
theorem dL_gradeBy_8 : decode cL_gradeBy 8 = .ok (.i2l, 1) := by decide +kernel
theorem dL_gradeBy_9 : decode cL_gradeBy 9 = .ok (.lastore, 1) := by decide +kernel
theorem dL_gradeBy_10 : decode cL_gradeBy 10 = .ok (.goto 11, 3) := by decide +kernel
theorem dL_gradeBy_13 : decode cL_gradeBy 13 = .ok (.astore 4, 2) := by decide +kernel
theorem dL_gradeBy_15 : decode cL_gradeBy 15 = .ok (.iconst 1, 1) := by decide +kernel
theorem dL_gradeBy_16 : decode cL_gradeBy 16 = .ok (.ireturn, 1) := by decide +kernel
theorem dL_gradeBy_17 : decode cL_gradeBy 17 = .ok (.astore 4, 2) := by decide +kernel
theorem dL_gradeBy_19 : decode cL_gradeBy 19 = .ok (.iconst 2, 1) := by decide +kernel
theorem dL_gradeBy_20 : decode cL_gradeBy 20 = .ok (.ireturn, 1) := by decide +kernel
theorem dL_gradeBy_21 : decode cL_gradeBy 21 = .ok (.iconst 0, 1) := by decide +kernel
theorem dL_gradeBy_22 : decode cL_gradeBy 22 = .ok (.ireturn, 1) := by decide +kernel
theorem dL_plannedExaminer_0 : decode cL_plannedExaminer 0 = .ok (.aload_n 2, 1) := by decide +kernel
theorem dL_plannedExaminer_1 : decode cL_plannedExaminer 1 = .ok (.iconst 0, 1) := by decide +kernel
theorem dL_plannedExaminer_2 : decode cL_plannedExaminer 2 = .ok (.aload_n 0, 1) := by decide +kernel
theorem dL_plannedExaminer_3 : decode cL_plannedExaminer 3 = .ok (.iload_n 1, 1) := by decide +kernel
theorem dL_plannedExaminer_4 : decode cL_plannedExaminer 4 = .ok (.invokevirtual 99, 3) := by decide +kernel
theorem dL_plannedExaminer_7 : decode cL_plannedExaminer 7 = .ok (.i2l, 1) := by decide +kernel
theorem dL_plannedExaminer_8 : decode cL_plannedExaminer 8 = .ok (.lastore, 1) := by decide +kernel
theorem dL_plannedExaminer_9 : decode cL_plannedExaminer 9 = .ok (.goto 9, 3) := by decide +kernel
theorem dL_plannedExaminer_12 : decode cL_plannedExaminer 12 = .ok (.astore_n 3, 1) := by decide +kernel
theorem dL_plannedExaminer_13 : decode cL_plannedExaminer 13 = .ok (.iconst 1, 1) := by decide +kernel
theorem dL_plannedExaminer_14 : decode cL_plannedExaminer 14 = .ok (.ireturn, 1) := by decide +kernel
theorem dL_plannedExaminer_15 : decode cL_plannedExaminer 15 = .ok (.astore_n 3, 1) := by decide +kernel
theorem dL_plannedExaminer_16 : decode cL_plannedExaminer 16 = .ok (.iconst 2, 1) := by decide +kernel
theorem dL_plannedExaminer_17 : decode cL_plannedExaminer 17 = .ok (.ireturn, 1) := by decide +kernel
theorem dL_plannedExaminer_18 : decode cL_plannedExaminer 18 = .ok (.iconst 0, 1) := by decide +kernel
theorem dL_plannedExaminer_19 : decode cL_plannedExaminer 19 = .ok (.ireturn, 1) := by decide +kernel
theorem dL_panelCount_0 : decode cL_panelCount 0 = .ok (.aload_n 2, 1) := by decide +kernel
theorem dL_panelCount_1 : decode cL_panelCount 1 = .ok (.iconst 0, 1) := by decide +kernel
theorem dL_panelCount_2 : decode cL_panelCount 2 = .ok (.aload_n 0, 1) := by decide +kernel
theorem dL_panelCount_3 : decode cL_panelCount 3 = .ok (.iload_n 1, 1) := by decide +kernel
theorem dL_panelCount_4 : decode cL_panelCount 4 = .ok (.invokevirtual 102, 3) := by decide +kernel
theorem dL_panelCount_7 : decode cL_panelCount 7 = .ok (.i2l, 1) := by decide +kernel
theorem dL_panelCount_8 : decode cL_panelCount 8 = .ok (.lastore, 1) := by decide +kernel
theorem dL_panelCount_9 : decode cL_panelCount 9 = .ok (.goto 6, 3) := by decide +kernel
theorem dL_panelCount_12 : decode cL_panelCount 12 = .ok (.astore_n 3, 1) := by decide +kernel
theorem dL_panelCount_13 : decode cL_panelCount 13 = .ok (.iconst 1, 1) := by decide +kernel
theorem dL_panelCount_14 : decode cL_panelCount 14 = .ok (.ireturn, 1) := by decide +kernel
theorem dL_panelCount_15 : decode cL_panelCount 15 = .ok (.iconst 0, 1) := by decide +kernel
theorem dL_panelCount_16 : decode cL_panelCount 16 = .ok (.ireturn, 1) := by decide +kernel
theorem dL_panelCountByFrames_0 : decode cL_panelCountByFrames 0 = .ok (.aload_n 2, 1) := by decide +kernel
theorem dL_panelCountByFrames_1 : decode cL_panelCountByFrames 1 = .ok (.iconst 0, 1) := by decide +kernel
theorem dL_panelCountByFrames_2 : decode cL_panelCountByFrames 2 = .ok (.aload_n 0, 1) := by decide +kernel
theorem dL_panelCountByFrames_3 : decode cL_panelCountByFrames 3 = .ok (.iload_n 1, 1) := by decide +kernel
theorem dL_panelCountByFrames_4 : decode cL_panelCountByFrames 4 = .ok (.invokevirtual 105, 3) := by decide +kernel
theorem dL_panelCountByFrames_7 : decode cL_panelCountByFrames 7 = .ok (.i2l, 1) := by decide +kernel
theorem dL_panelCountByFrames_8 : decode cL_panelCountByFrames 8 = .ok (.lastore, 1) := by decide +kernel
theorem dL_panelCountByFrames_9 : decode cL_panelCountByFrames 9 = .ok (.goto 6, 3) := by decide +kernel
theorem dL_panelCountByFrames_12 : decode cL_panelCountByFrames 12 = .ok (.astore_n 3, 1) := by decide +kernel
theorem dL_panelCountByFrames_13 : decode cL_panelCountByFrames 13 = .ok (.iconst 1, 1) := by decide +kernel
theorem dL_panelCountByFrames_14 : decode cL_panelCountByFrames 14 = .ok (.ireturn, 1) := by decide +kernel
theorem dL_panelCountByFrames_15 : decode cL_panelCountByFrames 15 = .ok (.iconst 0, 1) := by decide +kernel
theorem dL_panelCountByFrames_16 : decode cL_panelCountByFrames 16 = .ok (.ireturn, 1) := by decide +kernel
theorem dL_panelMember_0 : decode cL_panelMember 0 = .ok (.aload_n 3, 1) := by decide +kernel
theorem dL_panelMember_1 : decode cL_panelMember 1 = .ok (.iconst 0, 1) := by decide +kernel
theorem dL_panelMember_2 : decode cL_panelMember 2 = .ok (.aload_n 0, 1) := by decide +kernel
theorem dL_panelMember_3 : decode cL_panelMember 3 = .ok (.iload_n 1, 1) := by decide +kernel
theorem dL_panelMember_4 : decode cL_panelMember 4 = .ok (.iload_n 2, 1) := by decide +kernel
theorem dL_panelMember_5 : decode cL_panelMember 5 = .ok (.invokevirtual 108, 3) := by decide +kernel
theorem dL_panelMember_8 : decode cL_panelMember 8 = .ok (.i2l, 1) := by decide +kernel
theorem dL_panelMember_9 : decode cL_panelMember 9 = .ok (.lastore, 1) := by decide +kernel
theorem dL_panelMember_10 : decode cL_panelMember 10 = .ok (.goto 15, 3) := by decide +kernel
theorem dL_panelMember_13 : decode cL_panelMember 13 = .ok (.astore 4, 2) := by decide +kernel
theorem dL_panelMember_15 : decode cL_panelMember 15 = .ok (.iconst 1, 1) := by decide +kernel
theorem dL_panelMember_16 : decode cL_panelMember 16 = .ok (.ireturn, 1) := by decide +kernel
theorem dL_panelMember_17 : decode cL_panelMember 17 = .ok (.astore 4, 2) := by decide +kernel
theorem dL_panelMember_19 : decode cL_panelMember 19 = .ok (.iconst 2, 1) := by decide +kernel
theorem dL_panelMember_20 : decode cL_panelMember 20 = .ok (.ireturn, 1) := by decide +kernel
theorem dL_panelMember_21 : decode cL_panelMember 21 = .ok (.astore 4, 2) := by decide +kernel
theorem dL_panelMember_23 : decode cL_panelMember 23 = .ok (.iconst 3, 1) := by decide +kernel
theorem dL_panelMember_24 : decode cL_panelMember 24 = .ok (.ireturn, 1) := by decide +kernel
theorem dL_panelMember_25 : decode cL_panelMember 25 = .ok (.iconst 0, 1) := by decide +kernel
theorem dL_panelMember_26 : decode cL_panelMember 26 = .ok (.ireturn, 1) := by decide +kernel
theorem dL_doorOf_0 : decode cL_doorOf 0 = .ok (.aload_n 2, 1) := by decide +kernel
theorem dL_doorOf_1 : decode cL_doorOf 1 = .ok (.iconst 0, 1) := by decide +kernel
theorem dL_doorOf_2 : decode cL_doorOf 2 = .ok (.aload_n 0, 1) := by decide +kernel
theorem dL_doorOf_3 : decode cL_doorOf 3 = .ok (.iload_n 1, 1) := by decide +kernel
theorem dL_doorOf_4 : decode cL_doorOf 4 = .ok (.invokevirtual 111, 3) := by decide +kernel
theorem dL_doorOf_7 : decode cL_doorOf 7 = .ok (.i2l, 1) := by decide +kernel
theorem dL_doorOf_8 : decode cL_doorOf 8 = .ok (.lastore, 1) := by decide +kernel
theorem dL_doorOf_9 : decode cL_doorOf 9 = .ok (.goto 6, 3) := by decide +kernel
theorem dL_doorOf_12 : decode cL_doorOf 12 = .ok (.astore_n 3, 1) := by decide +kernel
theorem dL_doorOf_13 : decode cL_doorOf 13 = .ok (.iconst 1, 1) := by decide +kernel
theorem dL_doorOf_14 : decode cL_doorOf 14 = .ok (.ireturn, 1) := by decide +kernel
theorem dL_doorOf_15 : decode cL_doorOf 15 = .ok (.iconst 0, 1) := by decide +kernel
theorem dL_doorOf_16 : decode cL_doorOf 16 = .ok (.ireturn, 1) := by decide +kernel
theorem dL_isRevoked_0 : decode cL_isRevoked 0 = .ok (.aload_n 2, 1) := by decide +kernel
theorem dL_isRevoked_1 : decode cL_isRevoked 1 = .ok (.iconst 0, 1) := by decide +kernel
theorem dL_isRevoked_2 : decode cL_isRevoked 2 = .ok (.aload_n 0, 1) := by decide +kernel
theorem dL_isRevoked_3 : decode cL_isRevoked 3 = .ok (.iload_n 1, 1) := by decide +kernel
theorem dL_isRevoked_4 : decode cL_isRevoked 4 = .ok (.invokevirtual 114, 3) := by decide +kernel
theorem dL_isRevoked_7 : decode cL_isRevoked 7 = .ok (.ifCond .eq 7, 3) := by decide +kernel
theorem dL_isRevoked_10 : decode cL_isRevoked 10 = .ok (.lconst 1, 1) := by decide +kernel
theorem dL_isRevoked_11 : decode cL_isRevoked 11 = .ok (.goto 4, 3) := by decide +kernel
theorem dL_isRevoked_14 : decode cL_isRevoked 14 = .ok (.lconst 0, 1) := by decide +kernel
theorem dL_isRevoked_15 : decode cL_isRevoked 15 = .ok (.lastore, 1) := by decide +kernel
theorem dL_isRevoked_16 : decode cL_isRevoked 16 = .ok (.goto 6, 3) := by decide +kernel
theorem dL_isRevoked_19 : decode cL_isRevoked 19 = .ok (.astore_n 3, 1) := by decide +kernel
theorem dL_isRevoked_20 : decode cL_isRevoked 20 = .ok (.iconst 1, 1) := by decide +kernel
theorem dL_isRevoked_21 : decode cL_isRevoked 21 = .ok (.ireturn, 1) := by decide +kernel
theorem dL_isRevoked_22 : decode cL_isRevoked 22 = .ok (.iconst 0, 1) := by decide +kernel
theorem dL_isRevoked_23 : decode cL_isRevoked 23 = .ok (.ireturn, 1) := by decide +kernel
theorem dL_meanGrade_0 : decode cL_meanGrade 0 = .ok (.aload_n 1, 1) := by decide +kernel
theorem dL_meanGrade_1 : decode cL_meanGrade 1 = .ok (.iconst 0, 1) := by decide +kernel
theorem dL_meanGrade_2 : decode cL_meanGrade 2 = .ok (.aload_n 0, 1) := by decide +kernel
theorem dL_meanGrade_3 : decode cL_meanGrade 3 = .ok (.invokevirtual 117, 3) := by decide +kernel
theorem dL_meanGrade_6 : decode cL_meanGrade 6 = .ok (.dastore, 1) := by decide +kernel
theorem dL_meanGrade_7 : decode cL_meanGrade 7 = .ok (.goto 6, 3) := by decide +kernel
theorem dL_meanGrade_10 : decode cL_meanGrade 10 = .ok (.astore_n 2, 1) := by decide +kernel
theorem dL_meanGrade_11 : decode cL_meanGrade 11 = .ok (.iconst 1, 1) := by decide +kernel
theorem dL_meanGrade_12 : decode cL_meanGrade 12 = .ok (.ireturn, 1) := by decide +kernel
theorem dL_meanGrade_13 : decode cL_meanGrade 13 = .ok (.iconst 0, 1) := by decide +kernel
theorem dL_meanGrade_14 : decode cL_meanGrade 14 = .ok (.ireturn, 1) := by decide +kernel
theorem dL_passShare_0 : decode cL_passShare 0 = .ok (.aload_n 1, 1) := by decide +kernel
theorem dL_passShare_1 : decode cL_passShare 1 = .ok (.iconst 0, 1) := by decide +kernel
theorem dL_passShare_2 : decode cL_passShare 2 = .ok (.aload_n 0, 1) := by decide +kernel
theorem dL_passShare_3 : decode cL_passShare 3 = .ok (.invokevirtual 123, 3) := by decide +kernel
theorem dL_passShare_6 : decode cL_passShare 6 = .ok (.f2d, 1) := by decide +kernel
theorem dL_passShare_7 : decode cL_passShare 7 = .ok (.dastore, 1) := by decide +kernel
theorem dL_passShare_8 : decode cL_passShare 8 = .ok (.goto 6, 3) := by decide +kernel
theorem dL_passShare_11 : decode cL_passShare 11 = .ok (.astore_n 2, 1) := by decide +kernel
theorem dL_passShare_12 : decode cL_passShare 12 = .ok (.iconst 1, 1) := by decide +kernel
theorem dL_passShare_13 : decode cL_passShare 13 = .ok (.ireturn, 1) := by decide +kernel
theorem dL_passShare_14 : decode cL_passShare 14 = .ok (.iconst 0, 1) := by decide +kernel
theorem dL_passShare_15 : decode cL_passShare 15 = .ok (.ireturn, 1) := by decide +kernel
theorem dL_append_0 : decode cL_append 0 = .ok (.aload_n 2, 1) := by decide +kernel
theorem dL_append_1 : decode cL_append 1 = .ok (.iconst 0, 1) := by decide +kernel
theorem dL_append_2 : decode cL_append 2 = .ok (.aload_n 0, 1) := by decide +kernel
theorem dL_append_3 : decode cL_append 3 = .ok (.iload_n 1, 1) := by decide +kernel
theorem dL_append_4 : decode cL_append 4 = .ok (.invokevirtual 127, 3) := by decide +kernel
theorem dL_append_7 : decode cL_append 7 = .ok (.i2l, 1) := by decide +kernel
theorem dL_append_8 : decode cL_append 8 = .ok (.lastore, 1) := by decide +kernel
theorem dL_append_9 : decode cL_append 9 = .ok (.goto 6, 3) := by decide +kernel
theorem dL_append_12 : decode cL_append 12 = .ok (.astore_n 3, 1) := by decide +kernel
theorem dL_append_13 : decode cL_append 13 = .ok (.iconst 1, 1) := by decide +kernel
theorem dL_append_14 : decode cL_append 14 = .ok (.ireturn, 1) := by decide +kernel
theorem dL_append_15 : decode cL_append 15 = .ok (.iconst 0, 1) := by decide +kernel
theorem dL_append_16 : decode cL_append 16 = .ok (.ireturn, 1) := by decide +kernel
theorem dL_run_0 : decode cL_run 0 = .ok (.aload_n 1, 1) := by decide +kernel
theorem dL_run_1 : decode cL_run 1 = .ok (.iconst 0, 1) := by decide +kernel
theorem dL_run_2 : decode cL_run 2 = .ok (.aload_n 0, 1) := by decide +kernel
theorem dL_run_3 : decode cL_run 3 = .ok (.invokevirtual 131, 3) := by decide +kernel
theorem dL_run_6 : decode cL_run 6 = .ok (.i2l, 1) := by decide +kernel
theorem dL_run_7 : decode cL_run 7 = .ok (.lastore, 1) := by decide +kernel
theorem dL_run_8 : decode cL_run 8 = .ok (.goto 9, 3) := by decide +kernel
theorem dL_run_11 : decode cL_run 11 = .ok (.astore_n 2, 1) := by decide +kernel
theorem dL_run_12 : decode cL_run 12 = .ok (.iconst 1, 1) := by decide +kernel
theorem dL_run_13 : decode cL_run 13 = .ok (.ireturn, 1) := by decide +kernel
theorem dL_run_14 : decode cL_run 14 = .ok (.astore_n 2, 1) := by decide +kernel
theorem dL_run_15 : decode cL_run 15 = .ok (.iconst 2, 1) := by decide +kernel
theorem dL_run_16 : decode cL_run 16 = .ok (.ireturn, 1) := by decide +kernel
theorem dL_run_17 : decode cL_run 17 = .ok (.iconst 0, 1) := by decide +kernel
theorem dL_run_18 : decode cL_run 18 = .ok (.ireturn, 1) := by decide +kernel
theorem dL_errorPosition_0 : decode cL_errorPosition 0 = .ok (.aload_n 1, 1) := by decide +kernel
theorem dL_errorPosition_1 : decode cL_errorPosition 1 = .ok (.iconst 0, 1) := by decide +kernel
theorem dL_errorPosition_2 : decode cL_errorPosition 2 = .ok (.aload_n 0, 1) := by decide +kernel
theorem dL_errorPosition_3 : decode cL_errorPosition 3 = .ok (.invokevirtual 135, 3) := by decide +kernel
theorem dL_errorPosition_6 : decode cL_errorPosition 6 = .ok (.i2l, 1) := by decide +kernel
theorem dL_errorPosition_7 : decode cL_errorPosition 7 = .ok (.lastore, 1) := by decide +kernel
theorem dL_errorPosition_8 : decode cL_errorPosition 8 = .ok (.goto 6, 3) := by decide +kernel
theorem dL_errorPosition_11 : decode cL_errorPosition 11 = .ok (.astore_n 2, 1) := by decide +kernel
theorem dL_errorPosition_12 : decode cL_errorPosition 12 = .ok (.iconst 1, 1) := by decide +kernel
theorem dL_errorPosition_13 : decode cL_errorPosition 13 = .ok (.ireturn, 1) := by decide +kernel
theorem dL_errorPosition_14 : decode cL_errorPosition 14 = .ok (.iconst 0, 1) := by decide +kernel
theorem dL_errorPosition_15 : decode cL_errorPosition 15 = .ok (.ireturn, 1) := by decide +kernel
theorem dL_failedCommand_0 : decode cL_failedCommand 0 = .ok (.aload_n 1, 1) := by decide +kernel
theorem dL_failedCommand_1 : decode cL_failedCommand 1 = .ok (.iconst 0, 1) := by decide +kernel
theorem dL_failedCommand_2 : decode cL_failedCommand 2 = .ok (.aload_n 0, 1) := by decide +kernel
theorem dL_failedCommand_3 : decode cL_failedCommand 3 = .ok (.invokevirtual 138, 3) := by decide +kernel
theorem dL_failedCommand_6 : decode cL_failedCommand 6 = .ok (.i2l, 1) := by decide +kernel
theorem dL_failedCommand_7 : decode cL_failedCommand 7 = .ok (.lastore, 1) := by decide +kernel
theorem dL_failedCommand_8 : decode cL_failedCommand 8 = .ok (.goto 6, 3) := by decide +kernel
theorem dL_failedCommand_11 : decode cL_failedCommand 11 = .ok (.astore_n 2, 1) := by decide +kernel
theorem dL_failedCommand_12 : decode cL_failedCommand 12 = .ok (.iconst 1, 1) := by decide +kernel
theorem dL_failedCommand_13 : decode cL_failedCommand 13 = .ok (.ireturn, 1) := by decide +kernel
theorem dL_failedCommand_14 : decode cL_failedCommand 14 = .ok (.iconst 0, 1) := by decide +kernel
theorem dL_failedCommand_15 : decode cL_failedCommand 15 = .ok (.ireturn, 1) := by decide +kernel
theorem dL_writeDoor_0 : decode cL_writeDoor 0 = .ok (.aload_n 2, 1) := by decide +kernel
theorem dL_writeDoor_1 : decode cL_writeDoor 1 = .ok (.iconst 0, 1) := by decide +kernel
theorem dL_writeDoor_2 : decode cL_writeDoor 2 = .ok (.aload_n 0, 1) := by decide +kernel
theorem dL_writeDoor_3 : decode cL_writeDoor 3 = .ok (.iload_n 1, 1) := by decide +kernel
theorem dL_writeDoor_4 : decode cL_writeDoor 4 = .ok (.invokevirtual 141, 3) := by decide +kernel
theorem dL_writeDoor_7 : decode cL_writeDoor 7 = .ok (.i2l, 1) := by decide +kernel
theorem dL_writeDoor_8 : decode cL_writeDoor 8 = .ok (.lastore, 1) := by decide +kernel
theorem dL_writeDoor_9 : decode cL_writeDoor 9 = .ok (.goto 6, 3) := by decide +kernel
theorem dL_writeDoor_12 : decode cL_writeDoor 12 = .ok (.astore_n 3, 1) := by decide +kernel
theorem dL_writeDoor_13 : decode cL_writeDoor 13 = .ok (.iconst 1, 1) := by decide +kernel
theorem dL_writeDoor_14 : decode cL_writeDoor 14 = .ok (.ireturn, 1) := by decide +kernel
theorem dL_writeDoor_15 : decode cL_writeDoor 15 = .ok (.iconst 0, 1) := by decide +kernel
theorem dL_writeDoor_16 : decode cL_writeDoor 16 = .ok (.ireturn, 1) := by decide +kernel
theorem dL_writeExaminer_0 : decode cL_writeExaminer 0 = .ok (.aload_n 2, 1) := by decide +kernel
theorem dL_writeExaminer_1 : decode cL_writeExaminer 1 = .ok (.iconst 0, 1) := by decide +kernel
theorem dL_writeExaminer_2 : decode cL_writeExaminer 2 = .ok (.aload_n 0, 1) := by decide +kernel
theorem dL_writeExaminer_3 : decode cL_writeExaminer 3 = .ok (.iload_n 1, 1) := by decide +kernel
theorem dL_writeExaminer_4 : decode cL_writeExaminer 4 = .ok (.invokevirtual 144, 3) := by decide +kernel
theorem dL_writeExaminer_7 : decode cL_writeExaminer 7 = .ok (.i2l, 1) := by decide +kernel
theorem dL_writeExaminer_8 : decode cL_writeExaminer 8 = .ok (.lastore, 1) := by decide +kernel
theorem dL_writeExaminer_9 : decode cL_writeExaminer 9 = .ok (.goto 6, 3) := by decide +kernel
theorem dL_writeExaminer_12 : decode cL_writeExaminer 12 = .ok (.astore_n 3, 1) := by decide +kernel
theorem dL_writeExaminer_13 : decode cL_writeExaminer 13 = .ok (.iconst 1, 1) := by decide +kernel
theorem dL_writeExaminer_14 : decode cL_writeExaminer 14 = .ok (.ireturn, 1) := by decide +kernel
theorem dL_writeExaminer_15 : decode cL_writeExaminer 15 = .ok (.iconst 0, 1) := by decide +kernel
theorem dL_writeExaminer_16 : decode cL_writeExaminer 16 = .ok (.ireturn, 1) := by decide +kernel
theorem dL_outputAt_0 : decode cL_outputAt 0 = .ok (.aload_n 2, 1) := by decide +kernel
theorem dL_outputAt_1 : decode cL_outputAt 1 = .ok (.iconst 0, 1) := by decide +kernel
theorem dL_outputAt_2 : decode cL_outputAt 2 = .ok (.aload_n 0, 1) := by decide +kernel
theorem dL_outputAt_3 : decode cL_outputAt 3 = .ok (.iload_n 1, 1) := by decide +kernel
theorem dL_outputAt_4 : decode cL_outputAt 4 = .ok (.invokevirtual 147, 3) := by decide +kernel
theorem dL_outputAt_7 : decode cL_outputAt 7 = .ok (.i2l, 1) := by decide +kernel
theorem dL_outputAt_8 : decode cL_outputAt 8 = .ok (.lastore, 1) := by decide +kernel
theorem dL_outputAt_9 : decode cL_outputAt 9 = .ok (.goto 6, 3) := by decide +kernel
theorem dL_outputAt_12 : decode cL_outputAt 12 = .ok (.astore_n 3, 1) := by decide +kernel
theorem dL_outputAt_13 : decode cL_outputAt 13 = .ok (.iconst 1, 1) := by decide +kernel
theorem dL_outputAt_14 : decode cL_outputAt 14 = .ok (.ireturn, 1) := by decide +kernel
theorem dL_outputAt_15 : decode cL_outputAt 15 = .ok (.iconst 0, 1) := by decide +kernel
theorem dL_outputAt_16 : decode cL_outputAt 16 = .ok (.ireturn, 1) := by decide +kernel
theorem dL_undo_0 : decode cL_undo 0 = .ok (.aload_n 1, 1) := by decide +kernel
theorem dL_undo_1 : decode cL_undo 1 = .ok (.iconst 0, 1) := by decide +kernel
theorem dL_undo_2 : decode cL_undo 2 = .ok (.aload_n 0, 1) := by decide +kernel
theorem dL_undo_3 : decode cL_undo 3 = .ok (.invokevirtual 150, 3) := by decide +kernel
theorem dL_undo_6 : decode cL_undo 6 = .ok (.i2l, 1) := by decide +kernel
theorem dL_undo_7 : decode cL_undo 7 = .ok (.lastore, 1) := by decide +kernel
theorem dL_undo_8 : decode cL_undo 8 = .ok (.goto 6, 3) := by decide +kernel
theorem dL_undo_11 : decode cL_undo 11 = .ok (.astore_n 2, 1) := by decide +kernel
theorem dL_undo_12 : decode cL_undo 12 = .ok (.iconst 1, 1) := by decide +kernel
theorem dL_undo_13 : decode cL_undo 13 = .ok (.ireturn, 1) := by decide +kernel
theorem dL_undo_14 : decode cL_undo 14 = .ok (.iconst 0, 1) := by decide +kernel
theorem dL_undo_15 : decode cL_undo 15 = .ok (.ireturn, 1) := by decide +kernel
theorem dL_restore_0 : decode cL_restore 0 = .ok (.aload_n 0, 1) := by decide +kernel
theorem dL_restore_1 : decode cL_restore 1 = .ok (.invokevirtual 153, 3) := by decide +kernel
theorem dL_restore_4 : decode cL_restore 4 = .ok (.goto 6, 3) := by decide +kernel
theorem dL_restore_7 : decode cL_restore 7 = .ok (.astore_n 1, 1) := by decide +kernel
theorem dL_restore_8 : decode cL_restore 8 = .ok (.iconst 1, 1) := by decide +kernel
theorem dL_restore_9 : decode cL_restore 9 = .ok (.ireturn, 1) := by decide +kernel
theorem dL_restore_10 : decode cL_restore 10 = .ok (.iconst 0, 1) := by decide +kernel
theorem dL_restore_11 : decode cL_restore 11 = .ok (.ireturn, 1) := by decide +kernel
theorem dL_law_0 : decode cL_law 0 = .ok (.new 8, 3) := by decide +kernel
theorem dL_law_3 : decode cL_law 3 = .ok (.dup, 1) := by decide +kernel
theorem dL_law_4 : decode cL_law 4 = .ok (.invokespecial 156, 3) := by decide +kernel
theorem dL_law_7 : decode cL_law 7 = .ok (.astore_n 1, 1) := by decide +kernel
theorem dL_law_8 : decode cL_law 8 = .ok (.new 157, 3) := by decide +kernel
theorem dL_law_11 : decode cL_law 11 = .ok (.dup, 1) := by decide +kernel
theorem dL_law_12 : decode cL_law 12 = .ok (.invokespecial 159, 3) := by decide +kernel
theorem dL_law_15 : decode cL_law 15 = .ok (.astore_n 2, 1) := by decide +kernel
theorem dL_law_16 : decode cL_law 16 = .ok (.iconst 1, 1) := by decide +kernel
theorem dL_law_17 : decode cL_law 17 = .ok (.newarray .long, 2) := by decide +kernel
theorem dL_law_19 : decode cL_law 19 = .ok (.astore_n 3, 1) := by decide +kernel
theorem dL_law_20 : decode cL_law 20 = .ok (.iconst 1, 1) := by decide +kernel
theorem dL_law_21 : decode cL_law 21 = .ok (.newarray .double, 2) := by decide +kernel
theorem dL_law_23 : decode cL_law 23 = .ok (.astore 4, 2) := by decide +kernel
theorem dL_law_25 : decode cL_law 25 = .ok (.iconst 0, 1) := by decide +kernel
theorem dL_law_26 : decode cL_law 26 = .ok (.istore 5, 2) := by decide +kernel
theorem dL_law_28 : decode cL_law 28 = .ok (.iload 5, 2) := by decide +kernel
theorem dL_law_30 : decode cL_law 30 = .ok (.aload_n 0, 1) := by decide +kernel
theorem dL_law_31 : decode cL_law 31 = .ok (.arraylength, 1) := by decide +kernel
theorem dL_law_32 : decode cL_law 32 = .ok (.iconst 5, 1) := by decide +kernel
theorem dL_law_33 : decode cL_law 33 = .ok (.isub, 1) := by decide +kernel
theorem dL_law_34 : decode cL_law 34 = .ok (.if_icmp .gt 2845, 3) := by decide +kernel
theorem dL_law_37 : decode cL_law 37 = .ok (.aload_n 0, 1) := by decide +kernel
theorem dL_law_38 : decode cL_law 38 = .ok (.iload 5, 2) := by decide +kernel
theorem dL_law_40 : decode cL_law 40 = .ok (.iaload, 1) := by decide +kernel
theorem dL_law_41 : decode cL_law 41 = .ok (.bipush 63, 2) := by decide +kernel
theorem dL_law_43 : decode cL_law 43 = .ok (.iand, 1) := by decide +kernel
theorem dL_law_44 : decode cL_law 44 = .ok (.tableswitch 2829 0 52 #[228, 298, 392, 460, 528, 541, 621, 677, 733, 789, 845, 858, 914, 970, 1026, 1082, 1138, 1201, 1264, 1327, 1383, 1396, 1452, 1508, 1583, 1658, 1733, 1801, 1814, 1827, 1883, 1939, 1995, 2063, 2076, 2089, 2145, 2208, 2221, 2234, 2248, 2313, 2379, 2392, 2450, 2494, 2538, 2582, 2638, 2694, 2750, 2794, 2805], 228) := by decide +kernel
theorem dL_law_272 : decode cL_law 272 = .ok (.aload_n 1, 1) := by decide +kernel
theorem dL_law_273 : decode cL_law 273 = .ok (.aload_n 0, 1) := by decide +kernel
theorem dL_law_274 : decode cL_law 274 = .ok (.iload 5, 2) := by decide +kernel
theorem dL_law_276 : decode cL_law 276 = .ok (.iconst 1, 1) := by decide +kernel
theorem dL_law_277 : decode cL_law 277 = .ok (.iadd, 1) := by decide +kernel
theorem dL_law_278 : decode cL_law 278 = .ok (.iaload, 1) := by decide +kernel
theorem dL_law_279 : decode cL_law 279 = .ok (.i2c, 1) := by decide +kernel
theorem dL_law_280 : decode cL_law 280 = .ok (.aload_n 0, 1) := by decide +kernel
theorem dL_law_281 : decode cL_law 281 = .ok (.iload 5, 2) := by decide +kernel
theorem dL_law_283 : decode cL_law 283 = .ok (.iconst 2, 1) := by decide +kernel
theorem dL_law_284 : decode cL_law 284 = .ok (.iadd, 1) := by decide +kernel
theorem dL_law_285 : decode cL_law 285 = .ok (.iaload, 1) := by decide +kernel
theorem dL_law_286 : decode cL_law 286 = .ok (.aload_n 3, 1) := by decide +kernel
theorem dL_law_287 : decode cL_law 287 = .ok (.invokestatic 160, 3) := by decide +kernel
theorem dL_law_290 : decode cL_law 290 = .ok (.istore 6, 2) := by decide +kernel
theorem dL_law_292 : decode cL_law 292 = .ok (.aload_n 2, 1) := by decide +kernel
theorem dL_law_293 : decode cL_law 293 = .ok (.aload_n 0, 1) := by decide +kernel
theorem dL_law_294 : decode cL_law 294 = .ok (.iload 5, 2) := by decide +kernel
theorem dL_law_296 : decode cL_law 296 = .ok (.iconst 1, 1) := by decide +kernel
theorem dL_law_297 : decode cL_law 297 = .ok (.iadd, 1) := by decide +kernel
theorem dL_law_298 : decode cL_law 298 = .ok (.iaload, 1) := by decide +kernel
theorem dL_law_299 : decode cL_law 299 = .ok (.i2c, 1) := by decide +kernel
theorem dL_law_300 : decode cL_law 300 = .ok (.aload_n 0, 1) := by decide +kernel
theorem dL_law_301 : decode cL_law 301 = .ok (.iload 5, 2) := by decide +kernel
theorem dL_law_303 : decode cL_law 303 = .ok (.iconst 2, 1) := by decide +kernel
theorem dL_law_304 : decode cL_law 304 = .ok (.iadd, 1) := by decide +kernel
theorem dL_law_305 : decode cL_law 305 = .ok (.iaload, 1) := by decide +kernel
theorem dL_law_306 : decode cL_law 306 = .ok (.invokevirtual 165, 3) := by decide +kernel
theorem dL_law_309 : decode cL_law 309 = .ok (.istore 7, 2) := by decide +kernel
theorem dL_law_311 : decode cL_law 311 = .ok (.aload_n 2, 1) := by decide +kernel
theorem dL_law_312 : decode cL_law 312 = .ok (.invokevirtual 166, 3) := by decide +kernel
theorem dL_law_315 : decode cL_law 315 = .ok (.iload 6, 2) := by decide +kernel
theorem dL_law_317 : decode cL_law 317 = .ok (.if_icmp .eq 5, 3) := by decide +kernel
theorem dL_law_320 : decode cL_law 320 = .ok (.iconst 0, 1) := by decide +kernel
theorem dL_law_321 : decode cL_law 321 = .ok (.ireturn, 1) := by decide +kernel
theorem dL_law_322 : decode cL_law 322 = .ok (.iload 6, 2) := by decide +kernel
theorem dL_law_324 : decode cL_law 324 = .ok (.ifCond .ne 15, 3) := by decide +kernel
theorem dL_law_327 : decode cL_law 327 = .ok (.aload_n 3, 1) := by decide +kernel
theorem dL_law_328 : decode cL_law 328 = .ok (.iconst 0, 1) := by decide +kernel
theorem dL_law_329 : decode cL_law 329 = .ok (.laload, 1) := by decide +kernel
theorem dL_law_330 : decode cL_law 330 = .ok (.iload 7, 2) := by decide +kernel
theorem dL_law_332 : decode cL_law 332 = .ok (.i2l, 1) := by decide +kernel
theorem dL_law_333 : decode cL_law 333 = .ok (.lcmp, 1) := by decide +kernel
theorem dL_law_334 : decode cL_law 334 = .ok (.ifCond .eq 5, 3) := by decide +kernel
theorem dL_law_337 : decode cL_law 337 = .ok (.iconst 0, 1) := by decide +kernel
theorem dL_law_338 : decode cL_law 338 = .ok (.ireturn, 1) := by decide +kernel
theorem dL_law_339 : decode cL_law 339 = .ok (.goto 2534, 3) := by decide +kernel
theorem dL_law_342 : decode cL_law 342 = .ok (.aload_n 1, 1) := by decide +kernel
theorem dL_law_343 : decode cL_law 343 = .ok (.aload_n 0, 1) := by decide +kernel
theorem dL_law_344 : decode cL_law 344 = .ok (.iload 5, 2) := by decide +kernel
theorem dL_law_346 : decode cL_law 346 = .ok (.iconst 1, 1) := by decide +kernel
theorem dL_law_347 : decode cL_law 347 = .ok (.iadd, 1) := by decide +kernel
theorem dL_law_348 : decode cL_law 348 = .ok (.iaload, 1) := by decide +kernel
theorem dL_law_349 : decode cL_law 349 = .ok (.i2c, 1) := by decide +kernel
theorem dL_law_350 : decode cL_law 350 = .ok (.aload_n 0, 1) := by decide +kernel
theorem dL_law_351 : decode cL_law 351 = .ok (.iload 5, 2) := by decide +kernel
theorem dL_law_353 : decode cL_law 353 = .ok (.iconst 2, 1) := by decide +kernel
theorem dL_law_354 : decode cL_law 354 = .ok (.iadd, 1) := by decide +kernel
theorem dL_law_355 : decode cL_law 355 = .ok (.iaload, 1) := by decide +kernel
theorem dL_law_356 : decode cL_law 356 = .ok (.aload_n 0, 1) := by decide +kernel
theorem dL_law_357 : decode cL_law 357 = .ok (.iload 5, 2) := by decide +kernel
theorem dL_law_359 : decode cL_law 359 = .ok (.iconst 3, 1) := by decide +kernel
theorem dL_law_360 : decode cL_law 360 = .ok (.iadd, 1) := by decide +kernel
theorem dL_law_361 : decode cL_law 361 = .ok (.iaload, 1) := by decide +kernel
theorem dL_law_362 : decode cL_law 362 = .ok (.aload_n 0, 1) := by decide +kernel
theorem dL_law_363 : decode cL_law 363 = .ok (.iload 5, 2) := by decide +kernel
theorem dL_law_365 : decode cL_law 365 = .ok (.iconst 4, 1) := by decide +kernel
theorem dL_law_366 : decode cL_law 366 = .ok (.iadd, 1) := by decide +kernel
theorem dL_law_367 : decode cL_law 367 = .ok (.iaload, 1) := by decide +kernel
theorem dL_law_368 : decode cL_law 368 = .ok (.aload_n 3, 1) := by decide +kernel
theorem dL_law_369 : decode cL_law 369 = .ok (.invokestatic 169, 3) := by decide +kernel
theorem dL_law_372 : decode cL_law 372 = .ok (.istore 6, 2) := by decide +kernel
theorem dL_law_374 : decode cL_law 374 = .ok (.aload_n 2, 1) := by decide +kernel
theorem dL_law_375 : decode cL_law 375 = .ok (.aload_n 0, 1) := by decide +kernel
theorem dL_law_376 : decode cL_law 376 = .ok (.iload 5, 2) := by decide +kernel
theorem dL_law_378 : decode cL_law 378 = .ok (.iconst 1, 1) := by decide +kernel
theorem dL_law_379 : decode cL_law 379 = .ok (.iadd, 1) := by decide +kernel
theorem dL_law_380 : decode cL_law 380 = .ok (.iaload, 1) := by decide +kernel
theorem dL_law_381 : decode cL_law 381 = .ok (.i2c, 1) := by decide +kernel
theorem dL_law_382 : decode cL_law 382 = .ok (.aload_n 0, 1) := by decide +kernel
theorem dL_law_383 : decode cL_law 383 = .ok (.iload 5, 2) := by decide +kernel
theorem dL_law_385 : decode cL_law 385 = .ok (.iconst 2, 1) := by decide +kernel
theorem dL_law_386 : decode cL_law 386 = .ok (.iadd, 1) := by decide +kernel
theorem dL_law_387 : decode cL_law 387 = .ok (.iaload, 1) := by decide +kernel
theorem dL_law_388 : decode cL_law 388 = .ok (.aload_n 0, 1) := by decide +kernel
theorem dL_law_389 : decode cL_law 389 = .ok (.iload 5, 2) := by decide +kernel
theorem dL_law_391 : decode cL_law 391 = .ok (.iconst 3, 1) := by decide +kernel
theorem dL_law_392 : decode cL_law 392 = .ok (.iadd, 1) := by decide +kernel
theorem dL_law_393 : decode cL_law 393 = .ok (.iaload, 1) := by decide +kernel
theorem dL_law_394 : decode cL_law 394 = .ok (.aload_n 0, 1) := by decide +kernel
theorem dL_law_395 : decode cL_law 395 = .ok (.iload 5, 2) := by decide +kernel
theorem dL_law_397 : decode cL_law 397 = .ok (.iconst 4, 1) := by decide +kernel
theorem dL_law_398 : decode cL_law 398 = .ok (.iadd, 1) := by decide +kernel
theorem dL_law_399 : decode cL_law 399 = .ok (.iaload, 1) := by decide +kernel
theorem dL_law_400 : decode cL_law 400 = .ok (.invokevirtual 172, 3) := by decide +kernel
theorem dL_law_403 : decode cL_law 403 = .ok (.istore 7, 2) := by decide +kernel
theorem dL_law_405 : decode cL_law 405 = .ok (.aload_n 2, 1) := by decide +kernel
theorem dL_law_406 : decode cL_law 406 = .ok (.invokevirtual 166, 3) := by decide +kernel
theorem dL_law_409 : decode cL_law 409 = .ok (.iload 6, 2) := by decide +kernel
theorem dL_law_411 : decode cL_law 411 = .ok (.if_icmp .eq 5, 3) := by decide +kernel
theorem dL_law_414 : decode cL_law 414 = .ok (.iconst 0, 1) := by decide +kernel
theorem dL_law_415 : decode cL_law 415 = .ok (.ireturn, 1) := by decide +kernel
theorem dL_law_416 : decode cL_law 416 = .ok (.iload 6, 2) := by decide +kernel
theorem dL_law_418 : decode cL_law 418 = .ok (.ifCond .ne 15, 3) := by decide +kernel
theorem dL_law_421 : decode cL_law 421 = .ok (.aload_n 3, 1) := by decide +kernel
theorem dL_law_422 : decode cL_law 422 = .ok (.iconst 0, 1) := by decide +kernel
theorem dL_law_423 : decode cL_law 423 = .ok (.laload, 1) := by decide +kernel
theorem dL_law_424 : decode cL_law 424 = .ok (.iload 7, 2) := by decide +kernel
theorem dL_law_426 : decode cL_law 426 = .ok (.i2l, 1) := by decide +kernel
theorem dL_law_427 : decode cL_law 427 = .ok (.lcmp, 1) := by decide +kernel
theorem dL_law_428 : decode cL_law 428 = .ok (.ifCond .eq 5, 3) := by decide +kernel
theorem dL_law_431 : decode cL_law 431 = .ok (.iconst 0, 1) := by decide +kernel
theorem dL_law_432 : decode cL_law 432 = .ok (.ireturn, 1) := by decide +kernel
theorem dL_law_433 : decode cL_law 433 = .ok (.goto 2440, 3) := by decide +kernel
theorem dL_law_436 : decode cL_law 436 = .ok (.aload_n 1, 1) := by decide +kernel
theorem dL_law_437 : decode cL_law 437 = .ok (.aload_n 0, 1) := by decide +kernel
theorem dL_law_438 : decode cL_law 438 = .ok (.iload 5, 2) := by decide +kernel
theorem dL_law_440 : decode cL_law 440 = .ok (.iconst 1, 1) := by decide +kernel
theorem dL_law_441 : decode cL_law 441 = .ok (.iadd, 1) := by decide +kernel
theorem dL_law_442 : decode cL_law 442 = .ok (.iaload, 1) := by decide +kernel
theorem dL_law_443 : decode cL_law 443 = .ok (.aload_n 0, 1) := by decide +kernel
theorem dL_law_444 : decode cL_law 444 = .ok (.iload 5, 2) := by decide +kernel
theorem dL_law_446 : decode cL_law 446 = .ok (.iconst 2, 1) := by decide +kernel
theorem dL_law_447 : decode cL_law 447 = .ok (.iadd, 1) := by decide +kernel
theorem dL_law_448 : decode cL_law 448 = .ok (.iaload, 1) := by decide +kernel
theorem dL_law_449 : decode cL_law 449 = .ok (.aload_n 3, 1) := by decide +kernel
theorem dL_law_450 : decode cL_law 450 = .ok (.invokestatic 173, 3) := by decide +kernel
theorem dL_law_453 : decode cL_law 453 = .ok (.istore 6, 2) := by decide +kernel
theorem dL_law_455 : decode cL_law 455 = .ok (.aload_n 2, 1) := by decide +kernel
theorem dL_law_456 : decode cL_law 456 = .ok (.aload_n 0, 1) := by decide +kernel
theorem dL_law_457 : decode cL_law 457 = .ok (.iload 5, 2) := by decide +kernel
theorem dL_law_459 : decode cL_law 459 = .ok (.iconst 1, 1) := by decide +kernel
theorem dL_law_460 : decode cL_law 460 = .ok (.iadd, 1) := by decide +kernel
theorem dL_law_461 : decode cL_law 461 = .ok (.iaload, 1) := by decide +kernel
theorem dL_law_462 : decode cL_law 462 = .ok (.aload_n 0, 1) := by decide +kernel
theorem dL_law_463 : decode cL_law 463 = .ok (.iload 5, 2) := by decide +kernel
theorem dL_law_465 : decode cL_law 465 = .ok (.iconst 2, 1) := by decide +kernel
theorem dL_law_466 : decode cL_law 466 = .ok (.iadd, 1) := by decide +kernel
theorem dL_law_467 : decode cL_law 467 = .ok (.iaload, 1) := by decide +kernel
theorem dL_law_468 : decode cL_law 468 = .ok (.invokevirtual 176, 3) := by decide +kernel
theorem dL_law_471 : decode cL_law 471 = .ok (.istore 7, 2) := by decide +kernel
theorem dL_law_473 : decode cL_law 473 = .ok (.aload_n 2, 1) := by decide +kernel
theorem dL_law_474 : decode cL_law 474 = .ok (.invokevirtual 166, 3) := by decide +kernel
theorem dL_law_477 : decode cL_law 477 = .ok (.iload 6, 2) := by decide +kernel
theorem dL_law_479 : decode cL_law 479 = .ok (.if_icmp .eq 5, 3) := by decide +kernel
theorem dL_law_482 : decode cL_law 482 = .ok (.iconst 0, 1) := by decide +kernel
theorem dL_law_483 : decode cL_law 483 = .ok (.ireturn, 1) := by decide +kernel
theorem dL_law_484 : decode cL_law 484 = .ok (.iload 6, 2) := by decide +kernel
theorem dL_law_486 : decode cL_law 486 = .ok (.ifCond .ne 15, 3) := by decide +kernel
theorem dL_law_489 : decode cL_law 489 = .ok (.aload_n 3, 1) := by decide +kernel
theorem dL_law_490 : decode cL_law 490 = .ok (.iconst 0, 1) := by decide +kernel
theorem dL_law_491 : decode cL_law 491 = .ok (.laload, 1) := by decide +kernel
theorem dL_law_492 : decode cL_law 492 = .ok (.iload 7, 2) := by decide +kernel
theorem dL_law_494 : decode cL_law 494 = .ok (.i2l, 1) := by decide +kernel
theorem dL_law_495 : decode cL_law 495 = .ok (.lcmp, 1) := by decide +kernel
theorem dL_law_496 : decode cL_law 496 = .ok (.ifCond .eq 5, 3) := by decide +kernel
theorem dL_law_499 : decode cL_law 499 = .ok (.iconst 0, 1) := by decide +kernel
theorem dL_law_500 : decode cL_law 500 = .ok (.ireturn, 1) := by decide +kernel
theorem dL_law_501 : decode cL_law 501 = .ok (.goto 2372, 3) := by decide +kernel
theorem dL_law_504 : decode cL_law 504 = .ok (.aload_n 1, 1) := by decide +kernel
theorem dL_law_505 : decode cL_law 505 = .ok (.aload_n 0, 1) := by decide +kernel
theorem dL_law_506 : decode cL_law 506 = .ok (.iload 5, 2) := by decide +kernel
theorem dL_law_508 : decode cL_law 508 = .ok (.iconst 1, 1) := by decide +kernel
theorem dL_law_509 : decode cL_law 509 = .ok (.iadd, 1) := by decide +kernel
theorem dL_law_510 : decode cL_law 510 = .ok (.iaload, 1) := by decide +kernel
theorem dL_law_511 : decode cL_law 511 = .ok (.aload_n 0, 1) := by decide +kernel
theorem dL_law_512 : decode cL_law 512 = .ok (.iload 5, 2) := by decide +kernel
theorem dL_law_514 : decode cL_law 514 = .ok (.iconst 2, 1) := by decide +kernel
theorem dL_law_515 : decode cL_law 515 = .ok (.iadd, 1) := by decide +kernel
theorem dL_law_516 : decode cL_law 516 = .ok (.iaload, 1) := by decide +kernel
theorem dL_law_517 : decode cL_law 517 = .ok (.aload_n 3, 1) := by decide +kernel
theorem dL_law_518 : decode cL_law 518 = .ok (.invokestatic 177, 3) := by decide +kernel
theorem dL_law_521 : decode cL_law 521 = .ok (.istore 6, 2) := by decide +kernel
theorem dL_law_523 : decode cL_law 523 = .ok (.aload_n 2, 1) := by decide +kernel
theorem dL_law_524 : decode cL_law 524 = .ok (.aload_n 0, 1) := by decide +kernel
theorem dL_law_525 : decode cL_law 525 = .ok (.iload 5, 2) := by decide +kernel
theorem dL_law_527 : decode cL_law 527 = .ok (.iconst 1, 1) := by decide +kernel
theorem dL_law_528 : decode cL_law 528 = .ok (.iadd, 1) := by decide +kernel
theorem dL_law_529 : decode cL_law 529 = .ok (.iaload, 1) := by decide +kernel
theorem dL_law_530 : decode cL_law 530 = .ok (.aload_n 0, 1) := by decide +kernel
theorem dL_law_531 : decode cL_law 531 = .ok (.iload 5, 2) := by decide +kernel
theorem dL_law_533 : decode cL_law 533 = .ok (.iconst 2, 1) := by decide +kernel
theorem dL_law_534 : decode cL_law 534 = .ok (.iadd, 1) := by decide +kernel
theorem dL_law_535 : decode cL_law 535 = .ok (.iaload, 1) := by decide +kernel
theorem dL_law_536 : decode cL_law 536 = .ok (.invokevirtual 179, 3) := by decide +kernel
theorem dL_law_539 : decode cL_law 539 = .ok (.istore 7, 2) := by decide +kernel
theorem dL_law_541 : decode cL_law 541 = .ok (.aload_n 2, 1) := by decide +kernel
theorem dL_law_542 : decode cL_law 542 = .ok (.invokevirtual 166, 3) := by decide +kernel
theorem dL_law_545 : decode cL_law 545 = .ok (.iload 6, 2) := by decide +kernel
theorem dL_law_547 : decode cL_law 547 = .ok (.if_icmp .eq 5, 3) := by decide +kernel
theorem dL_law_550 : decode cL_law 550 = .ok (.iconst 0, 1) := by decide +kernel
theorem dL_law_551 : decode cL_law 551 = .ok (.ireturn, 1) := by decide +kernel
theorem dL_law_552 : decode cL_law 552 = .ok (.iload 6, 2) := by decide +kernel
theorem dL_law_554 : decode cL_law 554 = .ok (.ifCond .ne 15, 3) := by decide +kernel
theorem dL_law_557 : decode cL_law 557 = .ok (.aload_n 3, 1) := by decide +kernel
theorem dL_law_558 : decode cL_law 558 = .ok (.iconst 0, 1) := by decide +kernel
theorem dL_law_559 : decode cL_law 559 = .ok (.laload, 1) := by decide +kernel
theorem dL_law_560 : decode cL_law 560 = .ok (.iload 7, 2) := by decide +kernel
theorem dL_law_562 : decode cL_law 562 = .ok (.i2l, 1) := by decide +kernel
theorem dL_law_563 : decode cL_law 563 = .ok (.lcmp, 1) := by decide +kernel
theorem dL_law_564 : decode cL_law 564 = .ok (.ifCond .eq 5, 3) := by decide +kernel
theorem dL_law_567 : decode cL_law 567 = .ok (.iconst 0, 1) := by decide +kernel
theorem dL_law_568 : decode cL_law 568 = .ok (.ireturn, 1) := by decide +kernel
theorem dL_law_569 : decode cL_law 569 = .ok (.goto 2304, 3) := by decide +kernel
theorem dL_law_572 : decode cL_law 572 = .ok (.aload_n 1, 1) := by decide +kernel
theorem dL_law_573 : decode cL_law 573 = .ok (.invokevirtual 180, 3) := by decide +kernel
theorem dL_law_576 : decode cL_law 576 = .ok (.aload_n 2, 1) := by decide +kernel
theorem dL_law_577 : decode cL_law 577 = .ok (.invokevirtual 183, 3) := by decide +kernel
theorem dL_law_580 : decode cL_law 580 = .ok (.if_icmp .eq 2293, 3) := by decide +kernel
theorem dL_law_583 : decode cL_law 583 = .ok (.iconst 0, 1) := by decide +kernel
theorem dL_law_584 : decode cL_law 584 = .ok (.ireturn, 1) := by decide +kernel
theorem dL_law_585 : decode cL_law 585 = .ok (.aload_n 1, 1) := by decide +kernel
theorem dL_law_586 : decode cL_law 586 = .ok (.aload_n 0, 1) := by decide +kernel
theorem dL_law_587 : decode cL_law 587 = .ok (.iload 5, 2) := by decide +kernel
theorem dL_law_589 : decode cL_law 589 = .ok (.iconst 1, 1) := by decide +kernel
theorem dL_law_590 : decode cL_law 590 = .ok (.iadd, 1) := by decide +kernel
theorem dL_law_591 : decode cL_law 591 = .ok (.iaload, 1) := by decide +kernel
theorem dL_law_592 : decode cL_law 592 = .ok (.aload_n 0, 1) := by decide +kernel
theorem dL_law_593 : decode cL_law 593 = .ok (.iload 5, 2) := by decide +kernel
theorem dL_law_595 : decode cL_law 595 = .ok (.iconst 2, 1) := by decide +kernel
theorem dL_law_596 : decode cL_law 596 = .ok (.iadd, 1) := by decide +kernel
theorem dL_law_597 : decode cL_law 597 = .ok (.iaload, 1) := by decide +kernel
theorem dL_law_598 : decode cL_law 598 = .ok (.aload_n 0, 1) := by decide +kernel
theorem dL_law_599 : decode cL_law 599 = .ok (.iload 5, 2) := by decide +kernel
theorem dL_law_601 : decode cL_law 601 = .ok (.iconst 3, 1) := by decide +kernel
theorem dL_law_602 : decode cL_law 602 = .ok (.iadd, 1) := by decide +kernel
theorem dL_law_603 : decode cL_law 603 = .ok (.iaload, 1) := by decide +kernel
theorem dL_law_604 : decode cL_law 604 = .ok (.aload_n 3, 1) := by decide +kernel
theorem dL_law_605 : decode cL_law 605 = .ok (.invokestatic 184, 3) := by decide +kernel
theorem dL_law_608 : decode cL_law 608 = .ok (.istore 6, 2) := by decide +kernel
theorem dL_law_610 : decode cL_law 610 = .ok (.aload_n 2, 1) := by decide +kernel
theorem dL_law_611 : decode cL_law 611 = .ok (.aload_n 0, 1) := by decide +kernel
theorem dL_law_612 : decode cL_law 612 = .ok (.iload 5, 2) := by decide +kernel
theorem dL_law_614 : decode cL_law 614 = .ok (.iconst 1, 1) := by decide +kernel
theorem dL_law_615 : decode cL_law 615 = .ok (.iadd, 1) := by decide +kernel
theorem dL_law_616 : decode cL_law 616 = .ok (.iaload, 1) := by decide +kernel
theorem dL_law_617 : decode cL_law 617 = .ok (.aload_n 0, 1) := by decide +kernel
theorem dL_law_618 : decode cL_law 618 = .ok (.iload 5, 2) := by decide +kernel
theorem dL_law_620 : decode cL_law 620 = .ok (.iconst 2, 1) := by decide +kernel
theorem dL_law_621 : decode cL_law 621 = .ok (.iadd, 1) := by decide +kernel
theorem dL_law_622 : decode cL_law 622 = .ok (.iaload, 1) := by decide +kernel
theorem dL_law_623 : decode cL_law 623 = .ok (.aload_n 0, 1) := by decide +kernel
theorem dL_law_624 : decode cL_law 624 = .ok (.iload 5, 2) := by decide +kernel
theorem dL_law_626 : decode cL_law 626 = .ok (.iconst 3, 1) := by decide +kernel
theorem dL_law_627 : decode cL_law 627 = .ok (.iadd, 1) := by decide +kernel
theorem dL_law_628 : decode cL_law 628 = .ok (.iaload, 1) := by decide +kernel
theorem dL_law_629 : decode cL_law 629 = .ok (.invokevirtual 187, 3) := by decide +kernel
theorem dL_law_632 : decode cL_law 632 = .ok (.istore 7, 2) := by decide +kernel
theorem dL_law_634 : decode cL_law 634 = .ok (.aload_n 2, 1) := by decide +kernel
theorem dL_law_635 : decode cL_law 635 = .ok (.invokevirtual 166, 3) := by decide +kernel
theorem dL_law_638 : decode cL_law 638 = .ok (.iload 6, 2) := by decide +kernel
theorem dL_law_640 : decode cL_law 640 = .ok (.if_icmp .eq 5, 3) := by decide +kernel
theorem dL_law_643 : decode cL_law 643 = .ok (.iconst 0, 1) := by decide +kernel
theorem dL_law_644 : decode cL_law 644 = .ok (.ireturn, 1) := by decide +kernel
theorem dL_law_645 : decode cL_law 645 = .ok (.iload 6, 2) := by decide +kernel
theorem dL_law_647 : decode cL_law 647 = .ok (.ifCond .ne 15, 3) := by decide +kernel
theorem dL_law_650 : decode cL_law 650 = .ok (.aload_n 3, 1) := by decide +kernel
theorem dL_law_651 : decode cL_law 651 = .ok (.iconst 0, 1) := by decide +kernel
theorem dL_law_652 : decode cL_law 652 = .ok (.laload, 1) := by decide +kernel
theorem dL_law_653 : decode cL_law 653 = .ok (.iload 7, 2) := by decide +kernel
theorem dL_law_655 : decode cL_law 655 = .ok (.i2l, 1) := by decide +kernel
theorem dL_law_656 : decode cL_law 656 = .ok (.lcmp, 1) := by decide +kernel
theorem dL_law_657 : decode cL_law 657 = .ok (.ifCond .eq 5, 3) := by decide +kernel
theorem dL_law_660 : decode cL_law 660 = .ok (.iconst 0, 1) := by decide +kernel
theorem dL_law_661 : decode cL_law 661 = .ok (.ireturn, 1) := by decide +kernel
theorem dL_law_662 : decode cL_law 662 = .ok (.goto 2211, 3) := by decide +kernel
theorem dL_law_665 : decode cL_law 665 = .ok (.aload_n 1, 1) := by decide +kernel
theorem dL_law_666 : decode cL_law 666 = .ok (.aload_n 0, 1) := by decide +kernel
theorem dL_law_667 : decode cL_law 667 = .ok (.iload 5, 2) := by decide +kernel
theorem dL_law_669 : decode cL_law 669 = .ok (.iconst 1, 1) := by decide +kernel
theorem dL_law_670 : decode cL_law 670 = .ok (.iadd, 1) := by decide +kernel
theorem dL_law_671 : decode cL_law 671 = .ok (.iaload, 1) := by decide +kernel
theorem dL_law_672 : decode cL_law 672 = .ok (.aload_n 3, 1) := by decide +kernel
theorem dL_law_673 : decode cL_law 673 = .ok (.invokestatic 188, 3) := by decide +kernel
theorem dL_law_676 : decode cL_law 676 = .ok (.istore 6, 2) := by decide +kernel
theorem dL_law_678 : decode cL_law 678 = .ok (.aload_n 2, 1) := by decide +kernel
theorem dL_law_679 : decode cL_law 679 = .ok (.aload_n 0, 1) := by decide +kernel
theorem dL_law_680 : decode cL_law 680 = .ok (.iload 5, 2) := by decide +kernel
theorem dL_law_682 : decode cL_law 682 = .ok (.iconst 1, 1) := by decide +kernel
theorem dL_law_683 : decode cL_law 683 = .ok (.iadd, 1) := by decide +kernel
theorem dL_law_684 : decode cL_law 684 = .ok (.iaload, 1) := by decide +kernel
theorem dL_law_685 : decode cL_law 685 = .ok (.invokevirtual 191, 3) := by decide +kernel
theorem dL_law_688 : decode cL_law 688 = .ok (.istore 7, 2) := by decide +kernel
theorem dL_law_690 : decode cL_law 690 = .ok (.aload_n 2, 1) := by decide +kernel
theorem dL_law_691 : decode cL_law 691 = .ok (.invokevirtual 166, 3) := by decide +kernel
theorem dL_law_694 : decode cL_law 694 = .ok (.iload 6, 2) := by decide +kernel
theorem dL_law_696 : decode cL_law 696 = .ok (.if_icmp .eq 5, 3) := by decide +kernel
theorem dL_law_699 : decode cL_law 699 = .ok (.iconst 0, 1) := by decide +kernel
theorem dL_law_700 : decode cL_law 700 = .ok (.ireturn, 1) := by decide +kernel
theorem dL_law_701 : decode cL_law 701 = .ok (.iload 6, 2) := by decide +kernel
theorem dL_law_703 : decode cL_law 703 = .ok (.ifCond .ne 15, 3) := by decide +kernel
theorem dL_law_706 : decode cL_law 706 = .ok (.aload_n 3, 1) := by decide +kernel
theorem dL_law_707 : decode cL_law 707 = .ok (.iconst 0, 1) := by decide +kernel
theorem dL_law_708 : decode cL_law 708 = .ok (.laload, 1) := by decide +kernel
theorem dL_law_709 : decode cL_law 709 = .ok (.iload 7, 2) := by decide +kernel
theorem dL_law_711 : decode cL_law 711 = .ok (.i2l, 1) := by decide +kernel
theorem dL_law_712 : decode cL_law 712 = .ok (.lcmp, 1) := by decide +kernel
theorem dL_law_713 : decode cL_law 713 = .ok (.ifCond .eq 5, 3) := by decide +kernel
theorem dL_law_716 : decode cL_law 716 = .ok (.iconst 0, 1) := by decide +kernel
theorem dL_law_717 : decode cL_law 717 = .ok (.ireturn, 1) := by decide +kernel
theorem dL_law_718 : decode cL_law 718 = .ok (.goto 2155, 3) := by decide +kernel
theorem dL_law_721 : decode cL_law 721 = .ok (.aload_n 1, 1) := by decide +kernel
theorem dL_law_722 : decode cL_law 722 = .ok (.aload_n 0, 1) := by decide +kernel
theorem dL_law_723 : decode cL_law 723 = .ok (.iload 5, 2) := by decide +kernel
theorem dL_law_725 : decode cL_law 725 = .ok (.iconst 1, 1) := by decide +kernel
theorem dL_law_726 : decode cL_law 726 = .ok (.iadd, 1) := by decide +kernel
theorem dL_law_727 : decode cL_law 727 = .ok (.iaload, 1) := by decide +kernel
theorem dL_law_728 : decode cL_law 728 = .ok (.aload_n 3, 1) := by decide +kernel
theorem dL_law_729 : decode cL_law 729 = .ok (.invokestatic 192, 3) := by decide +kernel
theorem dL_law_732 : decode cL_law 732 = .ok (.istore 6, 2) := by decide +kernel
theorem dL_law_734 : decode cL_law 734 = .ok (.aload_n 2, 1) := by decide +kernel
theorem dL_law_735 : decode cL_law 735 = .ok (.aload_n 0, 1) := by decide +kernel
theorem dL_law_736 : decode cL_law 736 = .ok (.iload 5, 2) := by decide +kernel
theorem dL_law_738 : decode cL_law 738 = .ok (.iconst 1, 1) := by decide +kernel
theorem dL_law_739 : decode cL_law 739 = .ok (.iadd, 1) := by decide +kernel
theorem dL_law_740 : decode cL_law 740 = .ok (.iaload, 1) := by decide +kernel
theorem dL_law_741 : decode cL_law 741 = .ok (.invokevirtual 194, 3) := by decide +kernel
theorem dL_law_744 : decode cL_law 744 = .ok (.istore 7, 2) := by decide +kernel
theorem dL_law_746 : decode cL_law 746 = .ok (.aload_n 2, 1) := by decide +kernel
theorem dL_law_747 : decode cL_law 747 = .ok (.invokevirtual 166, 3) := by decide +kernel
theorem dL_law_750 : decode cL_law 750 = .ok (.iload 6, 2) := by decide +kernel
theorem dL_law_752 : decode cL_law 752 = .ok (.if_icmp .eq 5, 3) := by decide +kernel
theorem dL_law_755 : decode cL_law 755 = .ok (.iconst 0, 1) := by decide +kernel
theorem dL_law_756 : decode cL_law 756 = .ok (.ireturn, 1) := by decide +kernel
theorem dL_law_757 : decode cL_law 757 = .ok (.iload 6, 2) := by decide +kernel
theorem dL_law_759 : decode cL_law 759 = .ok (.ifCond .ne 15, 3) := by decide +kernel
theorem dL_law_762 : decode cL_law 762 = .ok (.aload_n 3, 1) := by decide +kernel
theorem dL_law_763 : decode cL_law 763 = .ok (.iconst 0, 1) := by decide +kernel
theorem dL_law_764 : decode cL_law 764 = .ok (.laload, 1) := by decide +kernel
theorem dL_law_765 : decode cL_law 765 = .ok (.iload 7, 2) := by decide +kernel
theorem dL_law_767 : decode cL_law 767 = .ok (.i2l, 1) := by decide +kernel
theorem dL_law_768 : decode cL_law 768 = .ok (.lcmp, 1) := by decide +kernel
theorem dL_law_769 : decode cL_law 769 = .ok (.ifCond .eq 5, 3) := by decide +kernel
theorem dL_law_772 : decode cL_law 772 = .ok (.iconst 0, 1) := by decide +kernel
theorem dL_law_773 : decode cL_law 773 = .ok (.ireturn, 1) := by decide +kernel
theorem dL_law_774 : decode cL_law 774 = .ok (.goto 2099, 3) := by decide +kernel
theorem dL_law_777 : decode cL_law 777 = .ok (.aload_n 1, 1) := by decide +kernel
theorem dL_law_778 : decode cL_law 778 = .ok (.aload_n 0, 1) := by decide +kernel
theorem dL_law_779 : decode cL_law 779 = .ok (.iload 5, 2) := by decide +kernel
theorem dL_law_781 : decode cL_law 781 = .ok (.iconst 1, 1) := by decide +kernel
theorem dL_law_782 : decode cL_law 782 = .ok (.iadd, 1) := by decide +kernel
theorem dL_law_783 : decode cL_law 783 = .ok (.iaload, 1) := by decide +kernel
theorem dL_law_784 : decode cL_law 784 = .ok (.aload_n 3, 1) := by decide +kernel
theorem dL_law_785 : decode cL_law 785 = .ok (.invokestatic 195, 3) := by decide +kernel
theorem dL_law_788 : decode cL_law 788 = .ok (.istore 6, 2) := by decide +kernel
theorem dL_law_790 : decode cL_law 790 = .ok (.aload_n 2, 1) := by decide +kernel
theorem dL_law_791 : decode cL_law 791 = .ok (.aload_n 0, 1) := by decide +kernel
theorem dL_law_792 : decode cL_law 792 = .ok (.iload 5, 2) := by decide +kernel
theorem dL_law_794 : decode cL_law 794 = .ok (.iconst 1, 1) := by decide +kernel
theorem dL_law_795 : decode cL_law 795 = .ok (.iadd, 1) := by decide +kernel
theorem dL_law_796 : decode cL_law 796 = .ok (.iaload, 1) := by decide +kernel
theorem dL_law_797 : decode cL_law 797 = .ok (.invokevirtual 197, 3) := by decide +kernel
theorem dL_law_800 : decode cL_law 800 = .ok (.istore 7, 2) := by decide +kernel
theorem dL_law_802 : decode cL_law 802 = .ok (.aload_n 2, 1) := by decide +kernel
theorem dL_law_803 : decode cL_law 803 = .ok (.invokevirtual 166, 3) := by decide +kernel
theorem dL_law_806 : decode cL_law 806 = .ok (.iload 6, 2) := by decide +kernel
theorem dL_law_808 : decode cL_law 808 = .ok (.if_icmp .eq 5, 3) := by decide +kernel
theorem dL_law_811 : decode cL_law 811 = .ok (.iconst 0, 1) := by decide +kernel
theorem dL_law_812 : decode cL_law 812 = .ok (.ireturn, 1) := by decide +kernel
theorem dL_law_813 : decode cL_law 813 = .ok (.iload 6, 2) := by decide +kernel
theorem dL_law_815 : decode cL_law 815 = .ok (.ifCond .ne 15, 3) := by decide +kernel
theorem dL_law_818 : decode cL_law 818 = .ok (.aload_n 3, 1) := by decide +kernel
theorem dL_law_819 : decode cL_law 819 = .ok (.iconst 0, 1) := by decide +kernel
theorem dL_law_820 : decode cL_law 820 = .ok (.laload, 1) := by decide +kernel
theorem dL_law_821 : decode cL_law 821 = .ok (.iload 7, 2) := by decide +kernel
theorem dL_law_823 : decode cL_law 823 = .ok (.i2l, 1) := by decide +kernel
theorem dL_law_824 : decode cL_law 824 = .ok (.lcmp, 1) := by decide +kernel
theorem dL_law_825 : decode cL_law 825 = .ok (.ifCond .eq 5, 3) := by decide +kernel
theorem dL_law_828 : decode cL_law 828 = .ok (.iconst 0, 1) := by decide +kernel
theorem dL_law_829 : decode cL_law 829 = .ok (.ireturn, 1) := by decide +kernel
theorem dL_law_830 : decode cL_law 830 = .ok (.goto 2043, 3) := by decide +kernel
theorem dL_law_833 : decode cL_law 833 = .ok (.aload_n 1, 1) := by decide +kernel
theorem dL_law_834 : decode cL_law 834 = .ok (.aload_n 0, 1) := by decide +kernel
theorem dL_law_835 : decode cL_law 835 = .ok (.iload 5, 2) := by decide +kernel
theorem dL_law_837 : decode cL_law 837 = .ok (.iconst 1, 1) := by decide +kernel
theorem dL_law_838 : decode cL_law 838 = .ok (.iadd, 1) := by decide +kernel
theorem dL_law_839 : decode cL_law 839 = .ok (.iaload, 1) := by decide +kernel
theorem dL_law_840 : decode cL_law 840 = .ok (.aload_n 3, 1) := by decide +kernel
theorem dL_law_841 : decode cL_law 841 = .ok (.invokestatic 198, 3) := by decide +kernel
theorem dL_law_844 : decode cL_law 844 = .ok (.istore 6, 2) := by decide +kernel
theorem dL_law_846 : decode cL_law 846 = .ok (.aload_n 2, 1) := by decide +kernel
theorem dL_law_847 : decode cL_law 847 = .ok (.aload_n 0, 1) := by decide +kernel
theorem dL_law_848 : decode cL_law 848 = .ok (.iload 5, 2) := by decide +kernel
theorem dL_law_850 : decode cL_law 850 = .ok (.iconst 1, 1) := by decide +kernel
theorem dL_law_851 : decode cL_law 851 = .ok (.iadd, 1) := by decide +kernel
theorem dL_law_852 : decode cL_law 852 = .ok (.iaload, 1) := by decide +kernel
theorem dL_law_853 : decode cL_law 853 = .ok (.invokevirtual 200, 3) := by decide +kernel
theorem dL_law_856 : decode cL_law 856 = .ok (.istore 7, 2) := by decide +kernel
theorem dL_law_858 : decode cL_law 858 = .ok (.aload_n 2, 1) := by decide +kernel
theorem dL_law_859 : decode cL_law 859 = .ok (.invokevirtual 166, 3) := by decide +kernel
theorem dL_law_862 : decode cL_law 862 = .ok (.iload 6, 2) := by decide +kernel
theorem dL_law_864 : decode cL_law 864 = .ok (.if_icmp .eq 5, 3) := by decide +kernel
theorem dL_law_867 : decode cL_law 867 = .ok (.iconst 0, 1) := by decide +kernel
theorem dL_law_868 : decode cL_law 868 = .ok (.ireturn, 1) := by decide +kernel
theorem dL_law_869 : decode cL_law 869 = .ok (.iload 6, 2) := by decide +kernel
theorem dL_law_871 : decode cL_law 871 = .ok (.ifCond .ne 15, 3) := by decide +kernel
theorem dL_law_874 : decode cL_law 874 = .ok (.aload_n 3, 1) := by decide +kernel
theorem dL_law_875 : decode cL_law 875 = .ok (.iconst 0, 1) := by decide +kernel
theorem dL_law_876 : decode cL_law 876 = .ok (.laload, 1) := by decide +kernel
theorem dL_law_877 : decode cL_law 877 = .ok (.iload 7, 2) := by decide +kernel
theorem dL_law_879 : decode cL_law 879 = .ok (.i2l, 1) := by decide +kernel
theorem dL_law_880 : decode cL_law 880 = .ok (.lcmp, 1) := by decide +kernel
theorem dL_law_881 : decode cL_law 881 = .ok (.ifCond .eq 5, 3) := by decide +kernel
theorem dL_law_884 : decode cL_law 884 = .ok (.iconst 0, 1) := by decide +kernel
theorem dL_law_885 : decode cL_law 885 = .ok (.ireturn, 1) := by decide +kernel
theorem dL_law_886 : decode cL_law 886 = .ok (.goto 1987, 3) := by decide +kernel
theorem dL_law_889 : decode cL_law 889 = .ok (.aload_n 1, 1) := by decide +kernel
theorem dL_law_890 : decode cL_law 890 = .ok (.invokevirtual 201, 3) := by decide +kernel
theorem dL_law_893 : decode cL_law 893 = .ok (.aload_n 2, 1) := by decide +kernel
theorem dL_law_894 : decode cL_law 894 = .ok (.invokevirtual 204, 3) := by decide +kernel
theorem dL_law_897 : decode cL_law 897 = .ok (.if_icmp .eq 1976, 3) := by decide +kernel
theorem dL_law_900 : decode cL_law 900 = .ok (.iconst 0, 1) := by decide +kernel
theorem dL_law_901 : decode cL_law 901 = .ok (.ireturn, 1) := by decide +kernel
theorem dL_law_902 : decode cL_law 902 = .ok (.aload_n 1, 1) := by decide +kernel
theorem dL_law_903 : decode cL_law 903 = .ok (.aload_n 0, 1) := by decide +kernel
theorem dL_law_904 : decode cL_law 904 = .ok (.iload 5, 2) := by decide +kernel
theorem dL_law_906 : decode cL_law 906 = .ok (.iconst 1, 1) := by decide +kernel
theorem dL_law_907 : decode cL_law 907 = .ok (.iadd, 1) := by decide +kernel
theorem dL_law_908 : decode cL_law 908 = .ok (.iaload, 1) := by decide +kernel
theorem dL_law_909 : decode cL_law 909 = .ok (.aload_n 3, 1) := by decide +kernel
theorem dL_law_910 : decode cL_law 910 = .ok (.invokestatic 205, 3) := by decide +kernel
theorem dL_law_913 : decode cL_law 913 = .ok (.istore 6, 2) := by decide +kernel
theorem dL_law_915 : decode cL_law 915 = .ok (.aload_n 2, 1) := by decide +kernel
theorem dL_law_916 : decode cL_law 916 = .ok (.aload_n 0, 1) := by decide +kernel
theorem dL_law_917 : decode cL_law 917 = .ok (.iload 5, 2) := by decide +kernel
theorem dL_law_919 : decode cL_law 919 = .ok (.iconst 1, 1) := by decide +kernel
theorem dL_law_920 : decode cL_law 920 = .ok (.iadd, 1) := by decide +kernel
theorem dL_law_921 : decode cL_law 921 = .ok (.iaload, 1) := by decide +kernel
theorem dL_law_922 : decode cL_law 922 = .ok (.invokevirtual 207, 3) := by decide +kernel
theorem dL_law_925 : decode cL_law 925 = .ok (.istore 7, 2) := by decide +kernel
theorem dL_law_927 : decode cL_law 927 = .ok (.aload_n 2, 1) := by decide +kernel
theorem dL_law_928 : decode cL_law 928 = .ok (.invokevirtual 166, 3) := by decide +kernel
theorem dL_law_931 : decode cL_law 931 = .ok (.iload 6, 2) := by decide +kernel
theorem dL_law_933 : decode cL_law 933 = .ok (.if_icmp .eq 5, 3) := by decide +kernel
theorem dL_law_936 : decode cL_law 936 = .ok (.iconst 0, 1) := by decide +kernel
theorem dL_law_937 : decode cL_law 937 = .ok (.ireturn, 1) := by decide +kernel
theorem dL_law_938 : decode cL_law 938 = .ok (.iload 6, 2) := by decide +kernel
theorem dL_law_940 : decode cL_law 940 = .ok (.ifCond .ne 15, 3) := by decide +kernel
theorem dL_law_943 : decode cL_law 943 = .ok (.aload_n 3, 1) := by decide +kernel
theorem dL_law_944 : decode cL_law 944 = .ok (.iconst 0, 1) := by decide +kernel
theorem dL_law_945 : decode cL_law 945 = .ok (.laload, 1) := by decide +kernel
theorem dL_law_946 : decode cL_law 946 = .ok (.iload 7, 2) := by decide +kernel
theorem dL_law_948 : decode cL_law 948 = .ok (.i2l, 1) := by decide +kernel
theorem dL_law_949 : decode cL_law 949 = .ok (.lcmp, 1) := by decide +kernel
theorem dL_law_950 : decode cL_law 950 = .ok (.ifCond .eq 5, 3) := by decide +kernel
theorem dL_law_953 : decode cL_law 953 = .ok (.iconst 0, 1) := by decide +kernel
theorem dL_law_954 : decode cL_law 954 = .ok (.ireturn, 1) := by decide +kernel
theorem dL_law_955 : decode cL_law 955 = .ok (.goto 1918, 3) := by decide +kernel
theorem dL_law_958 : decode cL_law 958 = .ok (.aload_n 1, 1) := by decide +kernel
theorem dL_law_959 : decode cL_law 959 = .ok (.aload_n 0, 1) := by decide +kernel
theorem dL_law_960 : decode cL_law 960 = .ok (.iload 5, 2) := by decide +kernel
theorem dL_law_962 : decode cL_law 962 = .ok (.iconst 1, 1) := by decide +kernel
theorem dL_law_963 : decode cL_law 963 = .ok (.iadd, 1) := by decide +kernel
theorem dL_law_964 : decode cL_law 964 = .ok (.iaload, 1) := by decide +kernel
theorem dL_law_965 : decode cL_law 965 = .ok (.aload_n 3, 1) := by decide +kernel
theorem dL_law_966 : decode cL_law 966 = .ok (.invokestatic 208, 3) := by decide +kernel
theorem dL_law_969 : decode cL_law 969 = .ok (.istore 6, 2) := by decide +kernel
theorem dL_law_971 : decode cL_law 971 = .ok (.aload_n 2, 1) := by decide +kernel
theorem dL_law_972 : decode cL_law 972 = .ok (.aload_n 0, 1) := by decide +kernel
theorem dL_law_973 : decode cL_law 973 = .ok (.iload 5, 2) := by decide +kernel
theorem dL_law_975 : decode cL_law 975 = .ok (.iconst 1, 1) := by decide +kernel
theorem dL_law_976 : decode cL_law 976 = .ok (.iadd, 1) := by decide +kernel
theorem dL_law_977 : decode cL_law 977 = .ok (.iaload, 1) := by decide +kernel
theorem dL_law_978 : decode cL_law 978 = .ok (.invokevirtual 210, 3) := by decide +kernel
theorem dL_law_981 : decode cL_law 981 = .ok (.istore 7, 2) := by decide +kernel
theorem dL_law_983 : decode cL_law 983 = .ok (.aload_n 2, 1) := by decide +kernel
theorem dL_law_984 : decode cL_law 984 = .ok (.invokevirtual 166, 3) := by decide +kernel
theorem dL_law_987 : decode cL_law 987 = .ok (.iload 6, 2) := by decide +kernel
theorem dL_law_989 : decode cL_law 989 = .ok (.if_icmp .eq 5, 3) := by decide +kernel
theorem dL_law_992 : decode cL_law 992 = .ok (.iconst 0, 1) := by decide +kernel
theorem dL_law_993 : decode cL_law 993 = .ok (.ireturn, 1) := by decide +kernel
theorem dL_law_994 : decode cL_law 994 = .ok (.iload 6, 2) := by decide +kernel
theorem dL_law_996 : decode cL_law 996 = .ok (.ifCond .ne 15, 3) := by decide +kernel
theorem dL_law_999 : decode cL_law 999 = .ok (.aload_n 3, 1) := by decide +kernel
theorem dL_law_1000 : decode cL_law 1000 = .ok (.iconst 0, 1) := by decide +kernel
theorem dL_law_1001 : decode cL_law 1001 = .ok (.laload, 1) := by decide +kernel
theorem dL_law_1002 : decode cL_law 1002 = .ok (.iload 7, 2) := by decide +kernel
theorem dL_law_1004 : decode cL_law 1004 = .ok (.i2l, 1) := by decide +kernel
theorem dL_law_1005 : decode cL_law 1005 = .ok (.lcmp, 1) := by decide +kernel
theorem dL_law_1006 : decode cL_law 1006 = .ok (.ifCond .eq 5, 3) := by decide +kernel
theorem dL_law_1009 : decode cL_law 1009 = .ok (.iconst 0, 1) := by decide +kernel
theorem dL_law_1010 : decode cL_law 1010 = .ok (.ireturn, 1) := by decide +kernel
theorem dL_law_1011 : decode cL_law 1011 = .ok (.goto 1862, 3) := by decide +kernel
theorem dL_law_1014 : decode cL_law 1014 = .ok (.aload_n 1, 1) := by decide +kernel
theorem dL_law_1015 : decode cL_law 1015 = .ok (.aload_n 0, 1) := by decide +kernel
theorem dL_law_1016 : decode cL_law 1016 = .ok (.iload 5, 2) := by decide +kernel
theorem dL_law_1018 : decode cL_law 1018 = .ok (.iconst 1, 1) := by decide +kernel
theorem dL_law_1019 : decode cL_law 1019 = .ok (.iadd, 1) := by decide +kernel
theorem dL_law_1020 : decode cL_law 1020 = .ok (.iaload, 1) := by decide +kernel
theorem dL_law_1021 : decode cL_law 1021 = .ok (.aload_n 3, 1) := by decide +kernel
theorem dL_law_1022 : decode cL_law 1022 = .ok (.invokestatic 211, 3) := by decide +kernel
theorem dL_law_1025 : decode cL_law 1025 = .ok (.istore 6, 2) := by decide +kernel
theorem dL_law_1027 : decode cL_law 1027 = .ok (.aload_n 2, 1) := by decide +kernel
theorem dL_law_1028 : decode cL_law 1028 = .ok (.aload_n 0, 1) := by decide +kernel
theorem dL_law_1029 : decode cL_law 1029 = .ok (.iload 5, 2) := by decide +kernel
theorem dL_law_1031 : decode cL_law 1031 = .ok (.iconst 1, 1) := by decide +kernel
theorem dL_law_1032 : decode cL_law 1032 = .ok (.iadd, 1) := by decide +kernel
theorem dL_law_1033 : decode cL_law 1033 = .ok (.iaload, 1) := by decide +kernel
theorem dL_law_1034 : decode cL_law 1034 = .ok (.invokevirtual 213, 3) := by decide +kernel
theorem dL_law_1037 : decode cL_law 1037 = .ok (.istore 7, 2) := by decide +kernel
theorem dL_law_1039 : decode cL_law 1039 = .ok (.aload_n 2, 1) := by decide +kernel
theorem dL_law_1040 : decode cL_law 1040 = .ok (.invokevirtual 166, 3) := by decide +kernel
theorem dL_law_1043 : decode cL_law 1043 = .ok (.iload 6, 2) := by decide +kernel
theorem dL_law_1045 : decode cL_law 1045 = .ok (.if_icmp .eq 5, 3) := by decide +kernel
theorem dL_law_1048 : decode cL_law 1048 = .ok (.iconst 0, 1) := by decide +kernel
theorem dL_law_1049 : decode cL_law 1049 = .ok (.ireturn, 1) := by decide +kernel
theorem dL_law_1050 : decode cL_law 1050 = .ok (.iload 6, 2) := by decide +kernel
theorem dL_law_1052 : decode cL_law 1052 = .ok (.ifCond .ne 15, 3) := by decide +kernel
theorem dL_law_1055 : decode cL_law 1055 = .ok (.aload_n 3, 1) := by decide +kernel
theorem dL_law_1056 : decode cL_law 1056 = .ok (.iconst 0, 1) := by decide +kernel
theorem dL_law_1057 : decode cL_law 1057 = .ok (.laload, 1) := by decide +kernel
theorem dL_law_1058 : decode cL_law 1058 = .ok (.iload 7, 2) := by decide +kernel
theorem dL_law_1060 : decode cL_law 1060 = .ok (.i2l, 1) := by decide +kernel
theorem dL_law_1061 : decode cL_law 1061 = .ok (.lcmp, 1) := by decide +kernel
theorem dL_law_1062 : decode cL_law 1062 = .ok (.ifCond .eq 5, 3) := by decide +kernel
theorem dL_law_1065 : decode cL_law 1065 = .ok (.iconst 0, 1) := by decide +kernel
theorem dL_law_1066 : decode cL_law 1066 = .ok (.ireturn, 1) := by decide +kernel
theorem dL_law_1067 : decode cL_law 1067 = .ok (.goto 1806, 3) := by decide +kernel
theorem dL_law_1070 : decode cL_law 1070 = .ok (.aload_n 1, 1) := by decide +kernel
theorem dL_law_1071 : decode cL_law 1071 = .ok (.aload_n 0, 1) := by decide +kernel
theorem dL_law_1072 : decode cL_law 1072 = .ok (.iload 5, 2) := by decide +kernel
theorem dL_law_1074 : decode cL_law 1074 = .ok (.iconst 1, 1) := by decide +kernel
theorem dL_law_1075 : decode cL_law 1075 = .ok (.iadd, 1) := by decide +kernel
theorem dL_law_1076 : decode cL_law 1076 = .ok (.iaload, 1) := by decide +kernel
theorem dL_law_1077 : decode cL_law 1077 = .ok (.aload_n 3, 1) := by decide +kernel
theorem dL_law_1078 : decode cL_law 1078 = .ok (.invokestatic 214, 3) := by decide +kernel
theorem dL_law_1081 : decode cL_law 1081 = .ok (.istore 6, 2) := by decide +kernel
theorem dL_law_1083 : decode cL_law 1083 = .ok (.aload_n 2, 1) := by decide +kernel
theorem dL_law_1084 : decode cL_law 1084 = .ok (.aload_n 0, 1) := by decide +kernel
theorem dL_law_1085 : decode cL_law 1085 = .ok (.iload 5, 2) := by decide +kernel
theorem dL_law_1087 : decode cL_law 1087 = .ok (.iconst 1, 1) := by decide +kernel
theorem dL_law_1088 : decode cL_law 1088 = .ok (.iadd, 1) := by decide +kernel
theorem dL_law_1089 : decode cL_law 1089 = .ok (.iaload, 1) := by decide +kernel
theorem dL_law_1090 : decode cL_law 1090 = .ok (.invokevirtual 216, 3) := by decide +kernel
theorem dL_law_1093 : decode cL_law 1093 = .ok (.istore 7, 2) := by decide +kernel
theorem dL_law_1095 : decode cL_law 1095 = .ok (.aload_n 2, 1) := by decide +kernel
theorem dL_law_1096 : decode cL_law 1096 = .ok (.invokevirtual 166, 3) := by decide +kernel
theorem dL_law_1099 : decode cL_law 1099 = .ok (.iload 6, 2) := by decide +kernel
theorem dL_law_1101 : decode cL_law 1101 = .ok (.if_icmp .eq 5, 3) := by decide +kernel
theorem dL_law_1104 : decode cL_law 1104 = .ok (.iconst 0, 1) := by decide +kernel
theorem dL_law_1105 : decode cL_law 1105 = .ok (.ireturn, 1) := by decide +kernel
theorem dL_law_1106 : decode cL_law 1106 = .ok (.iload 6, 2) := by decide +kernel
theorem dL_law_1108 : decode cL_law 1108 = .ok (.ifCond .ne 15, 3) := by decide +kernel
theorem dL_law_1111 : decode cL_law 1111 = .ok (.aload_n 3, 1) := by decide +kernel
theorem dL_law_1112 : decode cL_law 1112 = .ok (.iconst 0, 1) := by decide +kernel
theorem dL_law_1113 : decode cL_law 1113 = .ok (.laload, 1) := by decide +kernel
theorem dL_law_1114 : decode cL_law 1114 = .ok (.iload 7, 2) := by decide +kernel
theorem dL_law_1116 : decode cL_law 1116 = .ok (.i2l, 1) := by decide +kernel
theorem dL_law_1117 : decode cL_law 1117 = .ok (.lcmp, 1) := by decide +kernel
theorem dL_law_1118 : decode cL_law 1118 = .ok (.ifCond .eq 5, 3) := by decide +kernel
theorem dL_law_1121 : decode cL_law 1121 = .ok (.iconst 0, 1) := by decide +kernel
theorem dL_law_1122 : decode cL_law 1122 = .ok (.ireturn, 1) := by decide +kernel
theorem dL_law_1123 : decode cL_law 1123 = .ok (.goto 1750, 3) := by decide +kernel
theorem dL_law_1126 : decode cL_law 1126 = .ok (.aload_n 1, 1) := by decide +kernel
theorem dL_law_1127 : decode cL_law 1127 = .ok (.aload_n 0, 1) := by decide +kernel
theorem dL_law_1128 : decode cL_law 1128 = .ok (.iload 5, 2) := by decide +kernel
theorem dL_law_1130 : decode cL_law 1130 = .ok (.iconst 1, 1) := by decide +kernel
theorem dL_law_1131 : decode cL_law 1131 = .ok (.iadd, 1) := by decide +kernel
theorem dL_law_1132 : decode cL_law 1132 = .ok (.iaload, 1) := by decide +kernel
theorem dL_law_1133 : decode cL_law 1133 = .ok (.aload_n 3, 1) := by decide +kernel
theorem dL_law_1134 : decode cL_law 1134 = .ok (.invokestatic 217, 3) := by decide +kernel
theorem dL_law_1137 : decode cL_law 1137 = .ok (.istore 6, 2) := by decide +kernel
theorem dL_law_1139 : decode cL_law 1139 = .ok (.aload_n 2, 1) := by decide +kernel
theorem dL_law_1140 : decode cL_law 1140 = .ok (.aload_n 0, 1) := by decide +kernel
theorem dL_law_1141 : decode cL_law 1141 = .ok (.iload 5, 2) := by decide +kernel
theorem dL_law_1143 : decode cL_law 1143 = .ok (.iconst 1, 1) := by decide +kernel
theorem dL_law_1144 : decode cL_law 1144 = .ok (.iadd, 1) := by decide +kernel
theorem dL_law_1145 : decode cL_law 1145 = .ok (.iaload, 1) := by decide +kernel
theorem dL_law_1146 : decode cL_law 1146 = .ok (.invokevirtual 219, 3) := by decide +kernel
theorem dL_law_1149 : decode cL_law 1149 = .ok (.istore 7, 2) := by decide +kernel
theorem dL_law_1151 : decode cL_law 1151 = .ok (.aload_n 2, 1) := by decide +kernel
theorem dL_law_1152 : decode cL_law 1152 = .ok (.invokevirtual 166, 3) := by decide +kernel
theorem dL_law_1155 : decode cL_law 1155 = .ok (.iload 6, 2) := by decide +kernel
theorem dL_law_1157 : decode cL_law 1157 = .ok (.if_icmp .eq 5, 3) := by decide +kernel
theorem dL_law_1160 : decode cL_law 1160 = .ok (.iconst 0, 1) := by decide +kernel
theorem dL_law_1161 : decode cL_law 1161 = .ok (.ireturn, 1) := by decide +kernel
theorem dL_law_1162 : decode cL_law 1162 = .ok (.iload 6, 2) := by decide +kernel
theorem dL_law_1164 : decode cL_law 1164 = .ok (.ifCond .ne 15, 3) := by decide +kernel
theorem dL_law_1167 : decode cL_law 1167 = .ok (.aload_n 3, 1) := by decide +kernel
theorem dL_law_1168 : decode cL_law 1168 = .ok (.iconst 0, 1) := by decide +kernel
theorem dL_law_1169 : decode cL_law 1169 = .ok (.laload, 1) := by decide +kernel
theorem dL_law_1170 : decode cL_law 1170 = .ok (.iload 7, 2) := by decide +kernel
theorem dL_law_1172 : decode cL_law 1172 = .ok (.i2l, 1) := by decide +kernel
theorem dL_law_1173 : decode cL_law 1173 = .ok (.lcmp, 1) := by decide +kernel
theorem dL_law_1174 : decode cL_law 1174 = .ok (.ifCond .eq 5, 3) := by decide +kernel
theorem dL_law_1177 : decode cL_law 1177 = .ok (.iconst 0, 1) := by decide +kernel
theorem dL_law_1178 : decode cL_law 1178 = .ok (.ireturn, 1) := by decide +kernel
theorem dL_law_1179 : decode cL_law 1179 = .ok (.goto 1694, 3) := by decide +kernel
theorem dL_law_1182 : decode cL_law 1182 = .ok (.aload_n 1, 1) := by decide +kernel
theorem dL_law_1183 : decode cL_law 1183 = .ok (.aload_n 0, 1) := by decide +kernel
theorem dL_law_1184 : decode cL_law 1184 = .ok (.iload 5, 2) := by decide +kernel
theorem dL_law_1186 : decode cL_law 1186 = .ok (.iconst 1, 1) := by decide +kernel
theorem dL_law_1187 : decode cL_law 1187 = .ok (.iadd, 1) := by decide +kernel
theorem dL_law_1188 : decode cL_law 1188 = .ok (.iaload, 1) := by decide +kernel
theorem dL_law_1189 : decode cL_law 1189 = .ok (.aload_n 3, 1) := by decide +kernel
theorem dL_law_1190 : decode cL_law 1190 = .ok (.invokestatic 220, 3) := by decide +kernel
theorem dL_law_1193 : decode cL_law 1193 = .ok (.istore 6, 2) := by decide +kernel
theorem dL_law_1195 : decode cL_law 1195 = .ok (.aload_n 2, 1) := by decide +kernel
