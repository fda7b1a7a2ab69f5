theorem dX6_perform_119 : decode cX6_perform 119 = .ok (.aload_n 0, 1) := by decide +kernel
theorem dX6_perform_120 : decode cX6_perform 120 = .ok (.getfield 10, 3) := by decide +kernel
theorem dX6_perform_123 : decode cX6_perform 123 = .ok (.invokevirtual 88, 3) := by decide +kernel
theorem dX6_perform_126 : decode cX6_perform 126 = .ok (.aload_n 0, 1) := by decide +kernel
theorem dX6_perform_127 : decode cX6_perform 127 = .ok (.getfield 10, 3) := by decide +kernel
theorem dX6_perform_130 : decode cX6_perform 130 = .ok (.aload_n 0, 1) := by decide +kernel
theorem dX6_perform_131 : decode cX6_perform 131 = .ok (.getfield 33, 3) := by decide +kernel
theorem dX6_perform_134 : decode cX6_perform 134 = .ok (.getfield 91, 3) := by decide +kernel
theorem dX6_perform_137 : decode cX6_perform 137 = .ok (.invokevirtual 95, 3) := by decide +kernel
theorem dX6_perform_140 : decode cX6_perform 140 = .ok (.ireturn, 1) := by decide +kernel
theorem dX6_perform_141 : decode cX6_perform 141 = .ok (.aload_n 0, 1) := by decide +kernel
theorem dX6_perform_142 : decode cX6_perform 142 = .ok (.getfield 10, 3) := by decide +kernel
theorem dX6_perform_145 : decode cX6_perform 145 = .ok (.iload_n 3, 1) := by decide +kernel
theorem dX6_perform_146 : decode cX6_perform 146 = .ok (.iload 4, 2) := by decide +kernel
theorem dX6_perform_148 : decode cX6_perform 148 = .ok (.iload 5, 2) := by decide +kernel
theorem dX6_perform_150 : decode cX6_perform 150 = .ok (.invokevirtual 99, 3) := by decide +kernel
theorem dX6_perform_153 : decode cX6_perform 153 = .ok (.ireturn, 1) := by decide +kernel
theorem dX6_perform_154 : decode cX6_perform 154 = .ok (.aload_n 0, 1) := by decide +kernel
theorem dX6_perform_155 : decode cX6_perform 155 = .ok (.getfield 10, 3) := by decide +kernel
theorem dX6_perform_158 : decode cX6_perform 158 = .ok (.iload_n 3, 1) := by decide +kernel
theorem dX6_perform_159 : decode cX6_perform 159 = .ok (.invokevirtual 103, 3) := by decide +kernel
theorem dX6_perform_162 : decode cX6_perform 162 = .ok (.ireturn, 1) := by decide +kernel
theorem dX6_perform_163 : decode cX6_perform 163 = .ok (.aload_n 0, 1) := by decide +kernel
theorem dX6_perform_164 : decode cX6_perform 164 = .ok (.getfield 40, 3) := by decide +kernel
theorem dX6_perform_167 : decode cX6_perform 167 = .ok (.aload_n 0, 1) := by decide +kernel
theorem dX6_perform_168 : decode cX6_perform 168 = .ok (.getfield 10, 3) := by decide +kernel
theorem dX6_perform_171 : decode cX6_perform 171 = .ok (.iload_n 3, 1) := by decide +kernel
theorem dX6_perform_172 : decode cX6_perform 172 = .ok (.invokevirtual 106, 3) := by decide +kernel
theorem dX6_perform_175 : decode cX6_perform 175 = .ok (.ireturn, 1) := by decide +kernel
theorem dX6_perform_176 : decode cX6_perform 176 = .ok (.aload_n 0, 1) := by decide +kernel
theorem dX6_perform_177 : decode cX6_perform 177 = .ok (.getfield 10, 3) := by decide +kernel
theorem dX6_perform_180 : decode cX6_perform 180 = .ok (.iload_n 3, 1) := by decide +kernel
theorem dX6_perform_181 : decode cX6_perform 181 = .ok (.invokevirtual 110, 3) := by decide +kernel
theorem dX6_perform_184 : decode cX6_perform 184 = .ok (.ireturn, 1) := by decide +kernel
theorem dX6_perform_185 : decode cX6_perform 185 = .ok (.aload_n 0, 1) := by decide +kernel
theorem dX6_perform_186 : decode cX6_perform 186 = .ok (.getfield 10, 3) := by decide +kernel
theorem dX6_perform_189 : decode cX6_perform 189 = .ok (.iload_n 3, 1) := by decide +kernel
theorem dX6_perform_190 : decode cX6_perform 190 = .ok (.invokevirtual 113, 3) := by decide +kernel
theorem dX6_perform_193 : decode cX6_perform 193 = .ok (.ireturn, 1) := by decide +kernel
theorem dX6_isFrame_0 : decode cX6_isFrame 0 = .ok (.iload_n 0, 1) := by decide +kernel
theorem dX6_isFrame_1 : decode cX6_isFrame 1 = .ok (.bipush 97, 2) := by decide +kernel
theorem dX6_isFrame_3 : decode cX6_isFrame 3 = .ok (.if_icmp .lt 13, 3) := by decide +kernel
theorem dX6_isFrame_6 : decode cX6_isFrame 6 = .ok (.iload_n 0, 1) := by decide +kernel
theorem dX6_isFrame_7 : decode cX6_isFrame 7 = .ok (.bipush 102, 2) := by decide +kernel
theorem dX6_isFrame_9 : decode cX6_isFrame 9 = .ok (.if_icmp .gt 7, 3) := by decide +kernel
theorem dX6_isFrame_12 : decode cX6_isFrame 12 = .ok (.iconst 1, 1) := by decide +kernel
theorem dX6_isFrame_13 : decode cX6_isFrame 13 = .ok (.goto 4, 3) := by decide +kernel
theorem dX6_isFrame_16 : decode cX6_isFrame 16 = .ok (.iconst 0, 1) := by decide +kernel
theorem dX6_isFrame_17 : decode cX6_isFrame 17 = .ok (.ireturn, 1) := by decide +kernel
theorem dX6_contains_0 : decode cX6_contains 0 = .ok (.iload_n 0, 1) := by decide +kernel
theorem dX6_contains_1 : decode cX6_contains 1 = .ok (.iload_n 1, 1) := by decide +kernel
theorem dX6_contains_2 : decode cX6_contains 2 = .ok (.ishr, 1) := by decide +kernel
theorem dX6_contains_3 : decode cX6_contains 3 = .ok (.iconst 1, 1) := by decide +kernel
theorem dX6_contains_4 : decode cX6_contains 4 = .ok (.iand, 1) := by decide +kernel
theorem dX6_contains_5 : decode cX6_contains 5 = .ok (.iconst 1, 1) := by decide +kernel
theorem dX6_contains_6 : decode cX6_contains 6 = .ok (.if_icmp .ne 7, 3) := by decide +kernel
theorem dX6_contains_9 : decode cX6_contains 9 = .ok (.iconst 1, 1) := by decide +kernel
theorem dX6_contains_10 : decode cX6_contains 10 = .ok (.goto 4, 3) := by decide +kernel
theorem dX6_contains_13 : decode cX6_contains 13 = .ok (.iconst 0, 1) := by decide +kernel
theorem dX6_contains_14 : decode cX6_contains 14 = .ok (.ireturn, 1) := by decide +kernel
theorem dX6_memberAt_0 : decode cX6_memberAt 0 = .ok (.iconst 0, 1) := by decide +kernel
theorem dX6_memberAt_1 : decode cX6_memberAt 1 = .ok (.istore_n 2, 1) := by decide +kernel
theorem dX6_memberAt_2 : decode cX6_memberAt 2 = .ok (.iconst 0, 1) := by decide +kernel
theorem dX6_memberAt_3 : decode cX6_memberAt 3 = .ok (.istore_n 3, 1) := by decide +kernel
theorem dX6_memberAt_4 : decode cX6_memberAt 4 = .ok (.iload_n 3, 1) := by decide +kernel
theorem dX6_memberAt_5 : decode cX6_memberAt 5 = .ok (.bipush 6, 2) := by decide +kernel
theorem dX6_memberAt_7 : decode cX6_memberAt 7 = .ok (.if_icmp .ge 27, 3) := by decide +kernel
theorem dX6_memberAt_10 : decode cX6_memberAt 10 = .ok (.iload_n 0, 1) := by decide +kernel
theorem dX6_memberAt_11 : decode cX6_memberAt 11 = .ok (.iload_n 3, 1) := by decide +kernel
theorem dX6_memberAt_12 : decode cX6_memberAt 12 = .ok (.invokestatic 149, 3) := by decide +kernel
theorem dX6_memberAt_15 : decode cX6_memberAt 15 = .ok (.ifCond .eq 13, 3) := by decide +kernel
theorem dX6_memberAt_18 : decode cX6_memberAt 18 = .ok (.iload_n 2, 1) := by decide +kernel
theorem dX6_memberAt_19 : decode cX6_memberAt 19 = .ok (.iload_n 1, 1) := by decide +kernel
theorem dX6_memberAt_20 : decode cX6_memberAt 20 = .ok (.if_icmp .ne 5, 3) := by decide +kernel
theorem dX6_memberAt_23 : decode cX6_memberAt 23 = .ok (.iload_n 3, 1) := by decide +kernel
theorem dX6_memberAt_24 : decode cX6_memberAt 24 = .ok (.ireturn, 1) := by decide +kernel
theorem dX6_memberAt_25 : decode cX6_memberAt 25 = .ok (.iinc 2 1, 3) := by decide +kernel
theorem dX6_memberAt_28 : decode cX6_memberAt 28 = .ok (.iinc 3 1, 3) := by decide +kernel
theorem dX6_memberAt_31 : decode cX6_memberAt 31 = .ok (.goto (-27), 3) := by decide +kernel
theorem dX6_memberAt_34 : decode cX6_memberAt 34 = .ok (.iconst (-1), 1) := by decide +kernel
theorem dX6_memberAt_35 : decode cX6_memberAt 35 = .ok (.ireturn, 1) := by decide +kernel
theorem dL_cell_0 : decode cL_cell 0 = .ok (.iload_n 1, 1) := by decide +kernel
theorem dL_cell_1 : decode cL_cell 1 = .ok (.aload_n 0, 1) := by decide +kernel
theorem dL_cell_2 : decode cL_cell 2 = .ok (.arraylength, 1) := by decide +kernel
theorem dL_cell_3 : decode cL_cell 3 = .ok (.if_icmp .ge 9, 3) := by decide +kernel
theorem dL_cell_6 : decode cL_cell 6 = .ok (.aload_n 0, 1) := by decide +kernel
theorem dL_cell_7 : decode cL_cell 7 = .ok (.iload_n 1, 1) := by decide +kernel
theorem dL_cell_8 : decode cL_cell 8 = .ok (.iaload, 1) := by decide +kernel
theorem dL_cell_9 : decode cL_cell 9 = .ok (.goto 7, 3) := by decide +kernel
theorem dL_cell_12 : decode cL_cell 12 = .ok (.ldc 7, 2) := by decide +kernel
theorem dL_cell_14 : decode cL_cell 14 = .ok (.iload_n 1, 1) := by decide +kernel
theorem dL_cell_15 : decode cL_cell 15 = .ok (.imul, 1) := by decide +kernel
theorem dL_cell_16 : decode cL_cell 16 = .ok (.ireturn, 1) := by decide +kernel
theorem dL_addDoor_0 : decode cL_addDoor 0 = .ok (.aload_n 0, 1) := by decide +kernel
theorem dL_addDoor_1 : decode cL_addDoor 1 = .ok (.iload_n 1, 1) := by decide +kernel
theorem dL_addDoor_2 : decode cL_addDoor 2 = .ok (.iload_n 2, 1) := by decide +kernel
theorem dL_addDoor_3 : decode cL_addDoor 3 = .ok (.invokevirtual 8, 3) := by decide +kernel
theorem dL_addDoor_6 : decode cL_addDoor 6 = .ok (.ireturn, 1) := by decide +kernel
theorem dL_addDoor_7 : decode cL_addDoor 7 = .ok (.astore_n 3, 1) := by decide +kernel
theorem dL_addDoor_8 : decode cL_addDoor 8 = .ok (.iconst (-1), 1) := by decide +kernel
theorem dL_addDoor_9 : decode cL_addDoor 9 = .ok (.ireturn, 1) := by decide +kernel
theorem dL_addDoor_10 : decode cL_addDoor 10 = .ok (.astore_n 3, 1) := by decide +kernel
theorem dL_addDoor_11 : decode cL_addDoor 11 = .ok (.bipush (-2), 2) := by decide +kernel
theorem dL_addDoor_13 : decode cL_addDoor 13 = .ok (.ireturn, 1) := by decide +kernel
theorem dL_addExaminer_0 : decode cL_addExaminer 0 = .ok (.aload_n 0, 1) := by decide +kernel
theorem dL_addExaminer_1 : decode cL_addExaminer 1 = .ok (.iload_n 1, 1) := by decide +kernel
theorem dL_addExaminer_2 : decode cL_addExaminer 2 = .ok (.iload_n 2, 1) := by decide +kernel
theorem dL_addExaminer_3 : decode cL_addExaminer 3 = .ok (.iload_n 3, 1) := by decide +kernel
theorem dL_addExaminer_4 : decode cL_addExaminer 4 = .ok (.iload 4, 2) := by decide +kernel
theorem dL_addExaminer_6 : decode cL_addExaminer 6 = .ok (.invokevirtual 18, 3) := by decide +kernel
theorem dL_addExaminer_9 : decode cL_addExaminer 9 = .ok (.ireturn, 1) := by decide +kernel
theorem dL_addExaminer_10 : decode cL_addExaminer 10 = .ok (.astore 5, 2) := by decide +kernel
theorem dL_addExaminer_12 : decode cL_addExaminer 12 = .ok (.iconst (-1), 1) := by decide +kernel
theorem dL_addExaminer_13 : decode cL_addExaminer 13 = .ok (.ireturn, 1) := by decide +kernel
theorem dL_addExaminer_14 : decode cL_addExaminer 14 = .ok (.astore 5, 2) := by decide +kernel
theorem dL_addExaminer_16 : decode cL_addExaminer 16 = .ok (.bipush (-2), 2) := by decide +kernel
theorem dL_addExaminer_18 : decode cL_addExaminer 18 = .ok (.ireturn, 1) := by decide +kernel
theorem dL_conflict_0 : decode cL_conflict 0 = .ok (.aload_n 0, 1) := by decide +kernel
theorem dL_conflict_1 : decode cL_conflict 1 = .ok (.iload_n 1, 1) := by decide +kernel
theorem dL_conflict_2 : decode cL_conflict 2 = .ok (.iload_n 2, 1) := by decide +kernel
theorem dL_conflict_3 : decode cL_conflict 3 = .ok (.invokevirtual 22, 3) := by decide +kernel
theorem dL_conflict_6 : decode cL_conflict 6 = .ok (.ireturn, 1) := by decide +kernel
theorem dL_conflict_7 : decode cL_conflict 7 = .ok (.astore_n 3, 1) := by decide +kernel
theorem dL_conflict_8 : decode cL_conflict 8 = .ok (.iconst (-1), 1) := by decide +kernel
theorem dL_conflict_9 : decode cL_conflict 9 = .ok (.ireturn, 1) := by decide +kernel
theorem dL_conflict_10 : decode cL_conflict 10 = .ok (.astore_n 3, 1) := by decide +kernel
theorem dL_conflict_11 : decode cL_conflict 11 = .ok (.bipush (-2), 2) := by decide +kernel
theorem dL_conflict_13 : decode cL_conflict 13 = .ok (.ireturn, 1) := by decide +kernel
theorem dL_assign_0 : decode cL_assign 0 = .ok (.aload_n 0, 1) := by decide +kernel
theorem dL_assign_1 : decode cL_assign 1 = .ok (.iload_n 1, 1) := by decide +kernel
theorem dL_assign_2 : decode cL_assign 2 = .ok (.iload_n 2, 1) := by decide +kernel
theorem dL_assign_3 : decode cL_assign 3 = .ok (.invokevirtual 28, 3) := by decide +kernel
theorem dL_assign_6 : decode cL_assign 6 = .ok (.ireturn, 1) := by decide +kernel
theorem dL_assign_7 : decode cL_assign 7 = .ok (.astore_n 3, 1) := by decide +kernel
theorem dL_assign_8 : decode cL_assign 8 = .ok (.iconst (-1), 1) := by decide +kernel
theorem dL_assign_9 : decode cL_assign 9 = .ok (.ireturn, 1) := by decide +kernel
theorem dL_assign_10 : decode cL_assign 10 = .ok (.astore_n 3, 1) := by decide +kernel
theorem dL_assign_11 : decode cL_assign 11 = .ok (.bipush (-2), 2) := by decide +kernel
theorem dL_assign_13 : decode cL_assign 13 = .ok (.ireturn, 1) := by decide +kernel
theorem dL_assign_14 : decode cL_assign 14 = .ok (.astore_n 3, 1) := by decide +kernel
theorem dL_assign_15 : decode cL_assign 15 = .ok (.bipush (-3), 2) := by decide +kernel
theorem dL_assign_17 : decode cL_assign 17 = .ok (.ireturn, 1) := by decide +kernel
theorem dL_grade_0 : decode cL_grade 0 = .ok (.aload_n 0, 1) := by decide +kernel
theorem dL_grade_1 : decode cL_grade 1 = .ok (.iload_n 1, 1) := by decide +kernel
theorem dL_grade_2 : decode cL_grade 2 = .ok (.iload_n 2, 1) := by decide +kernel
theorem dL_grade_3 : decode cL_grade 3 = .ok (.iload_n 3, 1) := by decide +kernel
theorem dL_grade_4 : decode cL_grade 4 = .ok (.invokevirtual 33, 3) := by decide +kernel
theorem dL_grade_7 : decode cL_grade 7 = .ok (.ireturn, 1) := by decide +kernel
theorem dL_grade_8 : decode cL_grade 8 = .ok (.astore 4, 2) := by decide +kernel
theorem dL_grade_10 : decode cL_grade 10 = .ok (.iconst (-1), 1) := by decide +kernel
theorem dL_grade_11 : decode cL_grade 11 = .ok (.ireturn, 1) := by decide +kernel
theorem dL_grade_12 : decode cL_grade 12 = .ok (.astore 4, 2) := by decide +kernel
theorem dL_grade_14 : decode cL_grade 14 = .ok (.bipush (-2), 2) := by decide +kernel
theorem dL_grade_16 : decode cL_grade 16 = .ok (.ireturn, 1) := by decide +kernel
theorem dL_grade_17 : decode cL_grade 17 = .ok (.astore 4, 2) := by decide +kernel
theorem dL_grade_19 : decode cL_grade 19 = .ok (.bipush (-3), 2) := by decide +kernel
theorem dL_grade_21 : decode cL_grade 21 = .ok (.ireturn, 1) := by decide +kernel
theorem dL_setThreshold_0 : decode cL_setThreshold 0 = .ok (.aload_n 0, 1) := by decide +kernel
theorem dL_setThreshold_1 : decode cL_setThreshold 1 = .ok (.iload_n 1, 1) := by decide +kernel
theorem dL_setThreshold_2 : decode cL_setThreshold 2 = .ok (.invokevirtual 37, 3) := by decide +kernel
theorem dL_setThreshold_5 : decode cL_setThreshold 5 = .ok (.ireturn, 1) := by decide +kernel
theorem dL_setThreshold_6 : decode cL_setThreshold 6 = .ok (.astore_n 2, 1) := by decide +kernel
theorem dL_setThreshold_7 : decode cL_setThreshold 7 = .ok (.iconst (-1), 1) := by decide +kernel
theorem dL_setThreshold_8 : decode cL_setThreshold 8 = .ok (.ireturn, 1) := by decide +kernel
theorem dL_appeal_0 : decode cL_appeal 0 = .ok (.aload_n 0, 1) := by decide +kernel
theorem dL_appeal_1 : decode cL_appeal 1 = .ok (.iload_n 1, 1) := by decide +kernel
theorem dL_appeal_2 : decode cL_appeal 2 = .ok (.invokevirtual 41, 3) := by decide +kernel
theorem dL_appeal_5 : decode cL_appeal 5 = .ok (.ireturn, 1) := by decide +kernel
theorem dL_appeal_6 : decode cL_appeal 6 = .ok (.astore_n 2, 1) := by decide +kernel
theorem dL_appeal_7 : decode cL_appeal 7 = .ok (.iconst (-1), 1) := by decide +kernel
theorem dL_appeal_8 : decode cL_appeal 8 = .ok (.ireturn, 1) := by decide +kernel
theorem dL_appeal_9 : decode cL_appeal 9 = .ok (.astore_n 2, 1) := by decide +kernel
theorem dL_appeal_10 : decode cL_appeal 10 = .ok (.bipush (-2), 2) := by decide +kernel
theorem dL_appeal_12 : decode cL_appeal 12 = .ok (.ireturn, 1) := by decide +kernel
theorem dL_appeal_13 : decode cL_appeal 13 = .ok (.astore_n 2, 1) := by decide +kernel
theorem dL_appeal_14 : decode cL_appeal 14 = .ok (.bipush (-3), 2) := by decide +kernel
theorem dL_appeal_16 : decode cL_appeal 16 = .ok (.ireturn, 1) := by decide +kernel
theorem dL_award_0 : decode cL_award 0 = .ok (.aload_n 0, 1) := by decide +kernel
theorem dL_award_1 : decode cL_award 1 = .ok (.iload_n 1, 1) := by decide +kernel
theorem dL_award_2 : decode cL_award 2 = .ok (.invokevirtual 44, 3) := by decide +kernel
theorem dL_award_5 : decode cL_award 5 = .ok (.ireturn, 1) := by decide +kernel
theorem dL_award_6 : decode cL_award 6 = .ok (.astore_n 2, 1) := by decide +kernel
theorem dL_award_7 : decode cL_award 7 = .ok (.iconst (-1), 1) := by decide +kernel
theorem dL_award_8 : decode cL_award 8 = .ok (.ireturn, 1) := by decide +kernel
theorem dL_award_9 : decode cL_award 9 = .ok (.astore_n 2, 1) := by decide +kernel
theorem dL_award_10 : decode cL_award 10 = .ok (.bipush (-2), 2) := by decide +kernel
theorem dL_award_12 : decode cL_award 12 = .ok (.ireturn, 1) := by decide +kernel
theorem dL_award_13 : decode cL_award 13 = .ok (.astore_n 2, 1) := by decide +kernel
theorem dL_award_14 : decode cL_award 14 = .ok (.bipush (-3), 2) := by decide +kernel
theorem dL_award_16 : decode cL_award 16 = .ok (.ireturn, 1) := by decide +kernel
theorem dL_revoke_0 : decode cL_revoke 0 = .ok (.aload_n 0, 1) := by decide +kernel
theorem dL_revoke_1 : decode cL_revoke 1 = .ok (.iload_n 1, 1) := by decide +kernel
theorem dL_revoke_2 : decode cL_revoke 2 = .ok (.invokevirtual 47, 3) := by decide +kernel
theorem dL_revoke_5 : decode cL_revoke 5 = .ok (.ireturn, 1) := by decide +kernel
theorem dL_revoke_6 : decode cL_revoke 6 = .ok (.astore_n 2, 1) := by decide +kernel
theorem dL_revoke_7 : decode cL_revoke 7 = .ok (.iconst (-1), 1) := by decide +kernel
theorem dL_revoke_8 : decode cL_revoke 8 = .ok (.ireturn, 1) := by decide +kernel
theorem dL_revoke_9 : decode cL_revoke 9 = .ok (.astore_n 2, 1) := by decide +kernel
theorem dL_revoke_10 : decode cL_revoke 10 = .ok (.bipush (-2), 2) := by decide +kernel
theorem dL_revoke_12 : decode cL_revoke 12 = .ok (.ireturn, 1) := by decide +kernel
theorem dL_frameOfDoor_0 : decode cL_frameOfDoor 0 = .ok (.aload_n 0, 1) := by decide +kernel
theorem dL_frameOfDoor_1 : decode cL_frameOfDoor 1 = .ok (.iload_n 1, 1) := by decide +kernel
theorem dL_frameOfDoor_2 : decode cL_frameOfDoor 2 = .ok (.invokevirtual 52, 3) := by decide +kernel
theorem dL_frameOfDoor_5 : decode cL_frameOfDoor 5 = .ok (.ireturn, 1) := by decide +kernel
theorem dL_frameOfDoor_6 : decode cL_frameOfDoor 6 = .ok (.astore_n 2, 1) := by decide +kernel
theorem dL_frameOfDoor_7 : decode cL_frameOfDoor 7 = .ok (.bipush (-11), 2) := by decide +kernel
theorem dL_frameOfDoor_9 : decode cL_frameOfDoor 9 = .ok (.ireturn, 1) := by decide +kernel
theorem dL_topic_0 : decode cL_topic 0 = .ok (.aload_n 0, 1) := by decide +kernel
theorem dL_topic_1 : decode cL_topic 1 = .ok (.iload_n 1, 1) := by decide +kernel
theorem dL_topic_2 : decode cL_topic 2 = .ok (.invokevirtual 56, 3) := by decide +kernel
theorem dL_topic_5 : decode cL_topic 5 = .ok (.ireturn, 1) := by decide +kernel
theorem dL_topic_6 : decode cL_topic 6 = .ok (.astore_n 2, 1) := by decide +kernel
theorem dL_topic_7 : decode cL_topic 7 = .ok (.bipush (-11), 2) := by decide +kernel
theorem dL_topic_9 : decode cL_topic 9 = .ok (.ireturn, 1) := by decide +kernel
theorem dL_examinersOf_0 : decode cL_examinersOf 0 = .ok (.aload_n 0, 1) := by decide +kernel
theorem dL_examinersOf_1 : decode cL_examinersOf 1 = .ok (.iload_n 1, 1) := by decide +kernel
theorem dL_examinersOf_2 : decode cL_examinersOf 2 = .ok (.invokevirtual 59, 3) := by decide +kernel
theorem dL_examinersOf_5 : decode cL_examinersOf 5 = .ok (.ireturn, 1) := by decide +kernel
theorem dL_examinersOf_6 : decode cL_examinersOf 6 = .ok (.astore_n 2, 1) := by decide +kernel
theorem dL_examinersOf_7 : decode cL_examinersOf 7 = .ok (.bipush (-11), 2) := by decide +kernel
theorem dL_examinersOf_9 : decode cL_examinersOf 9 = .ok (.ireturn, 1) := by decide +kernel
theorem dL_gradesOf_0 : decode cL_gradesOf 0 = .ok (.aload_n 0, 1) := by decide +kernel
theorem dL_gradesOf_1 : decode cL_gradesOf 1 = .ok (.iload_n 1, 1) := by decide +kernel
theorem dL_gradesOf_2 : decode cL_gradesOf 2 = .ok (.invokevirtual 62, 3) := by decide +kernel
theorem dL_gradesOf_5 : decode cL_gradesOf 5 = .ok (.ireturn, 1) := by decide +kernel
theorem dL_gradesOf_6 : decode cL_gradesOf 6 = .ok (.astore_n 2, 1) := by decide +kernel
theorem dL_gradesOf_7 : decode cL_gradesOf 7 = .ok (.bipush (-11), 2) := by decide +kernel
theorem dL_gradesOf_9 : decode cL_gradesOf 9 = .ok (.ireturn, 1) := by decide +kernel
theorem dL_result_0 : decode cL_result 0 = .ok (.aload_n 0, 1) := by decide +kernel
theorem dL_result_1 : decode cL_result 1 = .ok (.iload_n 1, 1) := by decide +kernel
theorem dL_result_2 : decode cL_result 2 = .ok (.invokevirtual 65, 3) := by decide +kernel
theorem dL_result_5 : decode cL_result 5 = .ok (.ireturn, 1) := by decide +kernel
theorem dL_result_6 : decode cL_result 6 = .ok (.astore_n 2, 1) := by decide +kernel
theorem dL_result_7 : decode cL_result 7 = .ok (.bipush (-11), 2) := by decide +kernel
theorem dL_result_9 : decode cL_result 9 = .ok (.ireturn, 1) := by decide +kernel
theorem dL_result_10 : decode cL_result 10 = .ok (.astore_n 2, 1) := by decide +kernel
theorem dL_result_11 : decode cL_result 11 = .ok (.bipush (-13), 2) := by decide +kernel
theorem dL_result_13 : decode cL_result 13 = .ok (.ireturn, 1) := by decide +kernel
theorem dL_passes_0 : decode cL_passes 0 = .ok (.aload_n 0, 1) := by decide +kernel
theorem dL_passes_1 : decode cL_passes 1 = .ok (.iload_n 1, 1) := by decide +kernel
theorem dL_passes_2 : decode cL_passes 2 = .ok (.invokevirtual 68, 3) := by decide +kernel
theorem dL_passes_5 : decode cL_passes 5 = .ok (.ifCond .eq 7, 3) := by decide +kernel
theorem dL_passes_8 : decode cL_passes 8 = .ok (.iconst 1, 1) := by decide +kernel
theorem dL_passes_9 : decode cL_passes 9 = .ok (.goto 4, 3) := by decide +kernel
theorem dL_passes_12 : decode cL_passes 12 = .ok (.iconst 0, 1) := by decide +kernel
theorem dL_passes_13 : decode cL_passes 13 = .ok (.ireturn, 1) := by decide +kernel
theorem dL_passes_14 : decode cL_passes 14 = .ok (.astore_n 2, 1) := by decide +kernel
theorem dL_passes_15 : decode cL_passes 15 = .ok (.bipush (-11), 2) := by decide +kernel
theorem dL_passes_17 : decode cL_passes 17 = .ok (.ireturn, 1) := by decide +kernel
theorem dL_wasGranted_0 : decode cL_wasGranted 0 = .ok (.aload_n 0, 1) := by decide +kernel
theorem dL_wasGranted_1 : decode cL_wasGranted 1 = .ok (.iload_n 1, 1) := by decide +kernel
theorem dL_wasGranted_2 : decode cL_wasGranted 2 = .ok (.invokevirtual 72, 3) := by decide +kernel
theorem dL_wasGranted_5 : decode cL_wasGranted 5 = .ok (.ifCond .eq 7, 3) := by decide +kernel
theorem dL_wasGranted_8 : decode cL_wasGranted 8 = .ok (.iconst 1, 1) := by decide +kernel
theorem dL_wasGranted_9 : decode cL_wasGranted 9 = .ok (.goto 4, 3) := by decide +kernel
theorem dL_wasGranted_12 : decode cL_wasGranted 12 = .ok (.iconst 0, 1) := by decide +kernel
theorem dL_wasGranted_13 : decode cL_wasGranted 13 = .ok (.ireturn, 1) := by decide +kernel
theorem dL_wasGranted_14 : decode cL_wasGranted 14 = .ok (.astore_n 2, 1) := by decide +kernel
theorem dL_wasGranted_15 : decode cL_wasGranted 15 = .ok (.bipush (-11), 2) := by decide +kernel
theorem dL_wasGranted_17 : decode cL_wasGranted 17 = .ok (.ireturn, 1) := by decide +kernel
theorem dL_isEntitled_0 : decode cL_isEntitled 0 = .ok (.aload_n 0, 1) := by decide +kernel
theorem dL_isEntitled_1 : decode cL_isEntitled 1 = .ok (.iload_n 1, 1) := by decide +kernel
theorem dL_isEntitled_2 : decode cL_isEntitled 2 = .ok (.invokevirtual 75, 3) := by decide +kernel
theorem dL_isEntitled_5 : decode cL_isEntitled 5 = .ok (.ifCond .eq 7, 3) := by decide +kernel
theorem dL_isEntitled_8 : decode cL_isEntitled 8 = .ok (.iconst 1, 1) := by decide +kernel
theorem dL_isEntitled_9 : decode cL_isEntitled 9 = .ok (.goto 4, 3) := by decide +kernel
theorem dL_isEntitled_12 : decode cL_isEntitled 12 = .ok (.iconst 0, 1) := by decide +kernel
theorem dL_isEntitled_13 : decode cL_isEntitled 13 = .ok (.ireturn, 1) := by decide +kernel
theorem dL_isEntitled_14 : decode cL_isEntitled 14 = .ok (.astore_n 2, 1) := by decide +kernel
theorem dL_isEntitled_15 : decode cL_isEntitled 15 = .ok (.bipush (-11), 2) := by decide +kernel
theorem dL_isEntitled_17 : decode cL_isEntitled 17 = .ok (.ireturn, 1) := by decide +kernel
theorem dL_doorAtRank_0 : decode cL_doorAtRank 0 = .ok (.aload_n 0, 1) := by decide +kernel
theorem dL_doorAtRank_1 : decode cL_doorAtRank 1 = .ok (.iload_n 1, 1) := by decide +kernel
theorem dL_doorAtRank_2 : decode cL_doorAtRank 2 = .ok (.invokevirtual 78, 3) := by decide +kernel
theorem dL_doorAtRank_5 : decode cL_doorAtRank 5 = .ok (.ireturn, 1) := by decide +kernel
theorem dL_doorAtRank_6 : decode cL_doorAtRank 6 = .ok (.astore_n 2, 1) := by decide +kernel
theorem dL_doorAtRank_7 : decode cL_doorAtRank 7 = .ok (.bipush (-13), 2) := by decide +kernel
theorem dL_doorAtRank_9 : decode cL_doorAtRank 9 = .ok (.ireturn, 1) := by decide +kernel
theorem dL_frameOfExaminer_0 : decode cL_frameOfExaminer 0 = .ok (.aload_n 0, 1) := by decide +kernel
theorem dL_frameOfExaminer_1 : decode cL_frameOfExaminer 1 = .ok (.iload_n 1, 1) := by decide +kernel
theorem dL_frameOfExaminer_2 : decode cL_frameOfExaminer 2 = .ok (.invokevirtual 81, 3) := by decide +kernel
theorem dL_frameOfExaminer_5 : decode cL_frameOfExaminer 5 = .ok (.ireturn, 1) := by decide +kernel
theorem dL_frameOfExaminer_6 : decode cL_frameOfExaminer 6 = .ok (.astore_n 2, 1) := by decide +kernel
theorem dL_frameOfExaminer_7 : decode cL_frameOfExaminer 7 = .ok (.bipush (-11), 2) := by decide +kernel
theorem dL_frameOfExaminer_9 : decode cL_frameOfExaminer 9 = .ok (.ireturn, 1) := by decide +kernel
theorem dL_load_0 : decode cL_load 0 = .ok (.aload_n 0, 1) := by decide +kernel
theorem dL_load_1 : decode cL_load 1 = .ok (.iload_n 1, 1) := by decide +kernel
theorem dL_load_2 : decode cL_load 2 = .ok (.invokevirtual 84, 3) := by decide +kernel
theorem dL_load_5 : decode cL_load 5 = .ok (.ireturn, 1) := by decide +kernel
theorem dL_load_6 : decode cL_load 6 = .ok (.astore_n 2, 1) := by decide +kernel
theorem dL_load_7 : decode cL_load 7 = .ok (.bipush (-11), 2) := by decide +kernel
theorem dL_load_9 : decode cL_load 9 = .ok (.ireturn, 1) := by decide +kernel
theorem dL_isNeutral_0 : decode cL_isNeutral 0 = .ok (.aload_n 0, 1) := by decide +kernel
theorem dL_isNeutral_1 : decode cL_isNeutral 1 = .ok (.iload_n 1, 1) := by decide +kernel
theorem dL_isNeutral_2 : decode cL_isNeutral 2 = .ok (.iload_n 2, 1) := by decide +kernel
theorem dL_isNeutral_3 : decode cL_isNeutral 3 = .ok (.invokevirtual 87, 3) := by decide +kernel
theorem dL_isNeutral_6 : decode cL_isNeutral 6 = .ok (.ifCond .eq 7, 3) := by decide +kernel
theorem dL_isNeutral_9 : decode cL_isNeutral 9 = .ok (.iconst 1, 1) := by decide +kernel
theorem dL_isNeutral_10 : decode cL_isNeutral 10 = .ok (.goto 4, 3) := by decide +kernel
theorem dL_isNeutral_13 : decode cL_isNeutral 13 = .ok (.iconst 0, 1) := by decide +kernel
theorem dL_isNeutral_14 : decode cL_isNeutral 14 = .ok (.ireturn, 1) := by decide +kernel
theorem dL_isNeutral_15 : decode cL_isNeutral 15 = .ok (.astore_n 3, 1) := by decide +kernel
theorem dL_isNeutral_16 : decode cL_isNeutral 16 = .ok (.bipush (-11), 2) := by decide +kernel
theorem dL_isNeutral_18 : decode cL_isNeutral 18 = .ok (.ireturn, 1) := by decide +kernel
theorem dL_mayJudge_0 : decode cL_mayJudge 0 = .ok (.aload_n 0, 1) := by decide +kernel
theorem dL_mayJudge_1 : decode cL_mayJudge 1 = .ok (.iload_n 1, 1) := by decide +kernel
theorem dL_mayJudge_2 : decode cL_mayJudge 2 = .ok (.iload_n 2, 1) := by decide +kernel
theorem dL_mayJudge_3 : decode cL_mayJudge 3 = .ok (.invokevirtual 91, 3) := by decide +kernel
theorem dL_mayJudge_6 : decode cL_mayJudge 6 = .ok (.ifCond .eq 7, 3) := by decide +kernel
theorem dL_mayJudge_9 : decode cL_mayJudge 9 = .ok (.iconst 1, 1) := by decide +kernel
theorem dL_mayJudge_10 : decode cL_mayJudge 10 = .ok (.goto 4, 3) := by decide +kernel
theorem dL_mayJudge_13 : decode cL_mayJudge 13 = .ok (.iconst 0, 1) := by decide +kernel
theorem dL_mayJudge_14 : decode cL_mayJudge 14 = .ok (.ireturn, 1) := by decide +kernel
theorem dL_mayJudge_15 : decode cL_mayJudge 15 = .ok (.astore_n 3, 1) := by decide +kernel
theorem dL_mayJudge_16 : decode cL_mayJudge 16 = .ok (.bipush (-11), 2) := by decide +kernel
theorem dL_mayJudge_18 : decode cL_mayJudge 18 = .ok (.ireturn, 1) := by decide +kernel
theorem dL_isAssigned_0 : decode cL_isAssigned 0 = .ok (.aload_n 0, 1) := by decide +kernel
theorem dL_isAssigned_1 : decode cL_isAssigned 1 = .ok (.iload_n 1, 1) := by decide +kernel
theorem dL_isAssigned_2 : decode cL_isAssigned 2 = .ok (.iload_n 2, 1) := by decide +kernel
theorem dL_isAssigned_3 : decode cL_isAssigned 3 = .ok (.invokevirtual 94, 3) := by decide +kernel
theorem dL_isAssigned_6 : decode cL_isAssigned 6 = .ok (.ifCond .eq 7, 3) := by decide +kernel
theorem dL_isAssigned_9 : decode cL_isAssigned 9 = .ok (.iconst 1, 1) := by decide +kernel
theorem dL_isAssigned_10 : decode cL_isAssigned 10 = .ok (.goto 4, 3) := by decide +kernel
theorem dL_isAssigned_13 : decode cL_isAssigned 13 = .ok (.iconst 0, 1) := by decide +kernel
theorem dL_isAssigned_14 : decode cL_isAssigned 14 = .ok (.ireturn, 1) := by decide +kernel
theorem dL_isAssigned_15 : decode cL_isAssigned 15 = .ok (.astore_n 3, 1) := by decide +kernel
theorem dL_isAssigned_16 : decode cL_isAssigned 16 = .ok (.bipush (-11), 2) := by decide +kernel
theorem dL_isAssigned_18 : decode cL_isAssigned 18 = .ok (.ireturn, 1) := by decide +kernel
theorem dL_gradeBy_0 : decode cL_gradeBy 0 = .ok (.aload_n 0, 1) := by decide +kernel
theorem dL_gradeBy_1 : decode cL_gradeBy 1 = .ok (.iload_n 1, 1) := by decide +kernel
theorem dL_gradeBy_2 : decode cL_gradeBy 2 = .ok (.iload_n 2, 1) := by decide +kernel
theorem dL_gradeBy_3 : decode cL_gradeBy 3 = .ok (.invokevirtual 97, 3) := by decide +kernel
theorem dL_gradeBy_6 : decode cL_gradeBy 6 = .ok (.ireturn, 1) := by decide +kernel
theorem dL_gradeBy_7 : decode cL_gradeBy 7 = .ok (.astore_n 3, 1) := by decide +kernel
theorem dL_gradeBy_8 : decode cL_gradeBy 8 = .ok (.bipush (-11), 2) := by decide +kernel
theorem dL_gradeBy_10 : decode cL_gradeBy 10 = .ok (.ireturn, 1) := by decide +kernel
theorem dL_gradeBy_11 : decode cL_gradeBy 11 = .ok (.astore_n 3, 1) := by decide +kernel
theorem dL_gradeBy_12 : decode cL_gradeBy 12 = .ok (.bipush (-13), 2) := by decide +kernel
theorem dL_gradeBy_14 : decode cL_gradeBy 14 = .ok (.ireturn, 1) := by decide +kernel
theorem dL_planned_0 : decode cL_planned 0 = .ok (.aload_n 0, 1) := by decide +kernel
theorem dL_planned_1 : decode cL_planned 1 = .ok (.iload_n 1, 1) := by decide +kernel
theorem dL_planned_2 : decode cL_planned 2 = .ok (.invokevirtual 100, 3) := by decide +kernel
theorem dL_planned_5 : decode cL_planned 5 = .ok (.ireturn, 1) := by decide +kernel
theorem dL_planned_6 : decode cL_planned 6 = .ok (.astore_n 2, 1) := by decide +kernel
theorem dL_planned_7 : decode cL_planned 7 = .ok (.bipush (-11), 2) := by decide +kernel
theorem dL_planned_9 : decode cL_planned 9 = .ok (.ireturn, 1) := by decide +kernel
theorem dL_planned_10 : decode cL_planned 10 = .ok (.astore_n 2, 1) := by decide +kernel
theorem dL_planned_11 : decode cL_planned 11 = .ok (.bipush (-13), 2) := by decide +kernel
theorem dL_planned_13 : decode cL_planned 13 = .ok (.ireturn, 1) := by decide +kernel
theorem dL_panels_0 : decode cL_panels 0 = .ok (.aload_n 0, 1) := by decide +kernel
theorem dL_panels_1 : decode cL_panels 1 = .ok (.iload_n 1, 1) := by decide +kernel
theorem dL_panels_2 : decode cL_panels 2 = .ok (.invokevirtual 103, 3) := by decide +kernel
theorem dL_panels_5 : decode cL_panels 5 = .ok (.ireturn, 1) := by decide +kernel
theorem dL_panels_6 : decode cL_panels 6 = .ok (.astore_n 2, 1) := by decide +kernel
theorem dL_panels_7 : decode cL_panels 7 = .ok (.bipush (-11), 2) := by decide +kernel
theorem dL_panels_9 : decode cL_panels 9 = .ok (.ireturn, 1) := by decide +kernel
theorem dL_byFrames_0 : decode cL_byFrames 0 = .ok (.aload_n 0, 1) := by decide +kernel
theorem dL_byFrames_1 : decode cL_byFrames 1 = .ok (.iload_n 1, 1) := by decide +kernel
theorem dL_byFrames_2 : decode cL_byFrames 2 = .ok (.invokevirtual 106, 3) := by decide +kernel
theorem dL_byFrames_5 : decode cL_byFrames 5 = .ok (.ireturn, 1) := by decide +kernel
theorem dL_byFrames_6 : decode cL_byFrames 6 = .ok (.astore_n 2, 1) := by decide +kernel
theorem dL_byFrames_7 : decode cL_byFrames 7 = .ok (.bipush (-11), 2) := by decide +kernel
theorem dL_byFrames_9 : decode cL_byFrames 9 = .ok (.ireturn, 1) := by decide +kernel
theorem dL_member_0 : decode cL_member 0 = .ok (.aload_n 0, 1) := by decide +kernel
theorem dL_member_1 : decode cL_member 1 = .ok (.iload_n 1, 1) := by decide +kernel
theorem dL_member_2 : decode cL_member 2 = .ok (.iload_n 2, 1) := by decide +kernel
theorem dL_member_3 : decode cL_member 3 = .ok (.invokevirtual 109, 3) := by decide +kernel
theorem dL_member_6 : decode cL_member 6 = .ok (.ireturn, 1) := by decide +kernel
theorem dL_member_7 : decode cL_member 7 = .ok (.astore_n 3, 1) := by decide +kernel
theorem dL_member_8 : decode cL_member 8 = .ok (.bipush (-11), 2) := by decide +kernel
theorem dL_member_10 : decode cL_member 10 = .ok (.ireturn, 1) := by decide +kernel
theorem dL_member_11 : decode cL_member 11 = .ok (.astore_n 3, 1) := by decide +kernel
theorem dL_member_12 : decode cL_member 12 = .ok (.bipush (-12), 2) := by decide +kernel
theorem dL_member_14 : decode cL_member 14 = .ok (.ireturn, 1) := by decide +kernel
theorem dL_member_15 : decode cL_member 15 = .ok (.astore_n 3, 1) := by decide +kernel
theorem dL_member_16 : decode cL_member 16 = .ok (.bipush (-13), 2) := by decide +kernel
theorem dL_member_18 : decode cL_member 18 = .ok (.ireturn, 1) := by decide +kernel
theorem dL_doorOf_0 : decode cL_doorOf 0 = .ok (.aload_n 0, 1) := by decide +kernel
theorem dL_doorOf_1 : decode cL_doorOf 1 = .ok (.iload_n 1, 1) := by decide +kernel
theorem dL_doorOf_2 : decode cL_doorOf 2 = .ok (.invokevirtual 112, 3) := by decide +kernel
theorem dL_doorOf_5 : decode cL_doorOf 5 = .ok (.ireturn, 1) := by decide +kernel
theorem dL_doorOf_6 : decode cL_doorOf 6 = .ok (.astore_n 2, 1) := by decide +kernel
theorem dL_doorOf_7 : decode cL_doorOf 7 = .ok (.bipush (-13), 2) := by decide +kernel
theorem dL_doorOf_9 : decode cL_doorOf 9 = .ok (.ireturn, 1) := by decide +kernel
theorem dL_isRevoked_0 : decode cL_isRevoked 0 = .ok (.aload_n 0, 1) := by decide +kernel
theorem dL_isRevoked_1 : decode cL_isRevoked 1 = .ok (.iload_n 1, 1) := by decide +kernel
theorem dL_isRevoked_2 : decode cL_isRevoked 2 = .ok (.invokevirtual 115, 3) := by decide +kernel
theorem dL_isRevoked_5 : decode cL_isRevoked 5 = .ok (.ifCond .eq 7, 3) := by decide +kernel
theorem dL_isRevoked_8 : decode cL_isRevoked 8 = .ok (.iconst 1, 1) := by decide +kernel
theorem dL_isRevoked_9 : decode cL_isRevoked 9 = .ok (.goto 4, 3) := by decide +kernel
theorem dL_isRevoked_12 : decode cL_isRevoked 12 = .ok (.iconst 0, 1) := by decide +kernel
theorem dL_isRevoked_13 : decode cL_isRevoked 13 = .ok (.ireturn, 1) := by decide +kernel
theorem dL_isRevoked_14 : decode cL_isRevoked 14 = .ok (.astore_n 2, 1) := by decide +kernel
theorem dL_isRevoked_15 : decode cL_isRevoked 15 = .ok (.bipush (-13), 2) := by decide +kernel
theorem dL_isRevoked_17 : decode cL_isRevoked 17 = .ok (.ireturn, 1) := by decide +kernel
theorem dL_append_0 : decode cL_append 0 = .ok (.aload_n 0, 1) := by decide +kernel
theorem dL_append_1 : decode cL_append 1 = .ok (.iload_n 1, 1) := by decide +kernel
theorem dL_append_2 : decode cL_append 2 = .ok (.invokevirtual 118, 3) := by decide +kernel
theorem dL_append_5 : decode cL_append 5 = .ok (.ireturn, 1) := by decide +kernel
theorem dL_append_6 : decode cL_append 6 = .ok (.astore_n 2, 1) := by decide +kernel
theorem dL_append_7 : decode cL_append 7 = .ok (.bipush (-14), 2) := by decide +kernel
theorem dL_append_9 : decode cL_append 9 = .ok (.ireturn, 1) := by decide +kernel
theorem dL_runs_0 : decode cL_runs 0 = .ok (.aload_n 0, 1) := by decide +kernel
theorem dL_runs_1 : decode cL_runs 1 = .ok (.invokevirtual 122, 3) := by decide +kernel
theorem dL_runs_4 : decode cL_runs 4 = .ok (.ireturn, 1) := by decide +kernel
theorem dL_runs_5 : decode cL_runs 5 = .ok (.astore_n 1, 1) := by decide +kernel
theorem dL_runs_6 : decode cL_runs 6 = .ok (.iconst (-1), 1) := by decide +kernel
theorem dL_runs_7 : decode cL_runs 7 = .ok (.ireturn, 1) := by decide +kernel
theorem dL_runs_8 : decode cL_runs 8 = .ok (.astore_n 1, 1) := by decide +kernel
theorem dL_runs_9 : decode cL_runs 9 = .ok (.bipush (-2), 2) := by decide +kernel
theorem dL_runs_11 : decode cL_runs 11 = .ok (.ireturn, 1) := by decide +kernel
theorem dL_writeDoor_0 : decode cL_writeDoor 0 = .ok (.aload_n 0, 1) := by decide +kernel
theorem dL_writeDoor_1 : decode cL_writeDoor 1 = .ok (.iload_n 1, 1) := by decide +kernel
theorem dL_writeDoor_2 : decode cL_writeDoor 2 = .ok (.invokevirtual 132, 3) := by decide +kernel
theorem dL_writeDoor_5 : decode cL_writeDoor 5 = .ok (.ireturn, 1) := by decide +kernel
theorem dL_writeDoor_6 : decode cL_writeDoor 6 = .ok (.astore_n 2, 1) := by decide +kernel
theorem dL_writeDoor_7 : decode cL_writeDoor 7 = .ok (.bipush (-11), 2) := by decide +kernel
theorem dL_writeDoor_9 : decode cL_writeDoor 9 = .ok (.ireturn, 1) := by decide +kernel
theorem dL_writeExaminer_0 : decode cL_writeExaminer 0 = .ok (.aload_n 0, 1) := by decide +kernel
theorem dL_writeExaminer_1 : decode cL_writeExaminer 1 = .ok (.iload_n 1, 1) := by decide +kernel
theorem dL_writeExaminer_2 : decode cL_writeExaminer 2 = .ok (.invokevirtual 135, 3) := by decide +kernel
theorem dL_writeExaminer_5 : decode cL_writeExaminer 5 = .ok (.ireturn, 1) := by decide +kernel
theorem dL_writeExaminer_6 : decode cL_writeExaminer 6 = .ok (.astore_n 2, 1) := by decide +kernel
theorem dL_writeExaminer_7 : decode cL_writeExaminer 7 = .ok (.bipush (-11), 2) := by decide +kernel
theorem dL_writeExaminer_9 : decode cL_writeExaminer 9 = .ok (.ireturn, 1) := by decide +kernel
theorem dL_outputAt_0 : decode cL_outputAt 0 = .ok (.aload_n 0, 1) := by decide +kernel
theorem dL_outputAt_1 : decode cL_outputAt 1 = .ok (.iload_n 1, 1) := by decide +kernel
theorem dL_outputAt_2 : decode cL_outputAt 2 = .ok (.invokevirtual 138, 3) := by decide +kernel
theorem dL_outputAt_5 : decode cL_outputAt 5 = .ok (.ireturn, 1) := by decide +kernel
theorem dL_outputAt_6 : decode cL_outputAt 6 = .ok (.astore_n 2, 1) := by decide +kernel
theorem dL_outputAt_7 : decode cL_outputAt 7 = .ok (.bipush (-11), 2) := by decide +kernel
theorem dL_outputAt_9 : decode cL_outputAt 9 = .ok (.ireturn, 1) := by decide +kernel
theorem dL_undo_0 : decode cL_undo 0 = .ok (.aload_n 0, 1) := by decide +kernel
theorem dL_undo_1 : decode cL_undo 1 = .ok (.invokevirtual 141, 3) := by decide +kernel
theorem dL_undo_4 : decode cL_undo 4 = .ok (.ireturn, 1) := by decide +kernel
theorem dL_undo_5 : decode cL_undo 5 = .ok (.astore_n 1, 1) := by decide +kernel
theorem dL_undo_6 : decode cL_undo 6 = .ok (.iconst (-1), 1) := by decide +kernel
theorem dL_undo_7 : decode cL_undo 7 = .ok (.ireturn, 1) := by decide +kernel
theorem dL_run_0 : decode cL_run 0 = .ok (.iconst 0, 1) := by decide +kernel
theorem dL_run_1 : decode cL_run 1 = .ok (.istore_n 2, 1) := by decide +kernel
theorem dL_run_2 : decode cL_run 2 = .ok (.iload_n 2, 1) := by decide +kernel
theorem dL_run_3 : decode cL_run 3 = .ok (.aload_n 1, 1) := by decide +kernel
theorem dL_run_4 : decode cL_run 4 = .ok (.invokevirtual 144, 3) := by decide +kernel
theorem dL_run_7 : decode cL_run 7 = .ok (.if_icmp .ge 27, 3) := by decide +kernel
theorem dL_run_10 : decode cL_run 10 = .ok (.aload_n 0, 1) := by decide +kernel
theorem dL_run_11 : decode cL_run 11 = .ok (.aload_n 1, 1) := by decide +kernel
theorem dL_run_12 : decode cL_run 12 = .ok (.iload_n 2, 1) := by decide +kernel
theorem dL_run_13 : decode cL_run 13 = .ok (.invokevirtual 149, 3) := by decide +kernel
theorem dL_run_16 : decode cL_run 16 = .ok (.invokestatic 152, 3) := by decide +kernel
theorem dL_run_19 : decode cL_run 19 = .ok (.iload_n 2, 1) := by decide +kernel
theorem dL_run_20 : decode cL_run 20 = .ok (.iconst 1, 1) := by decide +kernel
theorem dL_run_21 : decode cL_run 21 = .ok (.iadd, 1) := by decide +kernel
theorem dL_run_22 : decode cL_run 22 = .ok (.if_icmp .eq 6, 3) := by decide +kernel
theorem dL_run_25 : decode cL_run 25 = .ok (.bipush (-9), 2) := by decide +kernel
theorem dL_run_27 : decode cL_run 27 = .ok (.ireturn, 1) := by decide +kernel
theorem dL_run_28 : decode cL_run 28 = .ok (.iinc 2 1, 3) := by decide +kernel
theorem dL_run_31 : decode cL_run 31 = .ok (.goto (-29), 3) := by decide +kernel
theorem dL_run_34 : decode cL_run 34 = .ok (.aload_n 0, 1) := by decide +kernel
theorem dL_run_35 : decode cL_run 35 = .ok (.invokestatic 157, 3) := by decide +kernel
theorem dL_run_38 : decode cL_run 38 = .ok (.ireturn, 1) := by decide +kernel
theorem dL_drawn_0 : decode cL_drawn 0 = .ok (.new 9, 3) := by decide +kernel
theorem dL_drawn_3 : decode cL_drawn 3 = .ok (.dup, 1) := by decide +kernel
theorem dL_drawn_4 : decode cL_drawn 4 = .ok (.invokespecial 161, 3) := by decide +kernel
theorem dL_drawn_7 : decode cL_drawn 7 = .ok (.astore_n 1, 1) := by decide +kernel
theorem dL_drawn_8 : decode cL_drawn 8 = .ok (.aload_n 0, 1) := by decide +kernel
theorem dL_drawn_9 : decode cL_drawn 9 = .ok (.iconst 0, 1) := by decide +kernel
theorem dL_drawn_10 : decode cL_drawn 10 = .ok (.invokestatic 162, 3) := by decide +kernel
theorem dL_drawn_13 : decode cL_drawn 13 = .ok (.iconst 1, 1) := by decide +kernel
theorem dL_drawn_14 : decode cL_drawn 14 = .ok (.iushr, 1) := by decide +kernel
theorem dL_drawn_15 : decode cL_drawn 15 = .ok (.istore_n 2, 1) := by decide +kernel
theorem dL_drawn_16 : decode cL_drawn 16 = .ok (.iconst 1, 1) := by decide +kernel
theorem dL_drawn_17 : decode cL_drawn 17 = .ok (.iload_n 2, 1) := by decide +kernel
theorem dL_drawn_18 : decode cL_drawn 18 = .ok (.bipush 8, 2) := by decide +kernel
theorem dL_drawn_20 : decode cL_drawn 20 = .ok (.irem, 1) := by decide +kernel
theorem dL_drawn_21 : decode cL_drawn 21 = .ok (.iadd, 1) := by decide +kernel
theorem dL_drawn_22 : decode cL_drawn 22 = .ok (.istore_n 3, 1) := by decide +kernel
theorem dL_drawn_23 : decode cL_drawn 23 = .ok (.iconst 1, 1) := by decide +kernel
theorem dL_drawn_24 : decode cL_drawn 24 = .ok (.iload_n 2, 1) := by decide +kernel
theorem dL_drawn_25 : decode cL_drawn 25 = .ok (.iconst 3, 1) := by decide +kernel
theorem dL_drawn_26 : decode cL_drawn 26 = .ok (.iushr, 1) := by decide +kernel
theorem dL_drawn_27 : decode cL_drawn 27 = .ok (.bipush 6, 2) := by decide +kernel
theorem dL_drawn_29 : decode cL_drawn 29 = .ok (.irem, 1) := by decide +kernel
theorem dL_drawn_30 : decode cL_drawn 30 = .ok (.iadd, 1) := by decide +kernel
theorem dL_drawn_31 : decode cL_drawn 31 = .ok (.istore 4, 2) := by decide +kernel
theorem dL_drawn_33 : decode cL_drawn 33 = .ok (.iconst 0, 1) := by decide +kernel
theorem dL_drawn_34 : decode cL_drawn 34 = .ok (.istore 5, 2) := by decide +kernel
theorem dL_drawn_36 : decode cL_drawn 36 = .ok (.iload 5, 2) := by decide +kernel
theorem dL_drawn_38 : decode cL_drawn 38 = .ok (.iload_n 3, 1) := by decide +kernel
theorem dL_drawn_39 : decode cL_drawn 39 = .ok (.if_icmp .ge 58, 3) := by decide +kernel
theorem dL_drawn_42 : decode cL_drawn 42 = .ok (.aload_n 0, 1) := by decide +kernel
theorem dL_drawn_43 : decode cL_drawn 43 = .ok (.iconst 1, 1) := by decide +kernel
theorem dL_drawn_44 : decode cL_drawn 44 = .ok (.iload 5, 2) := by decide +kernel
theorem dL_drawn_46 : decode cL_drawn 46 = .ok (.iadd, 1) := by decide +kernel
theorem dL_drawn_47 : decode cL_drawn 47 = .ok (.invokestatic 162, 3) := by decide +kernel
theorem dL_drawn_50 : decode cL_drawn 50 = .ok (.iconst 1, 1) := by decide +kernel
theorem dL_drawn_51 : decode cL_drawn 51 = .ok (.iushr, 1) := by decide +kernel
theorem dL_drawn_52 : decode cL_drawn 52 = .ok (.istore 6, 2) := by decide +kernel
theorem dL_drawn_54 : decode cL_drawn 54 = .ok (.aload_n 1, 1) := by decide +kernel
theorem dL_drawn_55 : decode cL_drawn 55 = .ok (.bipush 97, 2) := by decide +kernel
theorem dL_drawn_57 : decode cL_drawn 57 = .ok (.iload 6, 2) := by decide +kernel
theorem dL_drawn_59 : decode cL_drawn 59 = .ok (.bipush 6, 2) := by decide +kernel
theorem dL_drawn_61 : decode cL_drawn 61 = .ok (.irem, 1) := by decide +kernel
theorem dL_drawn_62 : decode cL_drawn 62 = .ok (.iadd, 1) := by decide +kernel
theorem dL_drawn_63 : decode cL_drawn 63 = .ok (.i2c, 1) := by decide +kernel
theorem dL_drawn_64 : decode cL_drawn 64 = .ok (.iload 6, 2) := by decide +kernel
theorem dL_drawn_66 : decode cL_drawn 66 = .ok (.iconst 3, 1) := by decide +kernel
theorem dL_drawn_67 : decode cL_drawn 67 = .ok (.iushr, 1) := by decide +kernel
theorem dL_drawn_68 : decode cL_drawn 68 = .ok (.iload_n 2, 1) := by decide +kernel
theorem dL_drawn_69 : decode cL_drawn 69 = .ok (.iconst 3, 1) := by decide +kernel
theorem dL_drawn_70 : decode cL_drawn 70 = .ok (.irem, 1) := by decide +kernel
theorem dL_drawn_71 : decode cL_drawn 71 = .ok (.ifCond .ne 8, 3) := by decide +kernel
theorem dL_drawn_74 : decode cL_drawn 74 = .ok (.bipush 6, 2) := by decide +kernel
theorem dL_drawn_76 : decode cL_drawn 76 = .ok (.goto 4, 3) := by decide +kernel
theorem dL_drawn_79 : decode cL_drawn 79 = .ok (.iconst 2, 1) := by decide +kernel
theorem dL_drawn_80 : decode cL_drawn 80 = .ok (.irem, 1) := by decide +kernel
theorem dL_drawn_81 : decode cL_drawn 81 = .ok (.invokestatic 166, 3) := by decide +kernel
theorem dL_drawn_84 : decode cL_drawn 84 = .ok (.iload 5, 2) := by decide +kernel
theorem dL_drawn_86 : decode cL_drawn 86 = .ok (.if_icmp .eq 5, 3) := by decide +kernel
theorem dL_drawn_89 : decode cL_drawn 89 = .ok (.aconst_null, 1) := by decide +kernel
theorem dL_drawn_90 : decode cL_drawn 90 = .ok (.areturn, 1) := by decide +kernel
theorem dL_drawn_91 : decode cL_drawn 91 = .ok (.iinc 5 1, 3) := by decide +kernel
theorem dL_drawn_94 : decode cL_drawn 94 = .ok (.goto (-58), 3) := by decide +kernel
theorem dL_drawn_97 : decode cL_drawn 97 = .ok (.iconst 0, 1) := by decide +kernel
theorem dL_drawn_98 : decode cL_drawn 98 = .ok (.istore 5, 2) := by decide +kernel
theorem dL_drawn_100 : decode cL_drawn 100 = .ok (.iload 5, 2) := by decide +kernel
theorem dL_drawn_102 : decode cL_drawn 102 = .ok (.iload 4, 2) := by decide +kernel
theorem dL_drawn_104 : decode cL_drawn 104 = .ok (.if_icmp .ge 78, 3) := by decide +kernel
theorem dL_drawn_107 : decode cL_drawn 107 = .ok (.aload_n 0, 1) := by decide +kernel
theorem dL_drawn_108 : decode cL_drawn 108 = .ok (.bipush 9, 2) := by decide +kernel
theorem dL_drawn_110 : decode cL_drawn 110 = .ok (.iload 5, 2) := by decide +kernel
theorem dL_drawn_112 : decode cL_drawn 112 = .ok (.iadd, 1) := by decide +kernel
theorem dL_drawn_113 : decode cL_drawn 113 = .ok (.invokestatic 162, 3) := by decide +kernel
theorem dL_drawn_116 : decode cL_drawn 116 = .ok (.iconst 1, 1) := by decide +kernel
theorem dL_drawn_117 : decode cL_drawn 117 = .ok (.iushr, 1) := by decide +kernel
theorem dL_drawn_118 : decode cL_drawn 118 = .ok (.istore 6, 2) := by decide +kernel
theorem dL_drawn_120 : decode cL_drawn 120 = .ok (.aload_n 1, 1) := by decide +kernel
theorem dL_drawn_121 : decode cL_drawn 121 = .ok (.bipush 97, 2) := by decide +kernel
theorem dL_drawn_123 : decode cL_drawn 123 = .ok (.iload 6, 2) := by decide +kernel
theorem dL_drawn_125 : decode cL_drawn 125 = .ok (.bipush 6, 2) := by decide +kernel
theorem dL_drawn_127 : decode cL_drawn 127 = .ok (.irem, 1) := by decide +kernel
theorem dL_drawn_128 : decode cL_drawn 128 = .ok (.iadd, 1) := by decide +kernel
theorem dL_drawn_129 : decode cL_drawn 129 = .ok (.i2c, 1) := by decide +kernel
theorem dL_drawn_130 : decode cL_drawn 130 = .ok (.iconst 1, 1) := by decide +kernel
theorem dL_drawn_131 : decode cL_drawn 131 = .ok (.iload 6, 2) := by decide +kernel
theorem dL_drawn_133 : decode cL_drawn 133 = .ok (.iconst 3, 1) := by decide +kernel
theorem dL_drawn_134 : decode cL_drawn 134 = .ok (.iushr, 1) := by decide +kernel
theorem dL_drawn_135 : decode cL_drawn 135 = .ok (.bipush 63, 2) := by decide +kernel
theorem dL_drawn_137 : decode cL_drawn 137 = .ok (.irem, 1) := by decide +kernel
theorem dL_drawn_138 : decode cL_drawn 138 = .ok (.iadd, 1) := by decide +kernel
theorem dL_drawn_139 : decode cL_drawn 139 = .ok (.iconst 1, 1) := by decide +kernel
theorem dL_drawn_140 : decode cL_drawn 140 = .ok (.iload 6, 2) := by decide +kernel
theorem dL_drawn_142 : decode cL_drawn 142 = .ok (.bipush 9, 2) := by decide +kernel
theorem dL_drawn_144 : decode cL_drawn 144 = .ok (.iushr, 1) := by decide +kernel
theorem dL_drawn_145 : decode cL_drawn 145 = .ok (.iload_n 2, 1) := by decide +kernel
theorem dL_drawn_146 : decode cL_drawn 146 = .ok (.iconst 5, 1) := by decide +kernel
theorem dL_drawn_147 : decode cL_drawn 147 = .ok (.irem, 1) := by decide +kernel
theorem dL_drawn_148 : decode cL_drawn 148 = .ok (.ifCond .ne 7, 3) := by decide +kernel
theorem dL_drawn_151 : decode cL_drawn 151 = .ok (.iconst 2, 1) := by decide +kernel
theorem dL_drawn_152 : decode cL_drawn 152 = .ok (.goto 4, 3) := by decide +kernel
theorem dL_drawn_155 : decode cL_drawn 155 = .ok (.iconst 4, 1) := by decide +kernel
theorem dL_drawn_156 : decode cL_drawn 156 = .ok (.irem, 1) := by decide +kernel
theorem dL_drawn_157 : decode cL_drawn 157 = .ok (.iadd, 1) := by decide +kernel
theorem dL_drawn_158 : decode cL_drawn 158 = .ok (.iload 6, 2) := by decide +kernel
theorem dL_drawn_160 : decode cL_drawn 160 = .ok (.bipush 12, 2) := by decide +kernel
theorem dL_drawn_162 : decode cL_drawn 162 = .ok (.iushr, 1) := by decide +kernel
theorem dL_drawn_163 : decode cL_drawn 163 = .ok (.bipush 10, 2) := by decide +kernel
theorem dL_drawn_165 : decode cL_drawn 165 = .ok (.irem, 1) := by decide +kernel
theorem dL_drawn_166 : decode cL_drawn 166 = .ok (.invokestatic 169, 3) := by decide +kernel
theorem dL_drawn_169 : decode cL_drawn 169 = .ok (.iload 5, 2) := by decide +kernel
theorem dL_drawn_171 : decode cL_drawn 171 = .ok (.if_icmp .eq 5, 3) := by decide +kernel
theorem dL_drawn_174 : decode cL_drawn 174 = .ok (.aconst_null, 1) := by decide +kernel
theorem dL_drawn_175 : decode cL_drawn 175 = .ok (.areturn, 1) := by decide +kernel
theorem dL_drawn_176 : decode cL_drawn 176 = .ok (.iinc 5 1, 3) := by decide +kernel
theorem dL_drawn_179 : decode cL_drawn 179 = .ok (.goto (-79), 3) := by decide +kernel
theorem dL_drawn_182 : decode cL_drawn 182 = .ok (.iconst 0, 1) := by decide +kernel
theorem dL_drawn_183 : decode cL_drawn 183 = .ok (.istore 5, 2) := by decide +kernel
theorem dL_drawn_185 : decode cL_drawn 185 = .ok (.iload 5, 2) := by decide +kernel
theorem dL_drawn_187 : decode cL_drawn 187 = .ok (.bipush 18, 2) := by decide +kernel
theorem dL_drawn_189 : decode cL_drawn 189 = .ok (.if_icmp .ge 175, 3) := by decide +kernel
theorem dL_drawn_192 : decode cL_drawn 192 = .ok (.aload_n 0, 1) := by decide +kernel
theorem dL_drawn_193 : decode cL_drawn 193 = .ok (.bipush 15, 2) := by decide +kernel
theorem dL_drawn_195 : decode cL_drawn 195 = .ok (.iload 5, 2) := by decide +kernel
theorem dL_drawn_197 : decode cL_drawn 197 = .ok (.iadd, 1) := by decide +kernel
theorem dL_drawn_198 : decode cL_drawn 198 = .ok (.invokestatic 162, 3) := by decide +kernel
theorem dL_drawn_201 : decode cL_drawn 201 = .ok (.iconst 1, 1) := by decide +kernel
theorem dL_drawn_202 : decode cL_drawn 202 = .ok (.iushr, 1) := by decide +kernel
theorem dL_drawn_203 : decode cL_drawn 203 = .ok (.istore 6, 2) := by decide +kernel
theorem dL_drawn_205 : decode cL_drawn 205 = .ok (.iload 6, 2) := by decide +kernel
theorem dL_drawn_207 : decode cL_drawn 207 = .ok (.iconst 4, 1) := by decide +kernel
theorem dL_drawn_208 : decode cL_drawn 208 = .ok (.iushr, 1) := by decide +kernel
theorem dL_drawn_209 : decode cL_drawn 209 = .ok (.iload_n 3, 1) := by decide +kernel
theorem dL_drawn_210 : decode cL_drawn 210 = .ok (.irem, 1) := by decide +kernel
theorem dL_drawn_211 : decode cL_drawn 211 = .ok (.istore 7, 2) := by decide +kernel
theorem dL_drawn_213 : decode cL_drawn 213 = .ok (.iload 6, 2) := by decide +kernel
theorem dL_drawn_215 : decode cL_drawn 215 = .ok (.bipush 8, 2) := by decide +kernel
theorem dL_drawn_217 : decode cL_drawn 217 = .ok (.iushr, 1) := by decide +kernel
theorem dL_drawn_218 : decode cL_drawn 218 = .ok (.iload 4, 2) := by decide +kernel
theorem dL_drawn_220 : decode cL_drawn 220 = .ok (.irem, 1) := by decide +kernel
theorem dL_drawn_221 : decode cL_drawn 221 = .ok (.istore 8, 2) := by decide +kernel
theorem dL_drawn_223 : decode cL_drawn 223 = .ok (.iload 6, 2) := by decide +kernel
theorem dL_drawn_225 : decode cL_drawn 225 = .ok (.bipush 16, 2) := by decide +kernel
theorem dL_drawn_227 : decode cL_drawn 227 = .ok (.irem, 1) := by decide +kernel
theorem dL_drawn_228 : decode cL_drawn 228 = .ok (.istore 9, 2) := by decide +kernel
theorem dL_drawn_230 : decode cL_drawn 230 = .ok (.iload 9, 2) := by decide +kernel
theorem dL_drawn_232 : decode cL_drawn 232 = .ok (.iconst 5, 1) := by decide +kernel
theorem dL_drawn_233 : decode cL_drawn 233 = .ok (.if_icmp .ge 14, 3) := by decide +kernel
theorem dL_drawn_236 : decode cL_drawn 236 = .ok (.aload_n 1, 1) := by decide +kernel
theorem dL_drawn_237 : decode cL_drawn 237 = .ok (.iload 8, 2) := by decide +kernel
theorem dL_drawn_239 : decode cL_drawn 239 = .ok (.iload 7, 2) := by decide +kernel
theorem dL_drawn_241 : decode cL_drawn 241 = .ok (.invokestatic 172, 3) := by decide +kernel
theorem dL_drawn_244 : decode cL_drawn 244 = .ok (.goto 104, 3) := by decide +kernel
theorem dL_drawn_247 : decode cL_drawn 247 = .ok (.iload 9, 2) := by decide +kernel
theorem dL_drawn_249 : decode cL_drawn 249 = .ok (.iconst 5, 1) := by decide +kernel
theorem dL_drawn_250 : decode cL_drawn 250 = .ok (.if_icmp .ne 10, 3) := by decide +kernel
theorem dL_drawn_253 : decode cL_drawn 253 = .ok (.aload_n 1, 1) := by decide +kernel
theorem dL_drawn_254 : decode cL_drawn 254 = .ok (.invokevirtual 175, 3) := by decide +kernel
theorem dL_drawn_257 : decode cL_drawn 257 = .ok (.goto 91, 3) := by decide +kernel
theorem dL_drawn_260 : decode cL_drawn 260 = .ok (.iload 9, 2) := by decide +kernel
theorem dL_drawn_262 : decode cL_drawn 262 = .ok (.bipush 6, 2) := by decide +kernel
theorem dL_drawn_264 : decode cL_drawn 264 = .ok (.if_icmp .ne 14, 3) := by decide +kernel
theorem dL_drawn_267 : decode cL_drawn 267 = .ok (.aload_n 1, 1) := by decide +kernel
theorem dL_drawn_268 : decode cL_drawn 268 = .ok (.iload 8, 2) := by decide +kernel
theorem dL_drawn_270 : decode cL_drawn 270 = .ok (.iload 7, 2) := by decide +kernel
theorem dL_drawn_272 : decode cL_drawn 272 = .ok (.invokestatic 178, 3) := by decide +kernel
theorem dL_drawn_275 : decode cL_drawn 275 = .ok (.goto 73, 3) := by decide +kernel
theorem dL_drawn_278 : decode cL_drawn 278 = .ok (.iload 9, 2) := by decide +kernel
theorem dL_drawn_280 : decode cL_drawn 280 = .ok (.bipush 13, 2) := by decide +kernel
theorem dL_drawn_282 : decode cL_drawn 282 = .ok (.if_icmp .ge 22, 3) := by decide +kernel
theorem dL_drawn_285 : decode cL_drawn 285 = .ok (.aload_n 1, 1) := by decide +kernel
theorem dL_drawn_286 : decode cL_drawn 286 = .ok (.iload 8, 2) := by decide +kernel
theorem dL_drawn_288 : decode cL_drawn 288 = .ok (.iload 7, 2) := by decide +kernel
theorem dL_drawn_290 : decode cL_drawn 290 = .ok (.iload 6, 2) := by decide +kernel
theorem dL_drawn_292 : decode cL_drawn 292 = .ok (.bipush 12, 2) := by decide +kernel
theorem dL_drawn_294 : decode cL_drawn 294 = .ok (.iushr, 1) := by decide +kernel
theorem dL_drawn_295 : decode cL_drawn 295 = .ok (.bipush 21, 2) := by decide +kernel
theorem dL_drawn_297 : decode cL_drawn 297 = .ok (.irem, 1) := by decide +kernel
theorem dL_drawn_298 : decode cL_drawn 298 = .ok (.invokestatic 181, 3) := by decide +kernel
theorem dL_drawn_301 : decode cL_drawn 301 = .ok (.goto 47, 3) := by decide +kernel
theorem dL_drawn_304 : decode cL_drawn 304 = .ok (.iload 9, 2) := by decide +kernel
theorem dL_drawn_306 : decode cL_drawn 306 = .ok (.bipush 13, 2) := by decide +kernel
theorem dL_drawn_308 : decode cL_drawn 308 = .ok (.if_icmp .ne 18, 3) := by decide +kernel
theorem dL_drawn_311 : decode cL_drawn 311 = .ok (.aload_n 1, 1) := by decide +kernel
theorem dL_drawn_312 : decode cL_drawn 312 = .ok (.iload 6, 2) := by decide +kernel
theorem dL_drawn_314 : decode cL_drawn 314 = .ok (.bipush 12, 2) := by decide +kernel
theorem dL_drawn_316 : decode cL_drawn 316 = .ok (.iushr, 1) := by decide +kernel
theorem dL_drawn_317 : decode cL_drawn 317 = .ok (.bipush 21, 2) := by decide +kernel
theorem dL_drawn_319 : decode cL_drawn 319 = .ok (.irem, 1) := by decide +kernel
theorem dL_drawn_320 : decode cL_drawn 320 = .ok (.invokestatic 184, 3) := by decide +kernel
theorem dL_drawn_323 : decode cL_drawn 323 = .ok (.goto 25, 3) := by decide +kernel
theorem dL_drawn_326 : decode cL_drawn 326 = .ok (.iload 9, 2) := by decide +kernel
theorem dL_drawn_328 : decode cL_drawn 328 = .ok (.bipush 14, 2) := by decide +kernel
theorem dL_drawn_330 : decode cL_drawn 330 = .ok (.if_icmp .ne 12, 3) := by decide +kernel
theorem dL_drawn_333 : decode cL_drawn 333 = .ok (.aload_n 1, 1) := by decide +kernel
theorem dL_drawn_334 : decode cL_drawn 334 = .ok (.iload 7, 2) := by decide +kernel
theorem dL_drawn_336 : decode cL_drawn 336 = .ok (.invokestatic 187, 3) := by decide +kernel
theorem dL_drawn_339 : decode cL_drawn 339 = .ok (.goto 9, 3) := by decide +kernel
theorem dL_drawn_342 : decode cL_drawn 342 = .ok (.aload_n 1, 1) := by decide +kernel
theorem dL_drawn_343 : decode cL_drawn 343 = .ok (.iload 7, 2) := by decide +kernel
theorem dL_drawn_345 : decode cL_drawn 345 = .ok (.invokestatic 189, 3) := by decide +kernel
theorem dL_drawn_348 : decode cL_drawn 348 = .ok (.istore 10, 2) := by decide +kernel
theorem dL_drawn_350 : decode cL_drawn 350 = .ok (.iload 10, 2) := by decide +kernel
theorem dL_drawn_352 : decode cL_drawn 352 = .ok (.iconst (-1), 1) := by decide +kernel
theorem dL_drawn_353 : decode cL_drawn 353 = .ok (.if_icmp .ne 5, 3) := by decide +kernel
theorem dL_drawn_356 : decode cL_drawn 356 = .ok (.aconst_null, 1) := by decide +kernel
theorem dL_drawn_357 : decode cL_drawn 357 = .ok (.areturn, 1) := by decide +kernel
theorem dL_drawn_358 : decode cL_drawn 358 = .ok (.iinc 5 1, 3) := by decide +kernel
theorem dL_drawn_361 : decode cL_drawn 361 = .ok (.goto (-176), 3) := by decide +kernel
theorem dL_drawn_364 : decode cL_drawn 364 = .ok (.aload_n 1, 1) := by decide +kernel
theorem dL_drawn_365 : decode cL_drawn 365 = .ok (.areturn, 1) := by decide +kernel
theorem dL_median_0 : decode cL_median 0 = .ok (.iconst 3, 1) := by decide +kernel
theorem dL_median_1 : decode cL_median 1 = .ok (.newarray .int, 2) := by decide +kernel
theorem dL_median_3 : decode cL_median 3 = .ok (.astore_n 2, 1) := by decide +kernel
theorem dL_median_4 : decode cL_median 4 = .ok (.iconst 0, 1) := by decide +kernel
theorem dL_median_5 : decode cL_median 5 = .ok (.istore_n 3, 1) := by decide +kernel
theorem dL_median_6 : decode cL_median 6 = .ok (.iconst 0, 1) := by decide +kernel
theorem dL_median_7 : decode cL_median 7 = .ok (.istore 4, 2) := by decide +kernel
theorem dL_median_9 : decode cL_median 9 = .ok (.iload 4, 2) := by decide +kernel
theorem dL_median_11 : decode cL_median 11 = .ok (.aload_n 0, 1) := by decide +kernel
theorem dL_median_12 : decode cL_median 12 = .ok (.invokevirtual 191, 3) := by decide +kernel
theorem dL_median_15 : decode cL_median 15 = .ok (.if_icmp .ge 67, 3) := by decide +kernel
theorem dL_median_18 : decode cL_median 18 = .ok (.aload_n 0, 1) := by decide +kernel
theorem dL_median_19 : decode cL_median 19 = .ok (.iload 4, 2) := by decide +kernel
theorem dL_median_21 : decode cL_median 21 = .ok (.iload_n 1, 1) := by decide +kernel
theorem dL_median_22 : decode cL_median 22 = .ok (.invokestatic 194, 3) := by decide +kernel
theorem dL_median_25 : decode cL_median 25 = .ok (.istore 5, 2) := by decide +kernel
theorem dL_median_27 : decode cL_median 27 = .ok (.iload 5, 2) := by decide +kernel
theorem dL_median_29 : decode cL_median 29 = .ok (.ifCond .lt 47, 3) := by decide +kernel
theorem dL_median_32 : decode cL_median 32 = .ok (.iload_n 3, 1) := by decide +kernel
theorem dL_median_33 : decode cL_median 33 = .ok (.istore 6, 2) := by decide +kernel
theorem dL_median_35 : decode cL_median 35 = .ok (.iload 6, 2) := by decide +kernel
theorem dL_median_37 : decode cL_median 37 = .ok (.ifCond .le 30, 3) := by decide +kernel
theorem dL_median_40 : decode cL_median 40 = .ok (.aload_n 2, 1) := by decide +kernel
theorem dL_median_41 : decode cL_median 41 = .ok (.iload 6, 2) := by decide +kernel
theorem dL_median_43 : decode cL_median 43 = .ok (.iconst 1, 1) := by decide +kernel
theorem dL_median_44 : decode cL_median 44 = .ok (.isub, 1) := by decide +kernel
theorem dL_median_45 : decode cL_median 45 = .ok (.iaload, 1) := by decide +kernel
theorem dL_median_46 : decode cL_median 46 = .ok (.iload 5, 2) := by decide +kernel
theorem dL_median_48 : decode cL_median 48 = .ok (.if_icmp .le 19, 3) := by decide +kernel
theorem dL_median_51 : decode cL_median 51 = .ok (.aload_n 2, 1) := by decide +kernel
theorem dL_median_52 : decode cL_median 52 = .ok (.iload 6, 2) := by decide +kernel
theorem dL_median_54 : decode cL_median 54 = .ok (.aload_n 2, 1) := by decide +kernel
theorem dL_median_55 : decode cL_median 55 = .ok (.iload 6, 2) := by decide +kernel
theorem dL_median_57 : decode cL_median 57 = .ok (.iconst 1, 1) := by decide +kernel
theorem dL_median_58 : decode cL_median 58 = .ok (.isub, 1) := by decide +kernel
theorem dL_median_59 : decode cL_median 59 = .ok (.iaload, 1) := by decide +kernel
theorem dL_median_60 : decode cL_median 60 = .ok (.iastore, 1) := by decide +kernel
theorem dL_median_61 : decode cL_median 61 = .ok (.iinc 6 (-1), 3) := by decide +kernel
theorem dL_median_64 : decode cL_median 64 = .ok (.goto (-29), 3) := by decide +kernel
theorem dL_median_67 : decode cL_median 67 = .ok (.aload_n 2, 1) := by decide +kernel
theorem dL_median_68 : decode cL_median 68 = .ok (.iload 6, 2) := by decide +kernel
theorem dL_median_70 : decode cL_median 70 = .ok (.iload 5, 2) := by decide +kernel
theorem dL_median_72 : decode cL_median 72 = .ok (.iastore, 1) := by decide +kernel
theorem dL_median_73 : decode cL_median 73 = .ok (.iinc 3 1, 3) := by decide +kernel
theorem dL_median_76 : decode cL_median 76 = .ok (.iinc 4 1, 3) := by decide +kernel
theorem dL_median_79 : decode cL_median 79 = .ok (.goto (-70), 3) := by decide +kernel
theorem dL_median_82 : decode cL_median 82 = .ok (.iload_n 3, 1) := by decide +kernel
theorem dL_median_83 : decode cL_median 83 = .ok (.iconst 2, 1) := by decide +kernel
theorem dL_median_84 : decode cL_median 84 = .ok (.if_icmp .ge 8, 3) := by decide +kernel
theorem dL_median_87 : decode cL_median 87 = .ok (.bipush (-13), 2) := by decide +kernel
theorem dL_median_89 : decode cL_median 89 = .ok (.goto 23, 3) := by decide +kernel
theorem dL_median_92 : decode cL_median 92 = .ok (.iload_n 3, 1) := by decide +kernel
theorem dL_median_93 : decode cL_median 93 = .ok (.iconst 2, 1) := by decide +kernel
theorem dL_median_94 : decode cL_median 94 = .ok (.if_icmp .ne 15, 3) := by decide +kernel
theorem dL_median_97 : decode cL_median 97 = .ok (.aload_n 2, 1) := by decide +kernel
theorem dL_median_98 : decode cL_median 98 = .ok (.iconst 0, 1) := by decide +kernel
theorem dL_median_99 : decode cL_median 99 = .ok (.iaload, 1) := by decide +kernel
theorem dL_median_100 : decode cL_median 100 = .ok (.aload_n 2, 1) := by decide +kernel
theorem dL_median_101 : decode cL_median 101 = .ok (.iconst 1, 1) := by decide +kernel
theorem dL_median_102 : decode cL_median 102 = .ok (.iaload, 1) := by decide +kernel
theorem dL_median_103 : decode cL_median 103 = .ok (.iadd, 1) := by decide +kernel
theorem dL_median_104 : decode cL_median 104 = .ok (.iconst 2, 1) := by decide +kernel
theorem dL_median_105 : decode cL_median 105 = .ok (.idiv, 1) := by decide +kernel
theorem dL_median_106 : decode cL_median 106 = .ok (.goto 6, 3) := by decide +kernel
theorem dL_median_109 : decode cL_median 109 = .ok (.aload_n 2, 1) := by decide +kernel
theorem dL_median_110 : decode cL_median 110 = .ok (.iconst 1, 1) := by decide +kernel
theorem dL_median_111 : decode cL_median 111 = .ok (.iaload, 1) := by decide +kernel
theorem dL_median_112 : decode cL_median 112 = .ok (.ireturn, 1) := by decide +kernel
theorem dL_canSit_0 : decode cL_canSit 0 = .ok (.aload_n 0, 1) := by decide +kernel
theorem dL_canSit_1 : decode cL_canSit 1 = .ok (.iload_n 1, 1) := by decide +kernel
theorem dL_canSit_2 : decode cL_canSit 2 = .ok (.iload_n 2, 1) := by decide +kernel
theorem dL_canSit_3 : decode cL_canSit 3 = .ok (.invokevirtual 87, 3) := by decide +kernel
theorem dL_canSit_6 : decode cL_canSit 6 = .ok (.ifCond .eq 16, 3) := by decide +kernel
theorem dL_canSit_9 : decode cL_canSit 9 = .ok (.aload_n 0, 1) := by decide +kernel
theorem dL_canSit_10 : decode cL_canSit 10 = .ok (.iload_n 1, 1) := by decide +kernel
theorem dL_canSit_11 : decode cL_canSit 11 = .ok (.iload_n 2, 1) := by decide +kernel
theorem dL_canSit_12 : decode cL_canSit 12 = .ok (.invokevirtual 94, 3) := by decide +kernel
theorem dL_canSit_15 : decode cL_canSit 15 = .ok (.ifCond .ne 7, 3) := by decide +kernel
theorem dL_canSit_18 : decode cL_canSit 18 = .ok (.iconst 1, 1) := by decide +kernel
theorem dL_canSit_19 : decode cL_canSit 19 = .ok (.goto 4, 3) := by decide +kernel
theorem dL_canSit_22 : decode cL_canSit 22 = .ok (.iconst 0, 1) := by decide +kernel
theorem dL_canSit_23 : decode cL_canSit 23 = .ok (.ireturn, 1) := by decide +kernel
theorem dL_firstPanel_0 : decode cL_firstPanel 0 = .ok (.aload_n 0, 1) := by decide +kernel
theorem dL_firstPanel_1 : decode cL_firstPanel 1 = .ok (.invokevirtual 191, 3) := by decide +kernel
theorem dL_firstPanel_4 : decode cL_firstPanel 4 = .ok (.istore_n 2, 1) := by decide +kernel
theorem dL_firstPanel_5 : decode cL_firstPanel 5 = .ok (.iconst 0, 1) := by decide +kernel
theorem dL_firstPanel_6 : decode cL_firstPanel 6 = .ok (.istore_n 3, 1) := by decide +kernel
theorem dL_firstPanel_7 : decode cL_firstPanel 7 = .ok (.iload_n 3, 1) := by decide +kernel
theorem dL_firstPanel_8 : decode cL_firstPanel 8 = .ok (.iload_n 2, 1) := by decide +kernel
theorem dL_firstPanel_9 : decode cL_firstPanel 9 = .ok (.if_icmp .ge 142, 3) := by decide +kernel
theorem dL_firstPanel_12 : decode cL_firstPanel 12 = .ok (.iload_n 3, 1) := by decide +kernel
theorem dL_firstPanel_13 : decode cL_firstPanel 13 = .ok (.iconst 1, 1) := by decide +kernel
theorem dL_firstPanel_14 : decode cL_firstPanel 14 = .ok (.iadd, 1) := by decide +kernel
theorem dL_firstPanel_15 : decode cL_firstPanel 15 = .ok (.istore 4, 2) := by decide +kernel
theorem dL_firstPanel_17 : decode cL_firstPanel 17 = .ok (.iload 4, 2) := by decide +kernel
theorem dL_firstPanel_19 : decode cL_firstPanel 19 = .ok (.iload_n 2, 1) := by decide +kernel
theorem dL_firstPanel_20 : decode cL_firstPanel 20 = .ok (.if_icmp .ge 125, 3) := by decide +kernel
theorem dL_firstPanel_23 : decode cL_firstPanel 23 = .ok (.iload 4, 2) := by decide +kernel
theorem dL_firstPanel_25 : decode cL_firstPanel 25 = .ok (.iconst 1, 1) := by decide +kernel
theorem dL_firstPanel_26 : decode cL_firstPanel 26 = .ok (.iadd, 1) := by decide +kernel
theorem dL_firstPanel_27 : decode cL_firstPanel 27 = .ok (.istore 5, 2) := by decide +kernel
theorem dL_firstPanel_29 : decode cL_firstPanel 29 = .ok (.iload 5, 2) := by decide +kernel
theorem dL_firstPanel_31 : decode cL_firstPanel 31 = .ok (.iload_n 2, 1) := by decide +kernel
theorem dL_firstPanel_32 : decode cL_firstPanel 32 = .ok (.if_icmp .ge 107, 3) := by decide +kernel
theorem dL_firstPanel_35 : decode cL_firstPanel 35 = .ok (.aload_n 0, 1) := by decide +kernel
theorem dL_firstPanel_36 : decode cL_firstPanel 36 = .ok (.iload_n 3, 1) := by decide +kernel
theorem dL_firstPanel_37 : decode cL_firstPanel 37 = .ok (.invokevirtual 81, 3) := by decide +kernel
theorem dL_firstPanel_40 : decode cL_firstPanel 40 = .ok (.aload_n 0, 1) := by decide +kernel
theorem dL_firstPanel_41 : decode cL_firstPanel 41 = .ok (.iload 4, 2) := by decide +kernel
theorem dL_firstPanel_43 : decode cL_firstPanel 43 = .ok (.invokevirtual 81, 3) := by decide +kernel
theorem dL_firstPanel_46 : decode cL_firstPanel 46 = .ok (.if_icmp .eq 36, 3) := by decide +kernel
theorem dL_firstPanel_49 : decode cL_firstPanel 49 = .ok (.aload_n 0, 1) := by decide +kernel
theorem dL_firstPanel_50 : decode cL_firstPanel 50 = .ok (.iload_n 3, 1) := by decide +kernel
theorem dL_firstPanel_51 : decode cL_firstPanel 51 = .ok (.invokevirtual 81, 3) := by decide +kernel
theorem dL_firstPanel_54 : decode cL_firstPanel 54 = .ok (.aload_n 0, 1) := by decide +kernel
theorem dL_firstPanel_55 : decode cL_firstPanel 55 = .ok (.iload 5, 2) := by decide +kernel
theorem dL_firstPanel_57 : decode cL_firstPanel 57 = .ok (.invokevirtual 81, 3) := by decide +kernel
theorem dL_firstPanel_60 : decode cL_firstPanel 60 = .ok (.if_icmp .eq 22, 3) := by decide +kernel
theorem dL_firstPanel_63 : decode cL_firstPanel 63 = .ok (.aload_n 0, 1) := by decide +kernel
theorem dL_firstPanel_64 : decode cL_firstPanel 64 = .ok (.iload 4, 2) := by decide +kernel
theorem dL_firstPanel_66 : decode cL_firstPanel 66 = .ok (.invokevirtual 81, 3) := by decide +kernel
theorem dL_firstPanel_69 : decode cL_firstPanel 69 = .ok (.aload_n 0, 1) := by decide +kernel
theorem dL_firstPanel_70 : decode cL_firstPanel 70 = .ok (.iload 5, 2) := by decide +kernel
theorem dL_firstPanel_72 : decode cL_firstPanel 72 = .ok (.invokevirtual 81, 3) := by decide +kernel
theorem dL_firstPanel_75 : decode cL_firstPanel 75 = .ok (.if_icmp .eq 7, 3) := by decide +kernel
theorem dL_firstPanel_78 : decode cL_firstPanel 78 = .ok (.iconst 1, 1) := by decide +kernel
theorem dL_firstPanel_79 : decode cL_firstPanel 79 = .ok (.goto 4, 3) := by decide +kernel
theorem dL_firstPanel_82 : decode cL_firstPanel 82 = .ok (.iconst 0, 1) := by decide +kernel
theorem dL_firstPanel_83 : decode cL_firstPanel 83 = .ok (.istore 6, 2) := by decide +kernel
theorem dL_firstPanel_85 : decode cL_firstPanel 85 = .ok (.iload 6, 2) := by decide +kernel
theorem dL_firstPanel_87 : decode cL_firstPanel 87 = .ok (.ifCond .eq 46, 3) := by decide +kernel
theorem dL_firstPanel_90 : decode cL_firstPanel 90 = .ok (.aload_n 0, 1) := by decide +kernel
theorem dL_firstPanel_91 : decode cL_firstPanel 91 = .ok (.iload_n 3, 1) := by decide +kernel
theorem dL_firstPanel_92 : decode cL_firstPanel 92 = .ok (.iload_n 1, 1) := by decide +kernel
theorem dL_firstPanel_93 : decode cL_firstPanel 93 = .ok (.invokestatic 196, 3) := by decide +kernel
theorem dL_firstPanel_96 : decode cL_firstPanel 96 = .ok (.ifCond .eq 37, 3) := by decide +kernel
theorem dL_firstPanel_99 : decode cL_firstPanel 99 = .ok (.aload_n 0, 1) := by decide +kernel
theorem dL_firstPanel_100 : decode cL_firstPanel 100 = .ok (.iload 4, 2) := by decide +kernel
theorem dL_firstPanel_102 : decode cL_firstPanel 102 = .ok (.iload_n 1, 1) := by decide +kernel
theorem dL_firstPanel_103 : decode cL_firstPanel 103 = .ok (.invokestatic 196, 3) := by decide +kernel
theorem dL_firstPanel_106 : decode cL_firstPanel 106 = .ok (.ifCond .eq 27, 3) := by decide +kernel
theorem dL_firstPanel_109 : decode cL_firstPanel 109 = .ok (.aload_n 0, 1) := by decide +kernel
theorem dL_firstPanel_110 : decode cL_firstPanel 110 = .ok (.iload 5, 2) := by decide +kernel
theorem dL_firstPanel_112 : decode cL_firstPanel 112 = .ok (.iload_n 1, 1) := by decide +kernel
theorem dL_firstPanel_113 : decode cL_firstPanel 113 = .ok (.invokestatic 196, 3) := by decide +kernel
theorem dL_firstPanel_116 : decode cL_firstPanel 116 = .ok (.ifCond .eq 17, 3) := by decide +kernel
theorem dL_firstPanel_119 : decode cL_firstPanel 119 = .ok (.bipush 36, 2) := by decide +kernel
theorem dL_firstPanel_121 : decode cL_firstPanel 121 = .ok (.iload_n 3, 1) := by decide +kernel
theorem dL_firstPanel_122 : decode cL_firstPanel 122 = .ok (.imul, 1) := by decide +kernel
theorem dL_firstPanel_123 : decode cL_firstPanel 123 = .ok (.bipush 6, 2) := by decide +kernel
theorem dL_firstPanel_125 : decode cL_firstPanel 125 = .ok (.iload 4, 2) := by decide +kernel
theorem dL_firstPanel_127 : decode cL_firstPanel 127 = .ok (.imul, 1) := by decide +kernel
theorem dL_firstPanel_128 : decode cL_firstPanel 128 = .ok (.iadd, 1) := by decide +kernel
theorem dL_firstPanel_129 : decode cL_firstPanel 129 = .ok (.iload 5, 2) := by decide +kernel
theorem dL_firstPanel_131 : decode cL_firstPanel 131 = .ok (.iadd, 1) := by decide +kernel
theorem dL_firstPanel_132 : decode cL_firstPanel 132 = .ok (.ireturn, 1) := by decide +kernel
theorem dL_firstPanel_133 : decode cL_firstPanel 133 = .ok (.iinc 5 1, 3) := by decide +kernel
theorem dL_firstPanel_136 : decode cL_firstPanel 136 = .ok (.goto (-107), 3) := by decide +kernel
theorem dL_firstPanel_139 : decode cL_firstPanel 139 = .ok (.iinc 4 1, 3) := by decide +kernel
theorem dL_firstPanel_142 : decode cL_firstPanel 142 = .ok (.goto (-125), 3) := by decide +kernel
theorem dL_firstPanel_145 : decode cL_firstPanel 145 = .ok (.iinc 3 1, 3) := by decide +kernel
theorem dL_firstPanel_148 : decode cL_firstPanel 148 = .ok (.goto (-141), 3) := by decide +kernel
theorem dL_firstPanel_151 : decode cL_firstPanel 151 = .ok (.iconst (-1), 1) := by decide +kernel
theorem dL_firstPanel_152 : decode cL_firstPanel 152 = .ok (.ireturn, 1) := by decide +kernel
theorem dL_doors_0 : decode cL_doors 0 = .ok (.aload_n 0, 1) := by decide +kernel
theorem dL_doors_1 : decode cL_doors 1 = .ok (.invokevirtual 224, 3) := by decide +kernel
theorem dL_doors_4 : decode cL_doors 4 = .ok (.istore_n 1, 1) := by decide +kernel
theorem dL_doors_5 : decode cL_doors 5 = .ok (.iconst 0, 1) := by decide +kernel
theorem dL_doors_6 : decode cL_doors 6 = .ok (.istore_n 2, 1) := by decide +kernel
theorem dL_doors_7 : decode cL_doors 7 = .ok (.iload_n 2, 1) := by decide +kernel
theorem dL_doors_8 : decode cL_doors 8 = .ok (.iload_n 1, 1) := by decide +kernel
theorem dL_doors_9 : decode cL_doors 9 = .ok (.if_icmp .ge 303, 3) := by decide +kernel
theorem dL_doors_12 : decode cL_doors 12 = .ok (.iconst 0, 1) := by decide +kernel
theorem dL_doors_13 : decode cL_doors 13 = .ok (.istore_n 3, 1) := by decide +kernel
theorem dL_doors_14 : decode cL_doors 14 = .ok (.iconst 0, 1) := by decide +kernel
theorem dL_doors_15 : decode cL_doors 15 = .ok (.istore 4, 2) := by decide +kernel
theorem dL_doors_17 : decode cL_doors 17 = .ok (.iconst 0, 1) := by decide +kernel
theorem dL_doors_18 : decode cL_doors 18 = .ok (.istore 5, 2) := by decide +kernel
theorem dL_doors_20 : decode cL_doors 20 = .ok (.iload 5, 2) := by decide +kernel
theorem dL_doors_22 : decode cL_doors 22 = .ok (.aload_n 0, 1) := by decide +kernel
theorem dL_doors_23 : decode cL_doors 23 = .ok (.invokevirtual 191, 3) := by decide +kernel
theorem dL_doors_26 : decode cL_doors 26 = .ok (.if_icmp .ge 39, 3) := by decide +kernel
theorem dL_doors_29 : decode cL_doors 29 = .ok (.iload_n 3, 1) := by decide +kernel
theorem dL_doors_30 : decode cL_doors 30 = .ok (.aload_n 0, 1) := by decide +kernel
theorem dL_doors_31 : decode cL_doors 31 = .ok (.iload 5, 2) := by decide +kernel
theorem dL_doors_33 : decode cL_doors 33 = .ok (.iload_n 2, 1) := by decide +kernel
theorem dL_doors_34 : decode cL_doors 34 = .ok (.invokestatic 227, 3) := by decide +kernel
theorem dL_doors_37 : decode cL_doors 37 = .ok (.iadd, 1) := by decide +kernel
theorem dL_doors_38 : decode cL_doors 38 = .ok (.istore_n 3, 1) := by decide +kernel
theorem dL_doors_39 : decode cL_doors 39 = .ok (.iload 4, 2) := by decide +kernel
theorem dL_doors_41 : decode cL_doors 41 = .ok (.aload_n 0, 1) := by decide +kernel
theorem dL_doors_42 : decode cL_doors 42 = .ok (.iload 5, 2) := by decide +kernel
theorem dL_doors_44 : decode cL_doors 44 = .ok (.iload_n 2, 1) := by decide +kernel
theorem dL_doors_45 : decode cL_doors 45 = .ok (.invokestatic 194, 3) := by decide +kernel
theorem dL_doors_48 : decode cL_doors 48 = .ok (.ifCond .lt 7, 3) := by decide +kernel
theorem dL_doors_51 : decode cL_doors 51 = .ok (.iconst 1, 1) := by decide +kernel
theorem dL_doors_52 : decode cL_doors 52 = .ok (.goto 4, 3) := by decide +kernel
theorem dL_doors_55 : decode cL_doors 55 = .ok (.iconst 0, 1) := by decide +kernel
theorem dL_doors_56 : decode cL_doors 56 = .ok (.iadd, 1) := by decide +kernel
theorem dL_doors_57 : decode cL_doors 57 = .ok (.istore 4, 2) := by decide +kernel
theorem dL_doors_59 : decode cL_doors 59 = .ok (.iinc 5 1, 3) := by decide +kernel
theorem dL_doors_62 : decode cL_doors 62 = .ok (.goto (-42), 3) := by decide +kernel
theorem dL_doors_65 : decode cL_doors 65 = .ok (.aload_n 0, 1) := by decide +kernel
theorem dL_doors_66 : decode cL_doors 66 = .ok (.iload_n 2, 1) := by decide +kernel
theorem dL_doors_67 : decode cL_doors 67 = .ok (.invokestatic 229, 3) := by decide +kernel
theorem dL_doors_70 : decode cL_doors 70 = .ok (.istore 5, 2) := by decide +kernel
theorem dL_doors_72 : decode cL_doors 72 = .ok (.iload 5, 2) := by decide +kernel
theorem dL_doors_74 : decode cL_doors 74 = .ok (.ifCond .lt 16, 3) := by decide +kernel
theorem dL_doors_77 : decode cL_doors 77 = .ok (.iload 5, 2) := by decide +kernel
theorem dL_doors_79 : decode cL_doors 79 = .ok (.aload_n 0, 1) := by decide +kernel
theorem dL_doors_80 : decode cL_doors 80 = .ok (.invokevirtual 232, 3) := by decide +kernel
theorem dL_doors_83 : decode cL_doors 83 = .ok (.if_icmp .lt 7, 3) := by decide +kernel
theorem dL_doors_86 : decode cL_doors 86 = .ok (.iconst 1, 1) := by decide +kernel
theorem dL_doors_87 : decode cL_doors 87 = .ok (.goto 4, 3) := by decide +kernel
theorem dL_doors_90 : decode cL_doors 90 = .ok (.iconst 0, 1) := by decide +kernel
theorem dL_doors_91 : decode cL_doors 91 = .ok (.istore 6, 2) := by decide +kernel
theorem dL_doors_93 : decode cL_doors 93 = .ok (.aload_n 0, 1) := by decide +kernel
theorem dL_doors_94 : decode cL_doors 94 = .ok (.iload_n 2, 1) := by decide +kernel
theorem dL_doors_95 : decode cL_doors 95 = .ok (.invokestatic 235, 3) := by decide +kernel
theorem dL_doors_98 : decode cL_doors 98 = .ok (.iload_n 3, 1) := by decide +kernel
theorem dL_doors_99 : decode cL_doors 99 = .ok (.if_icmp .ne 56, 3) := by decide +kernel
theorem dL_doors_102 : decode cL_doors 102 = .ok (.aload_n 0, 1) := by decide +kernel
theorem dL_doors_103 : decode cL_doors 103 = .ok (.iload_n 2, 1) := by decide +kernel
theorem dL_doors_104 : decode cL_doors 104 = .ok (.invokestatic 237, 3) := by decide +kernel
theorem dL_doors_107 : decode cL_doors 107 = .ok (.iload 4, 2) := by decide +kernel
theorem dL_doors_109 : decode cL_doors 109 = .ok (.if_icmp .ne 46, 3) := by decide +kernel
theorem dL_doors_112 : decode cL_doors 112 = .ok (.iload_n 3, 1) := by decide +kernel
theorem dL_doors_113 : decode cL_doors 113 = .ok (.iconst 3, 1) := by decide +kernel
theorem dL_doors_114 : decode cL_doors 114 = .ok (.if_icmp .gt 41, 3) := by decide +kernel
theorem dL_doors_117 : decode cL_doors 117 = .ok (.iload 4, 2) := by decide +kernel
theorem dL_doors_119 : decode cL_doors 119 = .ok (.iload_n 3, 1) := by decide +kernel
theorem dL_doors_120 : decode cL_doors 120 = .ok (.if_icmp .gt 35, 3) := by decide +kernel
theorem dL_doors_123 : decode cL_doors 123 = .ok (.aload_n 0, 1) := by decide +kernel
theorem dL_doors_124 : decode cL_doors 124 = .ok (.iload_n 2, 1) := by decide +kernel
theorem dL_doors_125 : decode cL_doors 125 = .ok (.invokestatic 239, 3) := by decide +kernel
theorem dL_doors_128 : decode cL_doors 128 = .ok (.iload 5, 2) := by decide +kernel
theorem dL_doors_130 : decode cL_doors 130 = .ok (.if_icmp .ne 25, 3) := by decide +kernel
theorem dL_doors_133 : decode cL_doors 133 = .ok (.aload_n 0, 1) := by decide +kernel
theorem dL_doors_134 : decode cL_doors 134 = .ok (.iload_n 2, 1) := by decide +kernel
theorem dL_doors_135 : decode cL_doors 135 = .ok (.invokestatic 241, 3) := by decide +kernel
theorem dL_doors_138 : decode cL_doors 138 = .ok (.iload 6, 2) := by decide +kernel
theorem dL_doors_140 : decode cL_doors 140 = .ok (.ifCond .eq 7, 3) := by decide +kernel
theorem dL_doors_143 : decode cL_doors 143 = .ok (.iconst 1, 1) := by decide +kernel
theorem dL_doors_144 : decode cL_doors 144 = .ok (.goto 4, 3) := by decide +kernel
theorem dL_doors_147 : decode cL_doors 147 = .ok (.iconst 0, 1) := by decide +kernel
theorem dL_doors_148 : decode cL_doors 148 = .ok (.if_icmp .ne 7, 3) := by decide +kernel
theorem dL_doors_151 : decode cL_doors 151 = .ok (.iconst 1, 1) := by decide +kernel
theorem dL_doors_152 : decode cL_doors 152 = .ok (.goto 4, 3) := by decide +kernel
theorem dL_doors_155 : decode cL_doors 155 = .ok (.iconst 0, 1) := by decide +kernel
theorem dL_doors_156 : decode cL_doors 156 = .ok (.istore 7, 2) := by decide +kernel
theorem dL_doors_158 : decode cL_doors 158 = .ok (.iload 7, 2) := by decide +kernel
theorem dL_doors_160 : decode cL_doors 160 = .ok (.ifCond .eq 33, 3) := by decide +kernel
theorem dL_doors_163 : decode cL_doors 163 = .ok (.aload_n 0, 1) := by decide +kernel
theorem dL_doors_164 : decode cL_doors 164 = .ok (.iload_n 2, 1) := by decide +kernel
theorem dL_doors_165 : decode cL_doors 165 = .ok (.invokestatic 243, 3) := by decide +kernel
theorem dL_doors_168 : decode cL_doors 168 = .ok (.iload 6, 2) := by decide +kernel
theorem dL_doors_170 : decode cL_doors 170 = .ok (.ifCond .ne 11, 3) := by decide +kernel
theorem dL_doors_173 : decode cL_doors 173 = .ok (.aload_n 0, 1) := by decide +kernel
theorem dL_doors_174 : decode cL_doors 174 = .ok (.iload_n 2, 1) := by decide +kernel
theorem dL_doors_175 : decode cL_doors 175 = .ok (.invokevirtual 72, 3) := by decide +kernel
theorem dL_doors_178 : decode cL_doors 178 = .ok (.ifCond .eq 7, 3) := by decide +kernel
theorem dL_doors_181 : decode cL_doors 181 = .ok (.iconst 1, 1) := by decide +kernel
theorem dL_doors_182 : decode cL_doors 182 = .ok (.goto 4, 3) := by decide +kernel
theorem dL_doors_185 : decode cL_doors 185 = .ok (.iconst 0, 1) := by decide +kernel
theorem dL_doors_186 : decode cL_doors 186 = .ok (.if_icmp .ne 7, 3) := by decide +kernel
theorem dL_doors_189 : decode cL_doors 189 = .ok (.iconst 1, 1) := by decide +kernel
theorem dL_doors_190 : decode cL_doors 190 = .ok (.goto 4, 3) := by decide +kernel
theorem dL_doors_193 : decode cL_doors 193 = .ok (.iconst 0, 1) := by decide +kernel
theorem dL_doors_194 : decode cL_doors 194 = .ok (.istore 7, 2) := by decide +kernel
theorem dL_doors_196 : decode cL_doors 196 = .ok (.aload_n 0, 1) := by decide +kernel
theorem dL_doors_197 : decode cL_doors 197 = .ok (.iload_n 2, 1) := by decide +kernel
theorem dL_doors_198 : decode cL_doors 198 = .ok (.invokestatic 245, 3) := by decide +kernel
theorem dL_doors_201 : decode cL_doors 201 = .ok (.istore 8, 2) := by decide +kernel
theorem dL_doors_203 : decode cL_doors 203 = .ok (.iload_n 2, 1) := by decide +kernel
theorem dL_doors_204 : decode cL_doors 204 = .ok (.ifCond .ne 7, 3) := by decide +kernel
theorem dL_doors_207 : decode cL_doors 207 = .ok (.iconst (-1), 1) := by decide +kernel
theorem dL_doors_208 : decode cL_doors 208 = .ok (.goto 10, 3) := by decide +kernel
theorem dL_doors_211 : decode cL_doors 211 = .ok (.aload_n 0, 1) := by decide +kernel
theorem dL_doors_212 : decode cL_doors 212 = .ok (.iload_n 2, 1) := by decide +kernel
theorem dL_doors_213 : decode cL_doors 213 = .ok (.iconst 1, 1) := by decide +kernel
theorem dL_doors_214 : decode cL_doors 214 = .ok (.isub, 1) := by decide +kernel
theorem dL_doors_215 : decode cL_doors 215 = .ok (.invokestatic 245, 3) := by decide +kernel
theorem dL_doors_218 : decode cL_doors 218 = .ok (.istore 9, 2) := by decide +kernel
theorem dL_doors_220 : decode cL_doors 220 = .ok (.iload_n 2, 1) := by decide +kernel
theorem dL_doors_221 : decode cL_doors 221 = .ok (.ifCond .ne 7, 3) := by decide +kernel
theorem dL_doors_224 : decode cL_doors 224 = .ok (.iconst 1, 1) := by decide +kernel
theorem dL_doors_225 : decode cL_doors 225 = .ok (.goto 16, 3) := by decide +kernel
theorem dL_doors_228 : decode cL_doors 228 = .ok (.aload_n 0, 1) := by decide +kernel
theorem dL_doors_229 : decode cL_doors 229 = .ok (.iload 9, 2) := by decide +kernel
theorem dL_doors_231 : decode cL_doors 231 = .ok (.invokestatic 229, 3) := by decide +kernel
theorem dL_doors_234 : decode cL_doors 234 = .ok (.aload_n 0, 1) := by decide +kernel
theorem dL_doors_235 : decode cL_doors 235 = .ok (.iload 8, 2) := by decide +kernel
theorem dL_doors_237 : decode cL_doors 237 = .ok (.invokestatic 229, 3) := by decide +kernel
theorem dL_doors_240 : decode cL_doors 240 = .ok (.isub, 1) := by decide +kernel
theorem dL_doors_241 : decode cL_doors 241 = .ok (.istore 10, 2) := by decide +kernel
theorem dL_doors_243 : decode cL_doors 243 = .ok (.iload 10, 2) := by decide +kernel
theorem dL_doors_245 : decode cL_doors 245 = .ok (.ifCond .ne 12, 3) := by decide +kernel
theorem dL_doors_248 : decode cL_doors 248 = .ok (.aload_n 0, 1) := by decide +kernel
theorem dL_doors_249 : decode cL_doors 249 = .ok (.iload 8, 2) := by decide +kernel
theorem dL_doors_251 : decode cL_doors 251 = .ok (.invokestatic 229, 3) := by decide +kernel
theorem dL_doors_254 : decode cL_doors 254 = .ok (.ifCond .ge 8, 3) := by decide +kernel
theorem dL_doors_257 : decode cL_doors 257 = .ok (.iload 10, 2) := by decide +kernel
theorem dL_doors_259 : decode cL_doors 259 = .ok (.goto 16, 3) := by decide +kernel
theorem dL_doors_262 : decode cL_doors 262 = .ok (.aload_n 0, 1) := by decide +kernel
theorem dL_doors_263 : decode cL_doors 263 = .ok (.iload 9, 2) := by decide +kernel
theorem dL_doors_265 : decode cL_doors 265 = .ok (.invokevirtual 62, 3) := by decide +kernel
theorem dL_doors_268 : decode cL_doors 268 = .ok (.aload_n 0, 1) := by decide +kernel
theorem dL_doors_269 : decode cL_doors 269 = .ok (.iload 8, 2) := by decide +kernel
theorem dL_doors_271 : decode cL_doors 271 = .ok (.invokevirtual 62, 3) := by decide +kernel
theorem dL_doors_274 : decode cL_doors 274 = .ok (.isub, 1) := by decide +kernel
theorem dL_doors_275 : decode cL_doors 275 = .ok (.istore 10, 2) := by decide +kernel
theorem dL_doors_277 : decode cL_doors 277 = .ok (.iload 7, 2) := by decide +kernel
theorem dL_doors_279 : decode cL_doors 279 = .ok (.ifCond .eq 25, 3) := by decide +kernel
theorem dL_doors_282 : decode cL_doors 282 = .ok (.iload 8, 2) := by decide +kernel
theorem dL_doors_284 : decode cL_doors 284 = .ok (.ifCond .lt 20, 3) := by decide +kernel
theorem dL_doors_287 : decode cL_doors 287 = .ok (.iload 10, 2) := by decide +kernel
theorem dL_doors_289 : decode cL_doors 289 = .ok (.ifCond .lt 15, 3) := by decide +kernel
theorem dL_doors_292 : decode cL_doors 292 = .ok (.iload 10, 2) := by decide +kernel
theorem dL_doors_294 : decode cL_doors 294 = .ok (.ifCond .ne 12, 3) := by decide +kernel
theorem dL_doors_297 : decode cL_doors 297 = .ok (.iload 9, 2) := by decide +kernel
theorem dL_doors_299 : decode cL_doors 299 = .ok (.iload 8, 2) := by decide +kernel
theorem dL_doors_301 : decode cL_doors 301 = .ok (.if_icmp .le 5, 3) := by decide +kernel
theorem dL_doors_304 : decode cL_doors 304 = .ok (.iconst 0, 1) := by decide +kernel
theorem dL_doors_305 : decode cL_doors 305 = .ok (.ireturn, 1) := by decide +kernel
theorem dL_doors_306 : decode cL_doors 306 = .ok (.iinc 2 1, 3) := by decide +kernel
theorem dL_doors_309 : decode cL_doors 309 = .ok (.goto (-302), 3) := by decide +kernel
theorem dL_doors_312 : decode cL_doors 312 = .ok (.aload_n 0, 1) := by decide +kernel
theorem dL_doors_313 : decode cL_doors 313 = .ok (.iload_n 1, 1) := by decide +kernel
theorem dL_doors_314 : decode cL_doors 314 = .ok (.invokestatic 245, 3) := by decide +kernel
theorem dL_doors_317 : decode cL_doors 317 = .ok (.bipush (-13), 2) := by decide +kernel
theorem dL_doors_319 : decode cL_doors 319 = .ok (.if_icmp .ne 97, 3) := by decide +kernel
theorem dL_doors_322 : decode cL_doors 322 = .ok (.aload_n 0, 1) := by decide +kernel
theorem dL_doors_323 : decode cL_doors 323 = .ok (.iconst (-1), 1) := by decide +kernel
theorem dL_doors_324 : decode cL_doors 324 = .ok (.invokestatic 245, 3) := by decide +kernel
theorem dL_doors_327 : decode cL_doors 327 = .ok (.bipush (-13), 2) := by decide +kernel
theorem dL_doors_329 : decode cL_doors 329 = .ok (.if_icmp .ne 87, 3) := by decide +kernel
theorem dL_doors_332 : decode cL_doors 332 = .ok (.aload_n 0, 1) := by decide +kernel
theorem dL_doors_333 : decode cL_doors 333 = .ok (.iload_n 1, 1) := by decide +kernel
theorem dL_doors_334 : decode cL_doors 334 = .ok (.invokestatic 247, 3) := by decide +kernel
theorem dL_doors_337 : decode cL_doors 337 = .ok (.bipush (-11), 2) := by decide +kernel
theorem dL_doors_339 : decode cL_doors 339 = .ok (.if_icmp .ne 77, 3) := by decide +kernel
theorem dL_doors_342 : decode cL_doors 342 = .ok (.aload_n 0, 1) := by decide +kernel
theorem dL_doors_343 : decode cL_doors 343 = .ok (.iload_n 1, 1) := by decide +kernel
theorem dL_doors_344 : decode cL_doors 344 = .ok (.invokestatic 249, 3) := by decide +kernel
theorem dL_doors_347 : decode cL_doors 347 = .ok (.bipush (-11), 2) := by decide +kernel
theorem dL_doors_349 : decode cL_doors 349 = .ok (.if_icmp .ne 67, 3) := by decide +kernel
theorem dL_doors_352 : decode cL_doors 352 = .ok (.aload_n 0, 1) := by decide +kernel
theorem dL_doors_353 : decode cL_doors 353 = .ok (.iload_n 1, 1) := by decide +kernel
theorem dL_doors_354 : decode cL_doors 354 = .ok (.invokestatic 235, 3) := by decide +kernel
theorem dL_doors_357 : decode cL_doors 357 = .ok (.bipush (-11), 2) := by decide +kernel
theorem dL_doors_359 : decode cL_doors 359 = .ok (.if_icmp .ne 57, 3) := by decide +kernel
theorem dL_doors_362 : decode cL_doors 362 = .ok (.aload_n 0, 1) := by decide +kernel
theorem dL_doors_363 : decode cL_doors 363 = .ok (.iconst (-1), 1) := by decide +kernel
theorem dL_doors_364 : decode cL_doors 364 = .ok (.invokestatic 237, 3) := by decide +kernel
theorem dL_doors_367 : decode cL_doors 367 = .ok (.bipush (-11), 2) := by decide +kernel
theorem dL_doors_369 : decode cL_doors 369 = .ok (.if_icmp .ne 47, 3) := by decide +kernel
theorem dL_doors_372 : decode cL_doors 372 = .ok (.aload_n 0, 1) := by decide +kernel
theorem dL_doors_373 : decode cL_doors 373 = .ok (.iload_n 1, 1) := by decide +kernel
theorem dL_doors_374 : decode cL_doors 374 = .ok (.invokestatic 239, 3) := by decide +kernel
theorem dL_doors_377 : decode cL_doors 377 = .ok (.bipush (-11), 2) := by decide +kernel
theorem dL_doors_379 : decode cL_doors 379 = .ok (.if_icmp .ne 37, 3) := by decide +kernel
theorem dL_doors_382 : decode cL_doors 382 = .ok (.aload_n 0, 1) := by decide +kernel
theorem dL_doors_383 : decode cL_doors 383 = .ok (.iload_n 1, 1) := by decide +kernel
theorem dL_doors_384 : decode cL_doors 384 = .ok (.invokestatic 241, 3) := by decide +kernel
theorem dL_doors_387 : decode cL_doors 387 = .ok (.bipush (-11), 2) := by decide +kernel
theorem dL_doors_389 : decode cL_doors 389 = .ok (.if_icmp .ne 27, 3) := by decide +kernel
theorem dL_doors_392 : decode cL_doors 392 = .ok (.aload_n 0, 1) := by decide +kernel
theorem dL_doors_393 : decode cL_doors 393 = .ok (.iload_n 1, 1) := by decide +kernel
theorem dL_doors_394 : decode cL_doors 394 = .ok (.invokestatic 251, 3) := by decide +kernel
theorem dL_doors_397 : decode cL_doors 397 = .ok (.bipush (-11), 2) := by decide +kernel
theorem dL_doors_399 : decode cL_doors 399 = .ok (.if_icmp .ne 17, 3) := by decide +kernel
theorem dL_doors_402 : decode cL_doors 402 = .ok (.aload_n 0, 1) := by decide +kernel
theorem dL_doors_403 : decode cL_doors 403 = .ok (.iload_n 1, 1) := by decide +kernel
theorem dL_doors_404 : decode cL_doors 404 = .ok (.invokestatic 243, 3) := by decide +kernel
theorem dL_doors_407 : decode cL_doors 407 = .ok (.bipush (-11), 2) := by decide +kernel
theorem dL_doors_409 : decode cL_doors 409 = .ok (.if_icmp .ne 7, 3) := by decide +kernel
theorem dL_doors_412 : decode cL_doors 412 = .ok (.iconst 1, 1) := by decide +kernel
theorem dL_doors_413 : decode cL_doors 413 = .ok (.goto 4, 3) := by decide +kernel
theorem dL_doors_416 : decode cL_doors 416 = .ok (.iconst 0, 1) := by decide +kernel
theorem dL_doors_417 : decode cL_doors 417 = .ok (.ireturn, 1) := by decide +kernel
theorem dL_examiners_0 : decode cL_examiners 0 = .ok (.aload_n 0, 1) := by decide +kernel
theorem dL_examiners_1 : decode cL_examiners 1 = .ok (.invokevirtual 191, 3) := by decide +kernel
theorem dL_examiners_4 : decode cL_examiners 4 = .ok (.istore_n 1, 1) := by decide +kernel
theorem dL_examiners_5 : decode cL_examiners 5 = .ok (.iconst 0, 1) := by decide +kernel
theorem dL_examiners_6 : decode cL_examiners 6 = .ok (.istore_n 2, 1) := by decide +kernel
theorem dL_examiners_7 : decode cL_examiners 7 = .ok (.iconst 0, 1) := by decide +kernel
theorem dL_examiners_8 : decode cL_examiners 8 = .ok (.istore_n 3, 1) := by decide +kernel
theorem dL_examiners_9 : decode cL_examiners 9 = .ok (.iload_n 3, 1) := by decide +kernel
theorem dL_examiners_10 : decode cL_examiners 10 = .ok (.iload_n 1, 1) := by decide +kernel
theorem dL_examiners_11 : decode cL_examiners 11 = .ok (.if_icmp .ge 246, 3) := by decide +kernel
theorem dL_examiners_14 : decode cL_examiners 14 = .ok (.iconst 0, 1) := by decide +kernel
theorem dL_examiners_15 : decode cL_examiners 15 = .ok (.istore 4, 2) := by decide +kernel
theorem dL_examiners_17 : decode cL_examiners 17 = .ok (.iconst 0, 1) := by decide +kernel
theorem dL_examiners_18 : decode cL_examiners 18 = .ok (.istore 5, 2) := by decide +kernel
theorem dL_examiners_20 : decode cL_examiners 20 = .ok (.iconst 0, 1) := by decide +kernel
theorem dL_examiners_21 : decode cL_examiners 21 = .ok (.istore 6, 2) := by decide +kernel
theorem dL_examiners_23 : decode cL_examiners 23 = .ok (.iload 6, 2) := by decide +kernel
theorem dL_examiners_25 : decode cL_examiners 25 = .ok (.aload_n 0, 1) := by decide +kernel
theorem dL_examiners_26 : decode cL_examiners 26 = .ok (.invokevirtual 224, 3) := by decide +kernel
theorem dL_examiners_29 : decode cL_examiners 29 = .ok (.if_icmp .ge 196, 3) := by decide +kernel
theorem dL_examiners_32 : decode cL_examiners 32 = .ok (.aload_n 0, 1) := by decide +kernel
theorem dL_examiners_33 : decode cL_examiners 33 = .ok (.iload_n 3, 1) := by decide +kernel
theorem dL_examiners_34 : decode cL_examiners 34 = .ok (.iload 6, 2) := by decide +kernel
theorem dL_examiners_36 : decode cL_examiners 36 = .ok (.invokestatic 227, 3) := by decide +kernel
theorem dL_examiners_39 : decode cL_examiners 39 = .ok (.iconst 1, 1) := by decide +kernel
theorem dL_examiners_40 : decode cL_examiners 40 = .ok (.if_icmp .ne 7, 3) := by decide +kernel
theorem dL_examiners_43 : decode cL_examiners 43 = .ok (.iconst 1, 1) := by decide +kernel
theorem dL_examiners_44 : decode cL_examiners 44 = .ok (.goto 4, 3) := by decide +kernel
theorem dL_examiners_47 : decode cL_examiners 47 = .ok (.iconst 0, 1) := by decide +kernel
theorem dL_examiners_48 : decode cL_examiners 48 = .ok (.istore 7, 2) := by decide +kernel
theorem dL_examiners_50 : decode cL_examiners 50 = .ok (.iload 4, 2) := by decide +kernel
theorem dL_examiners_52 : decode cL_examiners 52 = .ok (.iload 7, 2) := by decide +kernel
theorem dL_examiners_54 : decode cL_examiners 54 = .ok (.ifCond .eq 7, 3) := by decide +kernel
theorem dL_examiners_57 : decode cL_examiners 57 = .ok (.iconst 1, 1) := by decide +kernel
theorem dL_examiners_58 : decode cL_examiners 58 = .ok (.goto 4, 3) := by decide +kernel
theorem dL_examiners_61 : decode cL_examiners 61 = .ok (.iconst 0, 1) := by decide +kernel
theorem dL_examiners_62 : decode cL_examiners 62 = .ok (.iadd, 1) := by decide +kernel
theorem dL_examiners_63 : decode cL_examiners 63 = .ok (.istore 4, 2) := by decide +kernel
theorem dL_examiners_65 : decode cL_examiners 65 = .ok (.aload_n 0, 1) := by decide +kernel
theorem dL_examiners_66 : decode cL_examiners 66 = .ok (.iload 6, 2) := by decide +kernel
theorem dL_examiners_68 : decode cL_examiners 68 = .ok (.invokestatic 253, 3) := by decide +kernel
theorem dL_examiners_71 : decode cL_examiners 71 = .ok (.iload_n 3, 1) := by decide +kernel
theorem dL_examiners_72 : decode cL_examiners 72 = .ok (.if_icmp .ne 7, 3) := by decide +kernel
theorem dL_examiners_75 : decode cL_examiners 75 = .ok (.iconst 1, 1) := by decide +kernel
theorem dL_examiners_76 : decode cL_examiners 76 = .ok (.goto 4, 3) := by decide +kernel
theorem dL_examiners_79 : decode cL_examiners 79 = .ok (.iconst 0, 1) := by decide +kernel
theorem dL_examiners_80 : decode cL_examiners 80 = .ok (.istore 8, 2) := by decide +kernel
theorem dL_examiners_82 : decode cL_examiners 82 = .ok (.iload 5, 2) := by decide +kernel
theorem dL_examiners_84 : decode cL_examiners 84 = .ok (.iload 8, 2) := by decide +kernel
theorem dL_examiners_86 : decode cL_examiners 86 = .ok (.ifCond .eq 7, 3) := by decide +kernel
theorem dL_examiners_89 : decode cL_examiners 89 = .ok (.iconst 1, 1) := by decide +kernel
