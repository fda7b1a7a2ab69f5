theorem dX7_countsSeats_9 : decode cX7_countsSeats 9 = .ok (.if_icmp .ge 27, 3) := by decide +kernel
theorem dX7_countsSeats_12 : decode cX7_countsSeats 12 = .ok (.aload_n 0, 1) := by decide +kernel
theorem dX7_countsSeats_13 : decode cX7_countsSeats 13 = .ok (.getfield 22, 3) := by decide +kernel
theorem dX7_countsSeats_16 : decode cX7_countsSeats 16 = .ok (.iload_n 1, 1) := by decide +kernel
theorem dX7_countsSeats_17 : decode cX7_countsSeats 17 = .ok (.aload_n 0, 1) := by decide +kernel
theorem dX7_countsSeats_18 : decode cX7_countsSeats 18 = .ok (.iload_n 1, 1) := by decide +kernel
theorem dX7_countsSeats_19 : decode cX7_countsSeats 19 = .ok (.iconst 2, 1) := by decide +kernel
theorem dX7_countsSeats_20 : decode cX7_countsSeats 20 = .ok (.invokevirtual 78, 3) := by decide +kernel
theorem dX7_countsSeats_23 : decode cX7_countsSeats 23 = .ok (.aload_n 0, 1) := by decide +kernel
theorem dX7_countsSeats_24 : decode cX7_countsSeats 24 = .ok (.iload_n 1, 1) := by decide +kernel
theorem dX7_countsSeats_25 : decode cX7_countsSeats 25 = .ok (.invokevirtual 146, 3) := by decide +kernel
theorem dX7_countsSeats_28 : decode cX7_countsSeats 28 = .ok (.isub, 1) := by decide +kernel
theorem dX7_countsSeats_29 : decode cX7_countsSeats 29 = .ok (.iastore, 1) := by decide +kernel
theorem dX7_countsSeats_30 : decode cX7_countsSeats 30 = .ok (.iinc 1 1, 3) := by decide +kernel
theorem dX7_countsSeats_33 : decode cX7_countsSeats 33 = .ok (.goto (-31), 3) := by decide +kernel
theorem dX7_countsSeats_36 : decode cX7_countsSeats 36 = .ok (.return_, 1) := by decide +kernel
theorem dX7_plans_0 : decode cX7_plans 0 = .ok (.aload_n 0, 1) := by decide +kernel
theorem dX7_plans_1 : decode cX7_plans 1 = .ok (.invokevirtual 161, 3) := by decide +kernel
theorem dX7_plans_4 : decode cX7_plans 4 = .ok (.aload_n 0, 1) := by decide +kernel
theorem dX7_plans_5 : decode cX7_plans 5 = .ok (.iconst 0, 1) := by decide +kernel
theorem dX7_plans_6 : decode cX7_plans 6 = .ok (.invokevirtual 164, 3) := by decide +kernel
theorem dX7_plans_9 : decode cX7_plans 9 = .ok (.istore_n 1, 1) := by decide +kernel
theorem dX7_plans_10 : decode cX7_plans 10 = .ok (.iload_n 1, 1) := by decide +kernel
theorem dX7_plans_11 : decode cX7_plans 11 = .ok (.istore_n 2, 1) := by decide +kernel
theorem dX7_plans_12 : decode cX7_plans 12 = .ok (.iconst 0, 1) := by decide +kernel
theorem dX7_plans_13 : decode cX7_plans 13 = .ok (.istore_n 3, 1) := by decide +kernel
theorem dX7_plans_14 : decode cX7_plans 14 = .ok (.iload_n 3, 1) := by decide +kernel
theorem dX7_plans_15 : decode cX7_plans 15 = .ok (.aload_n 0, 1) := by decide +kernel
theorem dX7_plans_16 : decode cX7_plans 16 = .ok (.getfield 9, 3) := by decide +kernel
theorem dX7_plans_19 : decode cX7_plans 19 = .ok (.iconst 0, 1) := by decide +kernel
theorem dX7_plans_20 : decode cX7_plans 20 = .ok (.iaload, 1) := by decide +kernel
theorem dX7_plans_21 : decode cX7_plans 21 = .ok (.if_icmp .ge 146, 3) := by decide +kernel
theorem dX7_plans_24 : decode cX7_plans 24 = .ok (.aload_n 0, 1) := by decide +kernel
theorem dX7_plans_25 : decode cX7_plans 25 = .ok (.getfield 32, 3) := by decide +kernel
theorem dX7_plans_28 : decode cX7_plans 28 = .ok (.iload_n 3, 1) := by decide +kernel
theorem dX7_plans_29 : decode cX7_plans 29 = .ok (.iconst (-1), 1) := by decide +kernel
theorem dX7_plans_30 : decode cX7_plans 30 = .ok (.iastore, 1) := by decide +kernel
theorem dX7_plans_31 : decode cX7_plans 31 = .ok (.iconst 0, 1) := by decide +kernel
theorem dX7_plans_32 : decode cX7_plans 32 = .ok (.istore 4, 2) := by decide +kernel
theorem dX7_plans_34 : decode cX7_plans 34 = .ok (.iload 4, 2) := by decide +kernel
theorem dX7_plans_36 : decode cX7_plans 36 = .ok (.aload_n 0, 1) := by decide +kernel
theorem dX7_plans_37 : decode cX7_plans 37 = .ok (.getfield 9, 3) := by decide +kernel
theorem dX7_plans_40 : decode cX7_plans 40 = .ok (.iconst 1, 1) := by decide +kernel
theorem dX7_plans_41 : decode cX7_plans 41 = .ok (.iaload, 1) := by decide +kernel
theorem dX7_plans_42 : decode cX7_plans 42 = .ok (.if_icmp .ge 119, 3) := by decide +kernel
theorem dX7_plans_45 : decode cX7_plans 45 = .ok (.aload_n 0, 1) := by decide +kernel
theorem dX7_plans_46 : decode cX7_plans 46 = .ok (.getfield 32, 3) := by decide +kernel
theorem dX7_plans_49 : decode cX7_plans 49 = .ok (.iload_n 3, 1) := by decide +kernel
theorem dX7_plans_50 : decode cX7_plans 50 = .ok (.iaload, 1) := by decide +kernel
theorem dX7_plans_51 : decode cX7_plans 51 = .ok (.ifCond .ge 110, 3) := by decide +kernel
theorem dX7_plans_54 : decode cX7_plans 54 = .ok (.aload_n 0, 1) := by decide +kernel
theorem dX7_plans_55 : decode cX7_plans 55 = .ok (.getfield 22, 3) := by decide +kernel
theorem dX7_plans_58 : decode cX7_plans 58 = .ok (.iload 4, 2) := by decide +kernel
theorem dX7_plans_60 : decode cX7_plans 60 = .ok (.iaload, 1) := by decide +kernel
theorem dX7_plans_61 : decode cX7_plans 61 = .ok (.ifCond .le 94, 3) := by decide +kernel
theorem dX7_plans_64 : decode cX7_plans 64 = .ok (.aload_n 0, 1) := by decide +kernel
theorem dX7_plans_65 : decode cX7_plans 65 = .ok (.iload 4, 2) := by decide +kernel
theorem dX7_plans_67 : decode cX7_plans 67 = .ok (.iload_n 3, 1) := by decide +kernel
theorem dX7_plans_68 : decode cX7_plans 68 = .ok (.invokevirtual 155, 3) := by decide +kernel
theorem dX7_plans_71 : decode cX7_plans 71 = .ok (.ifCond .eq 84, 3) := by decide +kernel
theorem dX7_plans_74 : decode cX7_plans 74 = .ok (.aload_n 0, 1) := by decide +kernel
theorem dX7_plans_75 : decode cX7_plans 75 = .ok (.getfield 22, 3) := by decide +kernel
theorem dX7_plans_78 : decode cX7_plans 78 = .ok (.iload 4, 2) := by decide +kernel
theorem dX7_plans_80 : decode cX7_plans 80 = .ok (.dup2, 1) := by decide +kernel
theorem dX7_plans_81 : decode cX7_plans 81 = .ok (.iaload, 1) := by decide +kernel
theorem dX7_plans_82 : decode cX7_plans 82 = .ok (.iconst 1, 1) := by decide +kernel
theorem dX7_plans_83 : decode cX7_plans 83 = .ok (.isub, 1) := by decide +kernel
theorem dX7_plans_84 : decode cX7_plans 84 = .ok (.iastore, 1) := by decide +kernel
theorem dX7_plans_85 : decode cX7_plans 85 = .ok (.iconst 1, 1) := by decide +kernel
theorem dX7_plans_86 : decode cX7_plans 86 = .ok (.aload_n 0, 1) := by decide +kernel
theorem dX7_plans_87 : decode cX7_plans 87 = .ok (.iload_n 3, 1) := by decide +kernel
theorem dX7_plans_88 : decode cX7_plans 88 = .ok (.iconst 1, 1) := by decide +kernel
theorem dX7_plans_89 : decode cX7_plans 89 = .ok (.iadd, 1) := by decide +kernel
theorem dX7_plans_90 : decode cX7_plans 90 = .ok (.invokevirtual 164, 3) := by decide +kernel
theorem dX7_plans_93 : decode cX7_plans 93 = .ok (.iadd, 1) := by decide +kernel
theorem dX7_plans_94 : decode cX7_plans 94 = .ok (.iload_n 2, 1) := by decide +kernel
theorem dX7_plans_95 : decode cX7_plans 95 = .ok (.if_icmp .ne 7, 3) := by decide +kernel
theorem dX7_plans_98 : decode cX7_plans 98 = .ok (.iconst 1, 1) := by decide +kernel
theorem dX7_plans_99 : decode cX7_plans 99 = .ok (.goto 4, 3) := by decide +kernel
theorem dX7_plans_102 : decode cX7_plans 102 = .ok (.iconst 0, 1) := by decide +kernel
theorem dX7_plans_103 : decode cX7_plans 103 = .ok (.istore 5, 2) := by decide +kernel
theorem dX7_plans_105 : decode cX7_plans 105 = .ok (.aload_n 0, 1) := by decide +kernel
theorem dX7_plans_106 : decode cX7_plans 106 = .ok (.getfield 32, 3) := by decide +kernel
theorem dX7_plans_109 : decode cX7_plans 109 = .ok (.iload_n 3, 1) := by decide +kernel
theorem dX7_plans_110 : decode cX7_plans 110 = .ok (.iload 5, 2) := by decide +kernel
theorem dX7_plans_112 : decode cX7_plans 112 = .ok (.ifCond .eq 8, 3) := by decide +kernel
theorem dX7_plans_115 : decode cX7_plans 115 = .ok (.iload 4, 2) := by decide +kernel
theorem dX7_plans_117 : decode cX7_plans 117 = .ok (.goto 4, 3) := by decide +kernel
theorem dX7_plans_120 : decode cX7_plans 120 = .ok (.iconst (-1), 1) := by decide +kernel
theorem dX7_plans_121 : decode cX7_plans 121 = .ok (.iastore, 1) := by decide +kernel
theorem dX7_plans_122 : decode cX7_plans 122 = .ok (.iload_n 2, 1) := by decide +kernel
theorem dX7_plans_123 : decode cX7_plans 123 = .ok (.iload 5, 2) := by decide +kernel
theorem dX7_plans_125 : decode cX7_plans 125 = .ok (.ifCond .eq 7, 3) := by decide +kernel
theorem dX7_plans_128 : decode cX7_plans 128 = .ok (.iconst 1, 1) := by decide +kernel
theorem dX7_plans_129 : decode cX7_plans 129 = .ok (.goto 4, 3) := by decide +kernel
theorem dX7_plans_132 : decode cX7_plans 132 = .ok (.iconst 0, 1) := by decide +kernel
theorem dX7_plans_133 : decode cX7_plans 133 = .ok (.isub, 1) := by decide +kernel
theorem dX7_plans_134 : decode cX7_plans 134 = .ok (.istore_n 2, 1) := by decide +kernel
theorem dX7_plans_135 : decode cX7_plans 135 = .ok (.aload_n 0, 1) := by decide +kernel
theorem dX7_plans_136 : decode cX7_plans 136 = .ok (.getfield 22, 3) := by decide +kernel
theorem dX7_plans_139 : decode cX7_plans 139 = .ok (.iload 4, 2) := by decide +kernel
theorem dX7_plans_141 : decode cX7_plans 141 = .ok (.dup2, 1) := by decide +kernel
theorem dX7_plans_142 : decode cX7_plans 142 = .ok (.iaload, 1) := by decide +kernel
theorem dX7_plans_143 : decode cX7_plans 143 = .ok (.iload 5, 2) := by decide +kernel
theorem dX7_plans_145 : decode cX7_plans 145 = .ok (.ifCond .eq 7, 3) := by decide +kernel
theorem dX7_plans_148 : decode cX7_plans 148 = .ok (.iconst 0, 1) := by decide +kernel
theorem dX7_plans_149 : decode cX7_plans 149 = .ok (.goto 4, 3) := by decide +kernel
theorem dX7_plans_152 : decode cX7_plans 152 = .ok (.iconst 1, 1) := by decide +kernel
theorem dX7_plans_153 : decode cX7_plans 153 = .ok (.iadd, 1) := by decide +kernel
theorem dX7_plans_154 : decode cX7_plans 154 = .ok (.iastore, 1) := by decide +kernel
theorem dX7_plans_155 : decode cX7_plans 155 = .ok (.iinc 4 1, 3) := by decide +kernel
theorem dX7_plans_158 : decode cX7_plans 158 = .ok (.goto (-124), 3) := by decide +kernel
theorem dX7_plans_161 : decode cX7_plans 161 = .ok (.iinc 3 1, 3) := by decide +kernel
theorem dX7_plans_164 : decode cX7_plans 164 = .ok (.goto (-150), 3) := by decide +kernel
theorem dX7_plans_167 : decode cX7_plans 167 = .ok (.iload_n 1, 1) := by decide +kernel
theorem dX7_plans_168 : decode cX7_plans 168 = .ok (.ireturn, 1) := by decide +kernel
theorem dX7_doPlan_0 : decode cX7_doPlan 0 = .ok (.aload_n 0, 1) := by decide +kernel
theorem dX7_doPlan_1 : decode cX7_doPlan 1 = .ok (.invokevirtual 167, 3) := by decide +kernel
theorem dX7_doPlan_4 : decode cX7_doPlan 4 = .ok (.istore_n 1, 1) := by decide +kernel
theorem dX7_doPlan_5 : decode cX7_doPlan 5 = .ok (.iconst 0, 1) := by decide +kernel
theorem dX7_doPlan_6 : decode cX7_doPlan 6 = .ok (.istore_n 2, 1) := by decide +kernel
theorem dX7_doPlan_7 : decode cX7_doPlan 7 = .ok (.iload_n 2, 1) := by decide +kernel
theorem dX7_doPlan_8 : decode cX7_doPlan 8 = .ok (.aload_n 0, 1) := by decide +kernel
theorem dX7_doPlan_9 : decode cX7_doPlan 9 = .ok (.getfield 9, 3) := by decide +kernel
theorem dX7_doPlan_12 : decode cX7_doPlan 12 = .ok (.iconst 0, 1) := by decide +kernel
theorem dX7_doPlan_13 : decode cX7_doPlan 13 = .ok (.iaload, 1) := by decide +kernel
theorem dX7_doPlan_14 : decode cX7_doPlan 14 = .ok (.if_icmp .ge 31, 3) := by decide +kernel
theorem dX7_doPlan_17 : decode cX7_doPlan 17 = .ok (.aload_n 0, 1) := by decide +kernel
theorem dX7_doPlan_18 : decode cX7_doPlan 18 = .ok (.getfield 32, 3) := by decide +kernel
theorem dX7_doPlan_21 : decode cX7_doPlan 21 = .ok (.iload_n 2, 1) := by decide +kernel
theorem dX7_doPlan_22 : decode cX7_doPlan 22 = .ok (.iaload, 1) := by decide +kernel
theorem dX7_doPlan_23 : decode cX7_doPlan 23 = .ok (.ifCond .lt 16, 3) := by decide +kernel
theorem dX7_doPlan_26 : decode cX7_doPlan 26 = .ok (.aload_n 0, 1) := by decide +kernel
theorem dX7_doPlan_27 : decode cX7_doPlan 27 = .ok (.aload_n 0, 1) := by decide +kernel
theorem dX7_doPlan_28 : decode cX7_doPlan 28 = .ok (.getfield 32, 3) := by decide +kernel
theorem dX7_doPlan_31 : decode cX7_doPlan 31 = .ok (.iload_n 2, 1) := by decide +kernel
theorem dX7_doPlan_32 : decode cX7_doPlan 32 = .ok (.iaload, 1) := by decide +kernel
theorem dX7_doPlan_33 : decode cX7_doPlan 33 = .ok (.iload_n 2, 1) := by decide +kernel
theorem dX7_doPlan_34 : decode cX7_doPlan 34 = .ok (.iconst 1, 1) := by decide +kernel
theorem dX7_doPlan_35 : decode cX7_doPlan 35 = .ok (.iconst 1, 1) := by decide +kernel
theorem dX7_doPlan_36 : decode cX7_doPlan 36 = .ok (.invokevirtual 136, 3) := by decide +kernel
theorem dX7_doPlan_39 : decode cX7_doPlan 39 = .ok (.iinc 2 1, 3) := by decide +kernel
theorem dX7_doPlan_42 : decode cX7_doPlan 42 = .ok (.goto (-35), 3) := by decide +kernel
theorem dX7_doPlan_45 : decode cX7_doPlan 45 = .ok (.iload_n 1, 1) := by decide +kernel
theorem dX7_doPlan_46 : decode cX7_doPlan 46 = .ok (.ireturn, 1) := by decide +kernel
theorem dX7_carryOutPlan_0 : decode cX7_carryOutPlan 0 = .ok (.aload_n 0, 1) := by decide +kernel
theorem dX7_carryOutPlan_1 : decode cX7_carryOutPlan 1 = .ok (.invokevirtual 117, 3) := by decide +kernel
theorem dX7_carryOutPlan_4 : decode cX7_carryOutPlan 4 = .ok (.aload_n 0, 1) := by decide +kernel
theorem dX7_carryOutPlan_5 : decode cX7_carryOutPlan 5 = .ok (.aload_n 0, 1) := by decide +kernel
theorem dX7_carryOutPlan_6 : decode cX7_carryOutPlan 6 = .ok (.invokevirtual 171, 3) := by decide +kernel
theorem dX7_carryOutPlan_9 : decode cX7_carryOutPlan 9 = .ok (.invokevirtual 123, 3) := by decide +kernel
theorem dX7_carryOutPlan_12 : decode cX7_carryOutPlan 12 = .ok (.ireturn, 1) := by decide +kernel
theorem dX7_doGrade_0 : decode cX7_doGrade 0 = .ok (.aload_n 0, 1) := by decide +kernel
theorem dX7_doGrade_1 : decode cX7_doGrade 1 = .ok (.iload_n 1, 1) := by decide +kernel
theorem dX7_doGrade_2 : decode cX7_doGrade 2 = .ok (.iload_n 2, 1) := by decide +kernel
theorem dX7_doGrade_3 : decode cX7_doGrade 3 = .ok (.invokevirtual 130, 3) := by decide +kernel
theorem dX7_doGrade_6 : decode cX7_doGrade 6 = .ok (.ifCond .ne 9, 3) := by decide +kernel
theorem dX7_doGrade_9 : decode cX7_doGrade 9 = .ok (.aload_n 0, 1) := by decide +kernel
theorem dX7_doGrade_10 : decode cX7_doGrade 10 = .ok (.iconst 1, 1) := by decide +kernel
theorem dX7_doGrade_11 : decode cX7_doGrade 11 = .ok (.invokevirtual 114, 3) := by decide +kernel
theorem dX7_doGrade_14 : decode cX7_doGrade 14 = .ok (.ireturn, 1) := by decide +kernel
theorem dX7_doGrade_15 : decode cX7_doGrade 15 = .ok (.iload_n 3, 1) := by decide +kernel
theorem dX7_doGrade_16 : decode cX7_doGrade 16 = .ok (.iconst 0, 1) := by decide +kernel
theorem dX7_doGrade_17 : decode cX7_doGrade 17 = .ok (.bipush 20, 2) := by decide +kernel
theorem dX7_doGrade_19 : decode cX7_doGrade 19 = .ok (.invokestatic 67, 3) := by decide +kernel
theorem dX7_doGrade_22 : decode cX7_doGrade 22 = .ok (.ifCond .ne 9, 3) := by decide +kernel
theorem dX7_doGrade_25 : decode cX7_doGrade 25 = .ok (.aload_n 0, 1) := by decide +kernel
theorem dX7_doGrade_26 : decode cX7_doGrade 26 = .ok (.iconst 2, 1) := by decide +kernel
theorem dX7_doGrade_27 : decode cX7_doGrade 27 = .ok (.invokevirtual 114, 3) := by decide +kernel
theorem dX7_doGrade_30 : decode cX7_doGrade 30 = .ok (.ireturn, 1) := by decide +kernel
theorem dX7_doGrade_31 : decode cX7_doGrade 31 = .ok (.aload_n 0, 1) := by decide +kernel
theorem dX7_doGrade_32 : decode cX7_doGrade 32 = .ok (.iload_n 1, 1) := by decide +kernel
theorem dX7_doGrade_33 : decode cX7_doGrade 33 = .ok (.iload_n 2, 1) := by decide +kernel
theorem dX7_doGrade_34 : decode cX7_doGrade 34 = .ok (.invokevirtual 133, 3) := by decide +kernel
theorem dX7_doGrade_37 : decode cX7_doGrade 37 = .ok (.ifCond .eq 13, 3) := by decide +kernel
theorem dX7_doGrade_40 : decode cX7_doGrade 40 = .ok (.aload_n 0, 1) := by decide +kernel
theorem dX7_doGrade_41 : decode cX7_doGrade 41 = .ok (.iload_n 1, 1) := by decide +kernel
theorem dX7_doGrade_42 : decode cX7_doGrade 42 = .ok (.iload_n 2, 1) := by decide +kernel
theorem dX7_doGrade_43 : decode cX7_doGrade 43 = .ok (.iconst 2, 1) := by decide +kernel
theorem dX7_doGrade_44 : decode cX7_doGrade 44 = .ok (.invokevirtual 85, 3) := by decide +kernel
theorem dX7_doGrade_47 : decode cX7_doGrade 47 = .ok (.ifCond .le 9, 3) := by decide +kernel
theorem dX7_doGrade_50 : decode cX7_doGrade 50 = .ok (.aload_n 0, 1) := by decide +kernel
theorem dX7_doGrade_51 : decode cX7_doGrade 51 = .ok (.iconst 3, 1) := by decide +kernel
theorem dX7_doGrade_52 : decode cX7_doGrade 52 = .ok (.invokevirtual 114, 3) := by decide +kernel
theorem dX7_doGrade_55 : decode cX7_doGrade 55 = .ok (.ireturn, 1) := by decide +kernel
theorem dX7_doGrade_56 : decode cX7_doGrade 56 = .ok (.aload_n 0, 1) := by decide +kernel
theorem dX7_doGrade_57 : decode cX7_doGrade 57 = .ok (.iload_n 1, 1) := by decide +kernel
theorem dX7_doGrade_58 : decode cX7_doGrade 58 = .ok (.iload_n 2, 1) := by decide +kernel
theorem dX7_doGrade_59 : decode cX7_doGrade 59 = .ok (.iconst 2, 1) := by decide +kernel
theorem dX7_doGrade_60 : decode cX7_doGrade 60 = .ok (.iload_n 3, 1) := by decide +kernel
theorem dX7_doGrade_61 : decode cX7_doGrade 61 = .ok (.iconst 1, 1) := by decide +kernel
theorem dX7_doGrade_62 : decode cX7_doGrade 62 = .ok (.iadd, 1) := by decide +kernel
theorem dX7_doGrade_63 : decode cX7_doGrade 63 = .ok (.invokevirtual 136, 3) := by decide +kernel
theorem dX7_doGrade_66 : decode cX7_doGrade 66 = .ok (.aload_n 0, 1) := by decide +kernel
theorem dX7_doGrade_67 : decode cX7_doGrade 67 = .ok (.iload_n 2, 1) := by decide +kernel
theorem dX7_doGrade_68 : decode cX7_doGrade 68 = .ok (.invokevirtual 101, 3) := by decide +kernel
theorem dX7_doGrade_71 : decode cX7_doGrade 71 = .ok (.ireturn, 1) := by decide +kernel
theorem dX7_grade_0 : decode cX7_grade 0 = .ok (.aload_n 0, 1) := by decide +kernel
theorem dX7_grade_1 : decode cX7_grade 1 = .ok (.invokevirtual 117, 3) := by decide +kernel
theorem dX7_grade_4 : decode cX7_grade 4 = .ok (.aload_n 0, 1) := by decide +kernel
theorem dX7_grade_5 : decode cX7_grade 5 = .ok (.aload_n 0, 1) := by decide +kernel
theorem dX7_grade_6 : decode cX7_grade 6 = .ok (.iload_n 1, 1) := by decide +kernel
theorem dX7_grade_7 : decode cX7_grade 7 = .ok (.iload_n 2, 1) := by decide +kernel
theorem dX7_grade_8 : decode cX7_grade 8 = .ok (.iload_n 3, 1) := by decide +kernel
theorem dX7_grade_9 : decode cX7_grade 9 = .ok (.invokevirtual 174, 3) := by decide +kernel
theorem dX7_grade_12 : decode cX7_grade 12 = .ok (.invokevirtual 123, 3) := by decide +kernel
theorem dX7_grade_15 : decode cX7_grade 15 = .ok (.ireturn, 1) := by decide +kernel
theorem dX7_doThreshold_0 : decode cX7_doThreshold 0 = .ok (.iload_n 1, 1) := by decide +kernel
theorem dX7_doThreshold_1 : decode cX7_doThreshold 1 = .ok (.iconst 0, 1) := by decide +kernel
theorem dX7_doThreshold_2 : decode cX7_doThreshold 2 = .ok (.bipush 20, 2) := by decide +kernel
theorem dX7_doThreshold_4 : decode cX7_doThreshold 4 = .ok (.invokestatic 67, 3) := by decide +kernel
theorem dX7_doThreshold_7 : decode cX7_doThreshold 7 = .ok (.ifCond .ne 9, 3) := by decide +kernel
theorem dX7_doThreshold_10 : decode cX7_doThreshold 10 = .ok (.aload_n 0, 1) := by decide +kernel
theorem dX7_doThreshold_11 : decode cX7_doThreshold 11 = .ok (.iconst 1, 1) := by decide +kernel
theorem dX7_doThreshold_12 : decode cX7_doThreshold 12 = .ok (.invokevirtual 114, 3) := by decide +kernel
theorem dX7_doThreshold_15 : decode cX7_doThreshold 15 = .ok (.ireturn, 1) := by decide +kernel
theorem dX7_doThreshold_16 : decode cX7_doThreshold 16 = .ok (.aload_n 0, 1) := by decide +kernel
theorem dX7_doThreshold_17 : decode cX7_doThreshold 17 = .ok (.getfield 9, 3) := by decide +kernel
theorem dX7_doThreshold_20 : decode cX7_doThreshold 20 = .ok (.iconst 2, 1) := by decide +kernel
theorem dX7_doThreshold_21 : decode cX7_doThreshold 21 = .ok (.iaload, 1) := by decide +kernel
theorem dX7_doThreshold_22 : decode cX7_doThreshold 22 = .ok (.istore_n 2, 1) := by decide +kernel
theorem dX7_doThreshold_23 : decode cX7_doThreshold 23 = .ok (.aload_n 0, 1) := by decide +kernel
theorem dX7_doThreshold_24 : decode cX7_doThreshold 24 = .ok (.getfield 9, 3) := by decide +kernel
theorem dX7_doThreshold_27 : decode cX7_doThreshold 27 = .ok (.iconst 2, 1) := by decide +kernel
theorem dX7_doThreshold_28 : decode cX7_doThreshold 28 = .ok (.iload_n 1, 1) := by decide +kernel
theorem dX7_doThreshold_29 : decode cX7_doThreshold 29 = .ok (.iastore, 1) := by decide +kernel
theorem dX7_doThreshold_30 : decode cX7_doThreshold 30 = .ok (.iload_n 2, 1) := by decide +kernel
theorem dX7_doThreshold_31 : decode cX7_doThreshold 31 = .ok (.ireturn, 1) := by decide +kernel
theorem dX7_setThreshold_0 : decode cX7_setThreshold 0 = .ok (.aload_n 0, 1) := by decide +kernel
theorem dX7_setThreshold_1 : decode cX7_setThreshold 1 = .ok (.invokevirtual 117, 3) := by decide +kernel
theorem dX7_setThreshold_4 : decode cX7_setThreshold 4 = .ok (.aload_n 0, 1) := by decide +kernel
theorem dX7_setThreshold_5 : decode cX7_setThreshold 5 = .ok (.aload_n 0, 1) := by decide +kernel
theorem dX7_setThreshold_6 : decode cX7_setThreshold 6 = .ok (.iload_n 1, 1) := by decide +kernel
theorem dX7_setThreshold_7 : decode cX7_setThreshold 7 = .ok (.invokevirtual 177, 3) := by decide +kernel
theorem dX7_setThreshold_10 : decode cX7_setThreshold 10 = .ok (.invokevirtual 123, 3) := by decide +kernel
theorem dX7_setThreshold_13 : decode cX7_setThreshold 13 = .ok (.ireturn, 1) := by decide +kernel
theorem dX7_canSit_0 : decode cX7_canSit 0 = .ok (.aload_n 0, 1) := by decide +kernel
theorem dX7_canSit_1 : decode cX7_canSit 1 = .ok (.iload_n 1, 1) := by decide +kernel
theorem dX7_canSit_2 : decode cX7_canSit 2 = .ok (.iload_n 2, 1) := by decide +kernel
theorem dX7_canSit_3 : decode cX7_canSit 3 = .ok (.invokevirtual 89, 3) := by decide +kernel
theorem dX7_canSit_6 : decode cX7_canSit 6 = .ok (.ifCond .eq 16, 3) := by decide +kernel
theorem dX7_canSit_9 : decode cX7_canSit 9 = .ok (.aload_n 0, 1) := by decide +kernel
theorem dX7_canSit_10 : decode cX7_canSit 10 = .ok (.iload_n 1, 1) := by decide +kernel
theorem dX7_canSit_11 : decode cX7_canSit 11 = .ok (.iload_n 2, 1) := by decide +kernel
theorem dX7_canSit_12 : decode cX7_canSit 12 = .ok (.invokevirtual 133, 3) := by decide +kernel
theorem dX7_canSit_15 : decode cX7_canSit 15 = .ok (.ifCond .ne 7, 3) := by decide +kernel
theorem dX7_canSit_18 : decode cX7_canSit 18 = .ok (.iconst 1, 1) := by decide +kernel
theorem dX7_canSit_19 : decode cX7_canSit 19 = .ok (.goto 4, 3) := by decide +kernel
theorem dX7_canSit_22 : decode cX7_canSit 22 = .ok (.iconst 0, 1) := by decide +kernel
theorem dX7_canSit_23 : decode cX7_canSit 23 = .ok (.ireturn, 1) := by decide +kernel
theorem dX7_panels_0 : decode cX7_panels 0 = .ok (.aload_n 0, 1) := by decide +kernel
theorem dX7_panels_1 : decode cX7_panels 1 = .ok (.getfield 9, 3) := by decide +kernel
theorem dX7_panels_4 : decode cX7_panels 4 = .ok (.iconst 1, 1) := by decide +kernel
theorem dX7_panels_5 : decode cX7_panels 5 = .ok (.iaload, 1) := by decide +kernel
theorem dX7_panels_6 : decode cX7_panels 6 = .ok (.istore_n 2, 1) := by decide +kernel
theorem dX7_panels_7 : decode cX7_panels 7 = .ok (.iconst 0, 1) := by decide +kernel
theorem dX7_panels_8 : decode cX7_panels 8 = .ok (.istore_n 3, 1) := by decide +kernel
theorem dX7_panels_9 : decode cX7_panels 9 = .ok (.iconst 0, 1) := by decide +kernel
theorem dX7_panels_10 : decode cX7_panels 10 = .ok (.istore 4, 2) := by decide +kernel
theorem dX7_panels_12 : decode cX7_panels 12 = .ok (.iload 4, 2) := by decide +kernel
theorem dX7_panels_14 : decode cX7_panels 14 = .ok (.iload_n 2, 1) := by decide +kernel
theorem dX7_panels_15 : decode cX7_panels 15 = .ok (.iload_n 2, 1) := by decide +kernel
theorem dX7_panels_16 : decode cX7_panels 16 = .ok (.imul, 1) := by decide +kernel
theorem dX7_panels_17 : decode cX7_panels 17 = .ok (.iload_n 2, 1) := by decide +kernel
theorem dX7_panels_18 : decode cX7_panels 18 = .ok (.imul, 1) := by decide +kernel
theorem dX7_panels_19 : decode cX7_panels 19 = .ok (.if_icmp .ge 191, 3) := by decide +kernel
theorem dX7_panels_22 : decode cX7_panels 22 = .ok (.iload 4, 2) := by decide +kernel
theorem dX7_panels_24 : decode cX7_panels 24 = .ok (.iload_n 2, 1) := by decide +kernel
theorem dX7_panels_25 : decode cX7_panels 25 = .ok (.iload_n 2, 1) := by decide +kernel
theorem dX7_panels_26 : decode cX7_panels 26 = .ok (.imul, 1) := by decide +kernel
theorem dX7_panels_27 : decode cX7_panels 27 = .ok (.idiv, 1) := by decide +kernel
theorem dX7_panels_28 : decode cX7_panels 28 = .ok (.istore 5, 2) := by decide +kernel
theorem dX7_panels_30 : decode cX7_panels 30 = .ok (.iload 4, 2) := by decide +kernel
theorem dX7_panels_32 : decode cX7_panels 32 = .ok (.iload_n 2, 1) := by decide +kernel
theorem dX7_panels_33 : decode cX7_panels 33 = .ok (.idiv, 1) := by decide +kernel
theorem dX7_panels_34 : decode cX7_panels 34 = .ok (.iload_n 2, 1) := by decide +kernel
theorem dX7_panels_35 : decode cX7_panels 35 = .ok (.irem, 1) := by decide +kernel
theorem dX7_panels_36 : decode cX7_panels 36 = .ok (.istore 6, 2) := by decide +kernel
theorem dX7_panels_38 : decode cX7_panels 38 = .ok (.iload 4, 2) := by decide +kernel
theorem dX7_panels_40 : decode cX7_panels 40 = .ok (.iload_n 2, 1) := by decide +kernel
theorem dX7_panels_41 : decode cX7_panels 41 = .ok (.irem, 1) := by decide +kernel
theorem dX7_panels_42 : decode cX7_panels 42 = .ok (.istore 7, 2) := by decide +kernel
theorem dX7_panels_44 : decode cX7_panels 44 = .ok (.iload 5, 2) := by decide +kernel
theorem dX7_panels_46 : decode cX7_panels 46 = .ok (.iload 6, 2) := by decide +kernel
theorem dX7_panels_48 : decode cX7_panels 48 = .ok (.if_icmp .ge 44, 3) := by decide +kernel
theorem dX7_panels_51 : decode cX7_panels 51 = .ok (.iload 6, 2) := by decide +kernel
theorem dX7_panels_53 : decode cX7_panels 53 = .ok (.iload 7, 2) := by decide +kernel
theorem dX7_panels_55 : decode cX7_panels 55 = .ok (.if_icmp .ge 37, 3) := by decide +kernel
theorem dX7_panels_58 : decode cX7_panels 58 = .ok (.aload_n 0, 1) := by decide +kernel
theorem dX7_panels_59 : decode cX7_panels 59 = .ok (.iload 5, 2) := by decide +kernel
theorem dX7_panels_61 : decode cX7_panels 61 = .ok (.iload_n 1, 1) := by decide +kernel
theorem dX7_panels_62 : decode cX7_panels 62 = .ok (.invokevirtual 180, 3) := by decide +kernel
theorem dX7_panels_65 : decode cX7_panels 65 = .ok (.ifCond .eq 27, 3) := by decide +kernel
theorem dX7_panels_68 : decode cX7_panels 68 = .ok (.aload_n 0, 1) := by decide +kernel
theorem dX7_panels_69 : decode cX7_panels 69 = .ok (.iload 6, 2) := by decide +kernel
theorem dX7_panels_71 : decode cX7_panels 71 = .ok (.iload_n 1, 1) := by decide +kernel
theorem dX7_panels_72 : decode cX7_panels 72 = .ok (.invokevirtual 180, 3) := by decide +kernel
theorem dX7_panels_75 : decode cX7_panels 75 = .ok (.ifCond .eq 17, 3) := by decide +kernel
theorem dX7_panels_78 : decode cX7_panels 78 = .ok (.aload_n 0, 1) := by decide +kernel
theorem dX7_panels_79 : decode cX7_panels 79 = .ok (.iload 7, 2) := by decide +kernel
theorem dX7_panels_81 : decode cX7_panels 81 = .ok (.iload_n 1, 1) := by decide +kernel
theorem dX7_panels_82 : decode cX7_panels 82 = .ok (.invokevirtual 180, 3) := by decide +kernel
theorem dX7_panels_85 : decode cX7_panels 85 = .ok (.ifCond .eq 7, 3) := by decide +kernel
theorem dX7_panels_88 : decode cX7_panels 88 = .ok (.iconst 1, 1) := by decide +kernel
theorem dX7_panels_89 : decode cX7_panels 89 = .ok (.goto 4, 3) := by decide +kernel
theorem dX7_panels_92 : decode cX7_panels 92 = .ok (.iconst 0, 1) := by decide +kernel
theorem dX7_panels_93 : decode cX7_panels 93 = .ok (.istore 8, 2) := by decide +kernel
theorem dX7_panels_95 : decode cX7_panels 95 = .ok (.iload 8, 2) := by decide +kernel
theorem dX7_panels_97 : decode cX7_panels 97 = .ok (.ifCond .eq 58, 3) := by decide +kernel
theorem dX7_panels_100 : decode cX7_panels 100 = .ok (.aload_n 0, 1) := by decide +kernel
theorem dX7_panels_101 : decode cX7_panels 101 = .ok (.iload 5, 2) := by decide +kernel
theorem dX7_panels_103 : decode cX7_panels 103 = .ok (.iconst 0, 1) := by decide +kernel
theorem dX7_panels_104 : decode cX7_panels 104 = .ok (.invokevirtual 78, 3) := by decide +kernel
theorem dX7_panels_107 : decode cX7_panels 107 = .ok (.aload_n 0, 1) := by decide +kernel
theorem dX7_panels_108 : decode cX7_panels 108 = .ok (.iload 6, 2) := by decide +kernel
theorem dX7_panels_110 : decode cX7_panels 110 = .ok (.iconst 0, 1) := by decide +kernel
theorem dX7_panels_111 : decode cX7_panels 111 = .ok (.invokevirtual 78, 3) := by decide +kernel
theorem dX7_panels_114 : decode cX7_panels 114 = .ok (.if_icmp .eq 41, 3) := by decide +kernel
theorem dX7_panels_117 : decode cX7_panels 117 = .ok (.aload_n 0, 1) := by decide +kernel
theorem dX7_panels_118 : decode cX7_panels 118 = .ok (.iload 5, 2) := by decide +kernel
theorem dX7_panels_120 : decode cX7_panels 120 = .ok (.iconst 0, 1) := by decide +kernel
theorem dX7_panels_121 : decode cX7_panels 121 = .ok (.invokevirtual 78, 3) := by decide +kernel
theorem dX7_panels_124 : decode cX7_panels 124 = .ok (.aload_n 0, 1) := by decide +kernel
theorem dX7_panels_125 : decode cX7_panels 125 = .ok (.iload 7, 2) := by decide +kernel
theorem dX7_panels_127 : decode cX7_panels 127 = .ok (.iconst 0, 1) := by decide +kernel
theorem dX7_panels_128 : decode cX7_panels 128 = .ok (.invokevirtual 78, 3) := by decide +kernel
theorem dX7_panels_131 : decode cX7_panels 131 = .ok (.if_icmp .eq 24, 3) := by decide +kernel
theorem dX7_panels_134 : decode cX7_panels 134 = .ok (.aload_n 0, 1) := by decide +kernel
theorem dX7_panels_135 : decode cX7_panels 135 = .ok (.iload 6, 2) := by decide +kernel
theorem dX7_panels_137 : decode cX7_panels 137 = .ok (.iconst 0, 1) := by decide +kernel
theorem dX7_panels_138 : decode cX7_panels 138 = .ok (.invokevirtual 78, 3) := by decide +kernel
theorem dX7_panels_141 : decode cX7_panels 141 = .ok (.aload_n 0, 1) := by decide +kernel
theorem dX7_panels_142 : decode cX7_panels 142 = .ok (.iload 7, 2) := by decide +kernel
theorem dX7_panels_144 : decode cX7_panels 144 = .ok (.iconst 0, 1) := by decide +kernel
theorem dX7_panels_145 : decode cX7_panels 145 = .ok (.invokevirtual 78, 3) := by decide +kernel
theorem dX7_panels_148 : decode cX7_panels 148 = .ok (.if_icmp .eq 7, 3) := by decide +kernel
theorem dX7_panels_151 : decode cX7_panels 151 = .ok (.iconst 1, 1) := by decide +kernel
theorem dX7_panels_152 : decode cX7_panels 152 = .ok (.goto 4, 3) := by decide +kernel
theorem dX7_panels_155 : decode cX7_panels 155 = .ok (.iconst 0, 1) := by decide +kernel
theorem dX7_panels_156 : decode cX7_panels 156 = .ok (.istore 8, 2) := by decide +kernel
theorem dX7_panels_158 : decode cX7_panels 158 = .ok (.iload 8, 2) := by decide +kernel
theorem dX7_panels_160 : decode cX7_panels 160 = .ok (.ifCond .eq 31, 3) := by decide +kernel
theorem dX7_panels_163 : decode cX7_panels 163 = .ok (.iload_n 3, 1) := by decide +kernel
theorem dX7_panels_164 : decode cX7_panels 164 = .ok (.ifCond .ne 27, 3) := by decide +kernel
theorem dX7_panels_167 : decode cX7_panels 167 = .ok (.aload_n 0, 1) := by decide +kernel
theorem dX7_panels_168 : decode cX7_panels 168 = .ok (.getfield 35, 3) := by decide +kernel
theorem dX7_panels_171 : decode cX7_panels 171 = .ok (.iconst 0, 1) := by decide +kernel
theorem dX7_panels_172 : decode cX7_panels 172 = .ok (.iload 5, 2) := by decide +kernel
theorem dX7_panels_174 : decode cX7_panels 174 = .ok (.iastore, 1) := by decide +kernel
theorem dX7_panels_175 : decode cX7_panels 175 = .ok (.aload_n 0, 1) := by decide +kernel
theorem dX7_panels_176 : decode cX7_panels 176 = .ok (.getfield 35, 3) := by decide +kernel
theorem dX7_panels_179 : decode cX7_panels 179 = .ok (.iconst 1, 1) := by decide +kernel
theorem dX7_panels_180 : decode cX7_panels 180 = .ok (.iload 6, 2) := by decide +kernel
theorem dX7_panels_182 : decode cX7_panels 182 = .ok (.iastore, 1) := by decide +kernel
theorem dX7_panels_183 : decode cX7_panels 183 = .ok (.aload_n 0, 1) := by decide +kernel
theorem dX7_panels_184 : decode cX7_panels 184 = .ok (.getfield 35, 3) := by decide +kernel
theorem dX7_panels_187 : decode cX7_panels 187 = .ok (.iconst 2, 1) := by decide +kernel
theorem dX7_panels_188 : decode cX7_panels 188 = .ok (.iload 7, 2) := by decide +kernel
theorem dX7_panels_190 : decode cX7_panels 190 = .ok (.iastore, 1) := by decide +kernel
theorem dX7_panels_191 : decode cX7_panels 191 = .ok (.iload_n 3, 1) := by decide +kernel
theorem dX7_panels_192 : decode cX7_panels 192 = .ok (.iload 8, 2) := by decide +kernel
theorem dX7_panels_194 : decode cX7_panels 194 = .ok (.ifCond .eq 7, 3) := by decide +kernel
theorem dX7_panels_197 : decode cX7_panels 197 = .ok (.iconst 1, 1) := by decide +kernel
theorem dX7_panels_198 : decode cX7_panels 198 = .ok (.goto 4, 3) := by decide +kernel
theorem dX7_panels_201 : decode cX7_panels 201 = .ok (.iconst 0, 1) := by decide +kernel
theorem dX7_panels_202 : decode cX7_panels 202 = .ok (.iadd, 1) := by decide +kernel
theorem dX7_panels_203 : decode cX7_panels 203 = .ok (.istore_n 3, 1) := by decide +kernel
theorem dX7_panels_204 : decode cX7_panels 204 = .ok (.iinc 4 1, 3) := by decide +kernel
theorem dX7_panels_207 : decode cX7_panels 207 = .ok (.goto (-195), 3) := by decide +kernel
theorem dX7_panels_210 : decode cX7_panels 210 = .ok (.iload_n 3, 1) := by decide +kernel
theorem dX7_panels_211 : decode cX7_panels 211 = .ok (.ireturn, 1) := by decide +kernel
theorem dX7_doAppeal_0 : decode cX7_doAppeal 0 = .ok (.aload_n 0, 1) := by decide +kernel
theorem dX7_doAppeal_1 : decode cX7_doAppeal 1 = .ok (.iload_n 1, 1) := by decide +kernel
theorem dX7_doAppeal_2 : decode cX7_doAppeal 2 = .ok (.invokevirtual 75, 3) := by decide +kernel
theorem dX7_doAppeal_5 : decode cX7_doAppeal 5 = .ok (.ifCond .ne 9, 3) := by decide +kernel
theorem dX7_doAppeal_8 : decode cX7_doAppeal 8 = .ok (.aload_n 0, 1) := by decide +kernel
theorem dX7_doAppeal_9 : decode cX7_doAppeal 9 = .ok (.iconst 1, 1) := by decide +kernel
theorem dX7_doAppeal_10 : decode cX7_doAppeal 10 = .ok (.invokevirtual 114, 3) := by decide +kernel
theorem dX7_doAppeal_13 : decode cX7_doAppeal 13 = .ok (.ireturn, 1) := by decide +kernel
theorem dX7_doAppeal_14 : decode cX7_doAppeal 14 = .ok (.aload_n 0, 1) := by decide +kernel
theorem dX7_doAppeal_15 : decode cX7_doAppeal 15 = .ok (.iload_n 1, 1) := by decide +kernel
theorem dX7_doAppeal_16 : decode cX7_doAppeal 16 = .ok (.invokevirtual 105, 3) := by decide +kernel
theorem dX7_doAppeal_19 : decode cX7_doAppeal 19 = .ok (.istore_n 2, 1) := by decide +kernel
theorem dX7_doAppeal_20 : decode cX7_doAppeal 20 = .ok (.iload_n 2, 1) := by decide +kernel
theorem dX7_doAppeal_21 : decode cX7_doAppeal 21 = .ok (.ifCond .lt 21, 3) := by decide +kernel
theorem dX7_doAppeal_24 : decode cX7_doAppeal 24 = .ok (.aload_n 0, 1) := by decide +kernel
theorem dX7_doAppeal_25 : decode cX7_doAppeal 25 = .ok (.iload_n 1, 1) := by decide +kernel
theorem dX7_doAppeal_26 : decode cX7_doAppeal 26 = .ok (.invokevirtual 108, 3) := by decide +kernel
theorem dX7_doAppeal_29 : decode cX7_doAppeal 29 = .ok (.ifCond .ne 13, 3) := by decide +kernel
theorem dX7_doAppeal_32 : decode cX7_doAppeal 32 = .ok (.aload_n 0, 1) := by decide +kernel
theorem dX7_doAppeal_33 : decode cX7_doAppeal 33 = .ok (.iload_n 1, 1) := by decide +kernel
theorem dX7_doAppeal_34 : decode cX7_doAppeal 34 = .ok (.iconst 2, 1) := by decide +kernel
theorem dX7_doAppeal_35 : decode cX7_doAppeal 35 = .ok (.invokevirtual 82, 3) := by decide +kernel
theorem dX7_doAppeal_38 : decode cX7_doAppeal 38 = .ok (.iconst 1, 1) := by decide +kernel
theorem dX7_doAppeal_39 : decode cX7_doAppeal 39 = .ok (.if_icmp .ne 9, 3) := by decide +kernel
theorem dX7_doAppeal_42 : decode cX7_doAppeal 42 = .ok (.aload_n 0, 1) := by decide +kernel
theorem dX7_doAppeal_43 : decode cX7_doAppeal 43 = .ok (.iconst 2, 1) := by decide +kernel
theorem dX7_doAppeal_44 : decode cX7_doAppeal 44 = .ok (.invokevirtual 114, 3) := by decide +kernel
theorem dX7_doAppeal_47 : decode cX7_doAppeal 47 = .ok (.ireturn, 1) := by decide +kernel
theorem dX7_doAppeal_48 : decode cX7_doAppeal 48 = .ok (.aload_n 0, 1) := by decide +kernel
theorem dX7_doAppeal_49 : decode cX7_doAppeal 49 = .ok (.iload_n 1, 1) := by decide +kernel
theorem dX7_doAppeal_50 : decode cX7_doAppeal 50 = .ok (.invokevirtual 183, 3) := by decide +kernel
theorem dX7_doAppeal_53 : decode cX7_doAppeal 53 = .ok (.ifCond .ne 9, 3) := by decide +kernel
theorem dX7_doAppeal_56 : decode cX7_doAppeal 56 = .ok (.aload_n 0, 1) := by decide +kernel
theorem dX7_doAppeal_57 : decode cX7_doAppeal 57 = .ok (.iconst 3, 1) := by decide +kernel
theorem dX7_doAppeal_58 : decode cX7_doAppeal 58 = .ok (.invokevirtual 114, 3) := by decide +kernel
theorem dX7_doAppeal_61 : decode cX7_doAppeal 61 = .ok (.ireturn, 1) := by decide +kernel
theorem dX7_doAppeal_62 : decode cX7_doAppeal 62 = .ok (.iconst 0, 1) := by decide +kernel
theorem dX7_doAppeal_63 : decode cX7_doAppeal 63 = .ok (.istore_n 3, 1) := by decide +kernel
theorem dX7_doAppeal_64 : decode cX7_doAppeal 64 = .ok (.aload_n 0, 1) := by decide +kernel
theorem dX7_doAppeal_65 : decode cX7_doAppeal 65 = .ok (.getfield 35, 3) := by decide +kernel
theorem dX7_doAppeal_68 : decode cX7_doAppeal 68 = .ok (.astore 4, 2) := by decide +kernel
theorem dX7_doAppeal_70 : decode cX7_doAppeal 70 = .ok (.aload 4, 2) := by decide +kernel
theorem dX7_doAppeal_72 : decode cX7_doAppeal 72 = .ok (.arraylength, 1) := by decide +kernel
theorem dX7_doAppeal_73 : decode cX7_doAppeal 73 = .ok (.istore 5, 2) := by decide +kernel
theorem dX7_doAppeal_75 : decode cX7_doAppeal 75 = .ok (.iconst 0, 1) := by decide +kernel
theorem dX7_doAppeal_76 : decode cX7_doAppeal 76 = .ok (.istore 6, 2) := by decide +kernel
theorem dX7_doAppeal_78 : decode cX7_doAppeal 78 = .ok (.iload 6, 2) := by decide +kernel
theorem dX7_doAppeal_80 : decode cX7_doAppeal 80 = .ok (.iload 5, 2) := by decide +kernel
theorem dX7_doAppeal_82 : decode cX7_doAppeal 82 = .ok (.if_icmp .ge 42, 3) := by decide +kernel
theorem dX7_doAppeal_85 : decode cX7_doAppeal 85 = .ok (.aload 4, 2) := by decide +kernel
theorem dX7_doAppeal_87 : decode cX7_doAppeal 87 = .ok (.iload 6, 2) := by decide +kernel
theorem dX7_doAppeal_89 : decode cX7_doAppeal 89 = .ok (.iaload, 1) := by decide +kernel
theorem dX7_doAppeal_90 : decode cX7_doAppeal 90 = .ok (.istore 7, 2) := by decide +kernel
theorem dX7_doAppeal_92 : decode cX7_doAppeal 92 = .ok (.iload_n 3, 1) := by decide +kernel
theorem dX7_doAppeal_93 : decode cX7_doAppeal 93 = .ok (.aload_n 0, 1) := by decide +kernel
theorem dX7_doAppeal_94 : decode cX7_doAppeal 94 = .ok (.iload 7, 2) := by decide +kernel
theorem dX7_doAppeal_96 : decode cX7_doAppeal 96 = .ok (.iconst 3, 1) := by decide +kernel
theorem dX7_doAppeal_97 : decode cX7_doAppeal 97 = .ok (.invokevirtual 78, 3) := by decide +kernel
theorem dX7_doAppeal_100 : decode cX7_doAppeal 100 = .ok (.aload_n 0, 1) := by decide +kernel
theorem dX7_doAppeal_101 : decode cX7_doAppeal 101 = .ok (.getfield 9, 3) := by decide +kernel
theorem dX7_doAppeal_104 : decode cX7_doAppeal 104 = .ok (.iconst 2, 1) := by decide +kernel
theorem dX7_doAppeal_105 : decode cX7_doAppeal 105 = .ok (.iaload, 1) := by decide +kernel
theorem dX7_doAppeal_106 : decode cX7_doAppeal 106 = .ok (.iload_n 2, 1) := by decide +kernel
theorem dX7_doAppeal_107 : decode cX7_doAppeal 107 = .ok (.isub, 1) := by decide +kernel
theorem dX7_doAppeal_108 : decode cX7_doAppeal 108 = .ok (.if_icmp .lt 7, 3) := by decide +kernel
theorem dX7_doAppeal_111 : decode cX7_doAppeal 111 = .ok (.iconst 1, 1) := by decide +kernel
theorem dX7_doAppeal_112 : decode cX7_doAppeal 112 = .ok (.goto 4, 3) := by decide +kernel
theorem dX7_doAppeal_115 : decode cX7_doAppeal 115 = .ok (.iconst 0, 1) := by decide +kernel
theorem dX7_doAppeal_116 : decode cX7_doAppeal 116 = .ok (.iadd, 1) := by decide +kernel
theorem dX7_doAppeal_117 : decode cX7_doAppeal 117 = .ok (.istore_n 3, 1) := by decide +kernel
theorem dX7_doAppeal_118 : decode cX7_doAppeal 118 = .ok (.iinc 6 1, 3) := by decide +kernel
theorem dX7_doAppeal_121 : decode cX7_doAppeal 121 = .ok (.goto (-43), 3) := by decide +kernel
theorem dX7_doAppeal_124 : decode cX7_doAppeal 124 = .ok (.aload_n 0, 1) := by decide +kernel
theorem dX7_doAppeal_125 : decode cX7_doAppeal 125 = .ok (.getfield 9, 3) := by decide +kernel
theorem dX7_doAppeal_128 : decode cX7_doAppeal 128 = .ok (.iconst 4, 1) := by decide +kernel
theorem dX7_doAppeal_129 : decode cX7_doAppeal 129 = .ok (.iconst 5, 1) := by decide +kernel
theorem dX7_doAppeal_130 : decode cX7_doAppeal 130 = .ok (.iload_n 1, 1) := by decide +kernel
theorem dX7_doAppeal_131 : decode cX7_doAppeal 131 = .ok (.imul, 1) := by decide +kernel
theorem dX7_doAppeal_132 : decode cX7_doAppeal 132 = .ok (.iadd, 1) := by decide +kernel
theorem dX7_doAppeal_133 : decode cX7_doAppeal 133 = .ok (.iconst 2, 1) := by decide +kernel
theorem dX7_doAppeal_134 : decode cX7_doAppeal 134 = .ok (.iadd, 1) := by decide +kernel
theorem dX7_doAppeal_135 : decode cX7_doAppeal 135 = .ok (.iconst 1, 1) := by decide +kernel
theorem dX7_doAppeal_136 : decode cX7_doAppeal 136 = .ok (.iastore, 1) := by decide +kernel
theorem dX7_doAppeal_137 : decode cX7_doAppeal 137 = .ok (.aload_n 0, 1) := by decide +kernel
theorem dX7_doAppeal_138 : decode cX7_doAppeal 138 = .ok (.getfield 9, 3) := by decide +kernel
theorem dX7_doAppeal_141 : decode cX7_doAppeal 141 = .ok (.iconst 4, 1) := by decide +kernel
theorem dX7_doAppeal_142 : decode cX7_doAppeal 142 = .ok (.iconst 5, 1) := by decide +kernel
theorem dX7_doAppeal_143 : decode cX7_doAppeal 143 = .ok (.iload_n 1, 1) := by decide +kernel
theorem dX7_doAppeal_144 : decode cX7_doAppeal 144 = .ok (.imul, 1) := by decide +kernel
theorem dX7_doAppeal_145 : decode cX7_doAppeal 145 = .ok (.iadd, 1) := by decide +kernel
theorem dX7_doAppeal_146 : decode cX7_doAppeal 146 = .ok (.iconst 3, 1) := by decide +kernel
theorem dX7_doAppeal_147 : decode cX7_doAppeal 147 = .ok (.iadd, 1) := by decide +kernel
theorem dX7_doAppeal_148 : decode cX7_doAppeal 148 = .ok (.iload_n 3, 1) := by decide +kernel
theorem dX7_doAppeal_149 : decode cX7_doAppeal 149 = .ok (.iconst 2, 1) := by decide +kernel
theorem dX7_doAppeal_150 : decode cX7_doAppeal 150 = .ok (.if_icmp .lt 7, 3) := by decide +kernel
theorem dX7_doAppeal_153 : decode cX7_doAppeal 153 = .ok (.iconst 1, 1) := by decide +kernel
theorem dX7_doAppeal_154 : decode cX7_doAppeal 154 = .ok (.goto 4, 3) := by decide +kernel
theorem dX7_doAppeal_157 : decode cX7_doAppeal 157 = .ok (.iconst 0, 1) := by decide +kernel
theorem dX7_doAppeal_158 : decode cX7_doAppeal 158 = .ok (.iastore, 1) := by decide +kernel
theorem dX7_doAppeal_159 : decode cX7_doAppeal 159 = .ok (.iload_n 3, 1) := by decide +kernel
theorem dX7_doAppeal_160 : decode cX7_doAppeal 160 = .ok (.ireturn, 1) := by decide +kernel
theorem dX7_appeal_0 : decode cX7_appeal 0 = .ok (.aload_n 0, 1) := by decide +kernel
theorem dX7_appeal_1 : decode cX7_appeal 1 = .ok (.invokevirtual 117, 3) := by decide +kernel
theorem dX7_appeal_4 : decode cX7_appeal 4 = .ok (.aload_n 0, 1) := by decide +kernel
theorem dX7_appeal_5 : decode cX7_appeal 5 = .ok (.aload_n 0, 1) := by decide +kernel
theorem dX7_appeal_6 : decode cX7_appeal 6 = .ok (.iload_n 1, 1) := by decide +kernel
theorem dX7_appeal_7 : decode cX7_appeal 7 = .ok (.invokevirtual 186, 3) := by decide +kernel
theorem dX7_appeal_10 : decode cX7_appeal 10 = .ok (.invokevirtual 123, 3) := by decide +kernel
theorem dX7_appeal_13 : decode cX7_appeal 13 = .ok (.ireturn, 1) := by decide +kernel
theorem dX7_doAward_0 : decode cX7_doAward 0 = .ok (.aload_n 0, 1) := by decide +kernel
theorem dX7_doAward_1 : decode cX7_doAward 1 = .ok (.iload_n 1, 1) := by decide +kernel
theorem dX7_doAward_2 : decode cX7_doAward 2 = .ok (.invokevirtual 75, 3) := by decide +kernel
theorem dX7_doAward_5 : decode cX7_doAward 5 = .ok (.ifCond .ne 9, 3) := by decide +kernel
theorem dX7_doAward_8 : decode cX7_doAward 8 = .ok (.aload_n 0, 1) := by decide +kernel
theorem dX7_doAward_9 : decode cX7_doAward 9 = .ok (.iconst 1, 1) := by decide +kernel
theorem dX7_doAward_10 : decode cX7_doAward 10 = .ok (.invokevirtual 114, 3) := by decide +kernel
theorem dX7_doAward_13 : decode cX7_doAward 13 = .ok (.ireturn, 1) := by decide +kernel
theorem dX7_doAward_14 : decode cX7_doAward 14 = .ok (.aload_n 0, 1) := by decide +kernel
theorem dX7_doAward_15 : decode cX7_doAward 15 = .ok (.iload_n 1, 1) := by decide +kernel
theorem dX7_doAward_16 : decode cX7_doAward 16 = .ok (.iconst 4, 1) := by decide +kernel
theorem dX7_doAward_17 : decode cX7_doAward 17 = .ok (.invokevirtual 82, 3) := by decide +kernel
theorem dX7_doAward_20 : decode cX7_doAward 20 = .ok (.ifCond .le 9, 3) := by decide +kernel
theorem dX7_doAward_23 : decode cX7_doAward 23 = .ok (.aload_n 0, 1) := by decide +kernel
theorem dX7_doAward_24 : decode cX7_doAward 24 = .ok (.iconst 2, 1) := by decide +kernel
theorem dX7_doAward_25 : decode cX7_doAward 25 = .ok (.invokevirtual 114, 3) := by decide +kernel
theorem dX7_doAward_28 : decode cX7_doAward 28 = .ok (.ireturn, 1) := by decide +kernel
theorem dX7_doAward_29 : decode cX7_doAward 29 = .ok (.aload_n 0, 1) := by decide +kernel
theorem dX7_doAward_30 : decode cX7_doAward 30 = .ok (.iload_n 1, 1) := by decide +kernel
theorem dX7_doAward_31 : decode cX7_doAward 31 = .ok (.invokevirtual 189, 3) := by decide +kernel
theorem dX7_doAward_34 : decode cX7_doAward 34 = .ok (.ifCond .ne 9, 3) := by decide +kernel
theorem dX7_doAward_37 : decode cX7_doAward 37 = .ok (.aload_n 0, 1) := by decide +kernel
theorem dX7_doAward_38 : decode cX7_doAward 38 = .ok (.iconst 3, 1) := by decide +kernel
theorem dX7_doAward_39 : decode cX7_doAward 39 = .ok (.invokevirtual 114, 3) := by decide +kernel
theorem dX7_doAward_42 : decode cX7_doAward 42 = .ok (.ireturn, 1) := by decide +kernel
theorem dX7_doAward_43 : decode cX7_doAward 43 = .ok (.aload_n 0, 1) := by decide +kernel
theorem dX7_doAward_44 : decode cX7_doAward 44 = .ok (.getfield 9, 3) := by decide +kernel
theorem dX7_doAward_47 : decode cX7_doAward 47 = .ok (.iconst 3, 1) := by decide +kernel
theorem dX7_doAward_48 : decode cX7_doAward 48 = .ok (.iaload, 1) := by decide +kernel
theorem dX7_doAward_49 : decode cX7_doAward 49 = .ok (.istore_n 2, 1) := by decide +kernel
theorem dX7_doAward_50 : decode cX7_doAward 50 = .ok (.aload_n 0, 1) := by decide +kernel
theorem dX7_doAward_51 : decode cX7_doAward 51 = .ok (.getfield 9, 3) := by decide +kernel
theorem dX7_doAward_54 : decode cX7_doAward 54 = .ok (.sipush 212, 3) := by decide +kernel
theorem dX7_doAward_57 : decode cX7_doAward 57 = .ok (.iconst 2, 1) := by decide +kernel
theorem dX7_doAward_58 : decode cX7_doAward 58 = .ok (.iload_n 2, 1) := by decide +kernel
theorem dX7_doAward_59 : decode cX7_doAward 59 = .ok (.imul, 1) := by decide +kernel
theorem dX7_doAward_60 : decode cX7_doAward 60 = .ok (.iadd, 1) := by decide +kernel
theorem dX7_doAward_61 : decode cX7_doAward 61 = .ok (.iload_n 1, 1) := by decide +kernel
theorem dX7_doAward_62 : decode cX7_doAward 62 = .ok (.iastore, 1) := by decide +kernel
theorem dX7_doAward_63 : decode cX7_doAward 63 = .ok (.aload_n 0, 1) := by decide +kernel
theorem dX7_doAward_64 : decode cX7_doAward 64 = .ok (.getfield 9, 3) := by decide +kernel
theorem dX7_doAward_67 : decode cX7_doAward 67 = .ok (.sipush 212, 3) := by decide +kernel
theorem dX7_doAward_70 : decode cX7_doAward 70 = .ok (.iconst 2, 1) := by decide +kernel
theorem dX7_doAward_71 : decode cX7_doAward 71 = .ok (.iload_n 2, 1) := by decide +kernel
theorem dX7_doAward_72 : decode cX7_doAward 72 = .ok (.imul, 1) := by decide +kernel
theorem dX7_doAward_73 : decode cX7_doAward 73 = .ok (.iadd, 1) := by decide +kernel
theorem dX7_doAward_74 : decode cX7_doAward 74 = .ok (.iconst 1, 1) := by decide +kernel
theorem dX7_doAward_75 : decode cX7_doAward 75 = .ok (.iadd, 1) := by decide +kernel
theorem dX7_doAward_76 : decode cX7_doAward 76 = .ok (.iconst 0, 1) := by decide +kernel
theorem dX7_doAward_77 : decode cX7_doAward 77 = .ok (.iastore, 1) := by decide +kernel
theorem dX7_doAward_78 : decode cX7_doAward 78 = .ok (.aload_n 0, 1) := by decide +kernel
theorem dX7_doAward_79 : decode cX7_doAward 79 = .ok (.getfield 9, 3) := by decide +kernel
theorem dX7_doAward_82 : decode cX7_doAward 82 = .ok (.iconst 3, 1) := by decide +kernel
theorem dX7_doAward_83 : decode cX7_doAward 83 = .ok (.dup2, 1) := by decide +kernel
theorem dX7_doAward_84 : decode cX7_doAward 84 = .ok (.iaload, 1) := by decide +kernel
theorem dX7_doAward_85 : decode cX7_doAward 85 = .ok (.iconst 1, 1) := by decide +kernel
theorem dX7_doAward_86 : decode cX7_doAward 86 = .ok (.iadd, 1) := by decide +kernel
theorem dX7_doAward_87 : decode cX7_doAward 87 = .ok (.iastore, 1) := by decide +kernel
theorem dX7_doAward_88 : decode cX7_doAward 88 = .ok (.aload_n 0, 1) := by decide +kernel
theorem dX7_doAward_89 : decode cX7_doAward 89 = .ok (.getfield 9, 3) := by decide +kernel
theorem dX7_doAward_92 : decode cX7_doAward 92 = .ok (.iconst 4, 1) := by decide +kernel
theorem dX7_doAward_93 : decode cX7_doAward 93 = .ok (.iconst 5, 1) := by decide +kernel
theorem dX7_doAward_94 : decode cX7_doAward 94 = .ok (.iload_n 1, 1) := by decide +kernel
theorem dX7_doAward_95 : decode cX7_doAward 95 = .ok (.imul, 1) := by decide +kernel
theorem dX7_doAward_96 : decode cX7_doAward 96 = .ok (.iadd, 1) := by decide +kernel
theorem dX7_doAward_97 : decode cX7_doAward 97 = .ok (.iconst 4, 1) := by decide +kernel
theorem dX7_doAward_98 : decode cX7_doAward 98 = .ok (.iadd, 1) := by decide +kernel
theorem dX7_doAward_99 : decode cX7_doAward 99 = .ok (.iload_n 2, 1) := by decide +kernel
theorem dX7_doAward_100 : decode cX7_doAward 100 = .ok (.iconst 1, 1) := by decide +kernel
theorem dX7_doAward_101 : decode cX7_doAward 101 = .ok (.iadd, 1) := by decide +kernel
theorem dX7_doAward_102 : decode cX7_doAward 102 = .ok (.iastore, 1) := by decide +kernel
theorem dX7_doAward_103 : decode cX7_doAward 103 = .ok (.iload_n 2, 1) := by decide +kernel
theorem dX7_doAward_104 : decode cX7_doAward 104 = .ok (.iconst 1, 1) := by decide +kernel
theorem dX7_doAward_105 : decode cX7_doAward 105 = .ok (.iadd, 1) := by decide +kernel
theorem dX7_doAward_106 : decode cX7_doAward 106 = .ok (.ireturn, 1) := by decide +kernel
theorem dX7_award_0 : decode cX7_award 0 = .ok (.aload_n 0, 1) := by decide +kernel
theorem dX7_award_1 : decode cX7_award 1 = .ok (.invokevirtual 117, 3) := by decide +kernel
theorem dX7_award_4 : decode cX7_award 4 = .ok (.aload_n 0, 1) := by decide +kernel
theorem dX7_award_5 : decode cX7_award 5 = .ok (.aload_n 0, 1) := by decide +kernel
theorem dX7_award_6 : decode cX7_award 6 = .ok (.iload_n 1, 1) := by decide +kernel
theorem dX7_award_7 : decode cX7_award 7 = .ok (.invokevirtual 192, 3) := by decide +kernel
theorem dX7_award_10 : decode cX7_award 10 = .ok (.invokevirtual 123, 3) := by decide +kernel
theorem dX7_award_13 : decode cX7_award 13 = .ok (.ireturn, 1) := by decide +kernel
theorem dX7_isEntry_0 : decode cX7_isEntry 0 = .ok (.iload_n 1, 1) := by decide +kernel
theorem dX7_isEntry_1 : decode cX7_isEntry 1 = .ok (.iconst 1, 1) := by decide +kernel
theorem dX7_isEntry_2 : decode cX7_isEntry 2 = .ok (.aload_n 0, 1) := by decide +kernel
theorem dX7_isEntry_3 : decode cX7_isEntry 3 = .ok (.getfield 9, 3) := by decide +kernel
theorem dX7_isEntry_6 : decode cX7_isEntry 6 = .ok (.iconst 3, 1) := by decide +kernel
theorem dX7_isEntry_7 : decode cX7_isEntry 7 = .ok (.iaload, 1) := by decide +kernel
theorem dX7_isEntry_8 : decode cX7_isEntry 8 = .ok (.invokestatic 67, 3) := by decide +kernel
theorem dX7_isEntry_11 : decode cX7_isEntry 11 = .ok (.ireturn, 1) := by decide +kernel
theorem dX7_revoked_0 : decode cX7_revoked 0 = .ok (.aload_n 0, 1) := by decide +kernel
theorem dX7_revoked_1 : decode cX7_revoked 1 = .ok (.getfield 9, 3) := by decide +kernel
theorem dX7_revoked_4 : decode cX7_revoked 4 = .ok (.sipush 212, 3) := by decide +kernel
theorem dX7_revoked_7 : decode cX7_revoked 7 = .ok (.iconst 2, 1) := by decide +kernel
theorem dX7_revoked_8 : decode cX7_revoked 8 = .ok (.iload_n 1, 1) := by decide +kernel
theorem dX7_revoked_9 : decode cX7_revoked 9 = .ok (.imul, 1) := by decide +kernel
theorem dX7_revoked_10 : decode cX7_revoked 10 = .ok (.iadd, 1) := by decide +kernel
theorem dX7_revoked_11 : decode cX7_revoked 11 = .ok (.iconst 1, 1) := by decide +kernel
theorem dX7_revoked_12 : decode cX7_revoked 12 = .ok (.isub, 1) := by decide +kernel
theorem dX7_revoked_13 : decode cX7_revoked 13 = .ok (.iaload, 1) := by decide +kernel
theorem dX7_revoked_14 : decode cX7_revoked 14 = .ok (.iconst 1, 1) := by decide +kernel
theorem dX7_revoked_15 : decode cX7_revoked 15 = .ok (.if_icmp .ne 7, 3) := by decide +kernel
theorem dX7_revoked_18 : decode cX7_revoked 18 = .ok (.iconst 1, 1) := by decide +kernel
theorem dX7_revoked_19 : decode cX7_revoked 19 = .ok (.goto 4, 3) := by decide +kernel
theorem dX7_revoked_22 : decode cX7_revoked 22 = .ok (.iconst 0, 1) := by decide +kernel
theorem dX7_revoked_23 : decode cX7_revoked 23 = .ok (.ireturn, 1) := by decide +kernel
theorem dX7_doRevoke_0 : decode cX7_doRevoke 0 = .ok (.aload_n 0, 1) := by decide +kernel
theorem dX7_doRevoke_1 : decode cX7_doRevoke 1 = .ok (.iload_n 1, 1) := by decide +kernel
theorem dX7_doRevoke_2 : decode cX7_doRevoke 2 = .ok (.invokevirtual 195, 3) := by decide +kernel
theorem dX7_doRevoke_5 : decode cX7_doRevoke 5 = .ok (.ifCond .ne 9, 3) := by decide +kernel
theorem dX7_doRevoke_8 : decode cX7_doRevoke 8 = .ok (.aload_n 0, 1) := by decide +kernel
theorem dX7_doRevoke_9 : decode cX7_doRevoke 9 = .ok (.iconst 1, 1) := by decide +kernel
theorem dX7_doRevoke_10 : decode cX7_doRevoke 10 = .ok (.invokevirtual 114, 3) := by decide +kernel
theorem dX7_doRevoke_13 : decode cX7_doRevoke 13 = .ok (.ireturn, 1) := by decide +kernel
theorem dX7_doRevoke_14 : decode cX7_doRevoke 14 = .ok (.aload_n 0, 1) := by decide +kernel
theorem dX7_doRevoke_15 : decode cX7_doRevoke 15 = .ok (.iload_n 1, 1) := by decide +kernel
theorem dX7_doRevoke_16 : decode cX7_doRevoke 16 = .ok (.invokevirtual 198, 3) := by decide +kernel
theorem dX7_doRevoke_19 : decode cX7_doRevoke 19 = .ok (.ifCond .eq 9, 3) := by decide +kernel
theorem dX7_doRevoke_22 : decode cX7_doRevoke 22 = .ok (.aload_n 0, 1) := by decide +kernel
theorem dX7_doRevoke_23 : decode cX7_doRevoke 23 = .ok (.iconst 2, 1) := by decide +kernel
theorem dX7_doRevoke_24 : decode cX7_doRevoke 24 = .ok (.invokevirtual 114, 3) := by decide +kernel
theorem dX7_doRevoke_27 : decode cX7_doRevoke 27 = .ok (.ireturn, 1) := by decide +kernel
theorem dX7_doRevoke_28 : decode cX7_doRevoke 28 = .ok (.aload_n 0, 1) := by decide +kernel
theorem dX7_doRevoke_29 : decode cX7_doRevoke 29 = .ok (.getfield 9, 3) := by decide +kernel
theorem dX7_doRevoke_32 : decode cX7_doRevoke 32 = .ok (.sipush 212, 3) := by decide +kernel
theorem dX7_doRevoke_35 : decode cX7_doRevoke 35 = .ok (.iconst 2, 1) := by decide +kernel
theorem dX7_doRevoke_36 : decode cX7_doRevoke 36 = .ok (.iload_n 1, 1) := by decide +kernel
theorem dX7_doRevoke_37 : decode cX7_doRevoke 37 = .ok (.imul, 1) := by decide +kernel
theorem dX7_doRevoke_38 : decode cX7_doRevoke 38 = .ok (.iadd, 1) := by decide +kernel
theorem dX7_doRevoke_39 : decode cX7_doRevoke 39 = .ok (.iconst 1, 1) := by decide +kernel
theorem dX7_doRevoke_40 : decode cX7_doRevoke 40 = .ok (.isub, 1) := by decide +kernel
theorem dX7_doRevoke_41 : decode cX7_doRevoke 41 = .ok (.iconst 1, 1) := by decide +kernel
theorem dX7_doRevoke_42 : decode cX7_doRevoke 42 = .ok (.iastore, 1) := by decide +kernel
theorem dX7_doRevoke_43 : decode cX7_doRevoke 43 = .ok (.aload_n 0, 1) := by decide +kernel
theorem dX7_doRevoke_44 : decode cX7_doRevoke 44 = .ok (.getfield 9, 3) := by decide +kernel
theorem dX7_doRevoke_47 : decode cX7_doRevoke 47 = .ok (.sipush 212, 3) := by decide +kernel
theorem dX7_doRevoke_50 : decode cX7_doRevoke 50 = .ok (.iconst 2, 1) := by decide +kernel
theorem dX7_doRevoke_51 : decode cX7_doRevoke 51 = .ok (.iload_n 1, 1) := by decide +kernel
theorem dX7_doRevoke_52 : decode cX7_doRevoke 52 = .ok (.imul, 1) := by decide +kernel
theorem dX7_doRevoke_53 : decode cX7_doRevoke 53 = .ok (.iadd, 1) := by decide +kernel
theorem dX7_doRevoke_54 : decode cX7_doRevoke 54 = .ok (.iconst 2, 1) := by decide +kernel
theorem dX7_doRevoke_55 : decode cX7_doRevoke 55 = .ok (.isub, 1) := by decide +kernel
theorem dX7_doRevoke_56 : decode cX7_doRevoke 56 = .ok (.iaload, 1) := by decide +kernel
theorem dX7_doRevoke_57 : decode cX7_doRevoke 57 = .ok (.ireturn, 1) := by decide +kernel
theorem dX7_revoke_0 : decode cX7_revoke 0 = .ok (.aload_n 0, 1) := by decide +kernel
theorem dX7_revoke_1 : decode cX7_revoke 1 = .ok (.invokevirtual 117, 3) := by decide +kernel
theorem dX7_revoke_4 : decode cX7_revoke 4 = .ok (.aload_n 0, 1) := by decide +kernel
theorem dX7_revoke_5 : decode cX7_revoke 5 = .ok (.aload_n 0, 1) := by decide +kernel
theorem dX7_revoke_6 : decode cX7_revoke 6 = .ok (.iload_n 1, 1) := by decide +kernel
theorem dX7_revoke_7 : decode cX7_revoke 7 = .ok (.invokevirtual 201, 3) := by decide +kernel
theorem dX7_revoke_10 : decode cX7_revoke 10 = .ok (.invokevirtual 123, 3) := by decide +kernel
theorem dX7_revoke_13 : decode cX7_revoke 13 = .ok (.ireturn, 1) := by decide +kernel
theorem dX7_doorCount_0 : decode cX7_doorCount 0 = .ok (.aload_n 0, 1) := by decide +kernel
theorem dX7_doorCount_1 : decode cX7_doorCount 1 = .ok (.iconst 0, 1) := by decide +kernel
theorem dX7_doorCount_2 : decode cX7_doorCount 2 = .ok (.putfield 55, 3) := by decide +kernel
theorem dX7_doorCount_5 : decode cX7_doorCount 5 = .ok (.aload_n 0, 1) := by decide +kernel
theorem dX7_doorCount_6 : decode cX7_doorCount 6 = .ok (.getfield 9, 3) := by decide +kernel
theorem dX7_doorCount_9 : decode cX7_doorCount 9 = .ok (.iconst 0, 1) := by decide +kernel
theorem dX7_doorCount_10 : decode cX7_doorCount 10 = .ok (.iaload, 1) := by decide +kernel
theorem dX7_doorCount_11 : decode cX7_doorCount 11 = .ok (.ireturn, 1) := by decide +kernel
theorem dX7_frameOfDoor_0 : decode cX7_frameOfDoor 0 = .ok (.aload_n 0, 1) := by decide +kernel
theorem dX7_frameOfDoor_1 : decode cX7_frameOfDoor 1 = .ok (.aload_n 0, 1) := by decide +kernel
theorem dX7_frameOfDoor_2 : decode cX7_frameOfDoor 2 = .ok (.iload_n 1, 1) := by decide +kernel
theorem dX7_frameOfDoor_3 : decode cX7_frameOfDoor 3 = .ok (.invokevirtual 75, 3) := by decide +kernel
theorem dX7_frameOfDoor_6 : decode cX7_frameOfDoor 6 = .ok (.invokevirtual 204, 3) := by decide +kernel
theorem dX7_frameOfDoor_9 : decode cX7_frameOfDoor 9 = .ok (.ifCond .eq 13, 3) := by decide +kernel
theorem dX7_frameOfDoor_12 : decode cX7_frameOfDoor 12 = .ok (.aload_n 0, 1) := by decide +kernel
theorem dX7_frameOfDoor_13 : decode cX7_frameOfDoor 13 = .ok (.iload_n 1, 1) := by decide +kernel
theorem dX7_frameOfDoor_14 : decode cX7_frameOfDoor 14 = .ok (.iconst 0, 1) := by decide +kernel
theorem dX7_frameOfDoor_15 : decode cX7_frameOfDoor 15 = .ok (.invokevirtual 82, 3) := by decide +kernel
theorem dX7_frameOfDoor_18 : decode cX7_frameOfDoor 18 = .ok (.i2c, 1) := by decide +kernel
theorem dX7_frameOfDoor_19 : decode cX7_frameOfDoor 19 = .ok (.goto 5, 3) := by decide +kernel
theorem dX7_frameOfDoor_22 : decode cX7_frameOfDoor 22 = .ok (.bipush 32, 2) := by decide +kernel
theorem dX7_frameOfDoor_24 : decode cX7_frameOfDoor 24 = .ok (.ireturn, 1) := by decide +kernel
theorem dX7_topic_0 : decode cX7_topic 0 = .ok (.aload_n 0, 1) := by decide +kernel
theorem dX7_topic_1 : decode cX7_topic 1 = .ok (.aload_n 0, 1) := by decide +kernel
theorem dX7_topic_2 : decode cX7_topic 2 = .ok (.iload_n 1, 1) := by decide +kernel
theorem dX7_topic_3 : decode cX7_topic 3 = .ok (.invokevirtual 75, 3) := by decide +kernel
theorem dX7_topic_6 : decode cX7_topic 6 = .ok (.invokevirtual 204, 3) := by decide +kernel
theorem dX7_topic_9 : decode cX7_topic 9 = .ok (.ifCond .eq 12, 3) := by decide +kernel
theorem dX7_topic_12 : decode cX7_topic 12 = .ok (.aload_n 0, 1) := by decide +kernel
theorem dX7_topic_13 : decode cX7_topic 13 = .ok (.iload_n 1, 1) := by decide +kernel
theorem dX7_topic_14 : decode cX7_topic 14 = .ok (.iconst 1, 1) := by decide +kernel
theorem dX7_topic_15 : decode cX7_topic 15 = .ok (.invokevirtual 82, 3) := by decide +kernel
theorem dX7_topic_18 : decode cX7_topic 18 = .ok (.goto 4, 3) := by decide +kernel
theorem dX7_topic_21 : decode cX7_topic 21 = .ok (.iconst 0, 1) := by decide +kernel
theorem dX7_topic_22 : decode cX7_topic 22 = .ok (.ireturn, 1) := by decide +kernel
theorem dX7_examinersOf_0 : decode cX7_examinersOf 0 = .ok (.aload_n 0, 1) := by decide +kernel
theorem dX7_examinersOf_1 : decode cX7_examinersOf 1 = .ok (.aload_n 0, 1) := by decide +kernel
theorem dX7_examinersOf_2 : decode cX7_examinersOf 2 = .ok (.iload_n 1, 1) := by decide +kernel
theorem dX7_examinersOf_3 : decode cX7_examinersOf 3 = .ok (.invokevirtual 75, 3) := by decide +kernel
theorem dX7_examinersOf_6 : decode cX7_examinersOf 6 = .ok (.invokevirtual 204, 3) := by decide +kernel
theorem dX7_examinersOf_9 : decode cX7_examinersOf 9 = .ok (.ifCond .eq 11, 3) := by decide +kernel
theorem dX7_examinersOf_12 : decode cX7_examinersOf 12 = .ok (.aload_n 0, 1) := by decide +kernel
theorem dX7_examinersOf_13 : decode cX7_examinersOf 13 = .ok (.iload_n 1, 1) := by decide +kernel
theorem dX7_examinersOf_14 : decode cX7_examinersOf 14 = .ok (.invokevirtual 143, 3) := by decide +kernel
theorem dX7_examinersOf_17 : decode cX7_examinersOf 17 = .ok (.goto 4, 3) := by decide +kernel
theorem dX7_examinersOf_20 : decode cX7_examinersOf 20 = .ok (.iconst 0, 1) := by decide +kernel
theorem dX7_examinersOf_21 : decode cX7_examinersOf 21 = .ok (.ireturn, 1) := by decide +kernel
theorem dX7_gradesOf_0 : decode cX7_gradesOf 0 = .ok (.aload_n 0, 1) := by decide +kernel
theorem dX7_gradesOf_1 : decode cX7_gradesOf 1 = .ok (.aload_n 0, 1) := by decide +kernel
theorem dX7_gradesOf_2 : decode cX7_gradesOf 2 = .ok (.iload_n 1, 1) := by decide +kernel
theorem dX7_gradesOf_3 : decode cX7_gradesOf 3 = .ok (.invokevirtual 75, 3) := by decide +kernel
theorem dX7_gradesOf_6 : decode cX7_gradesOf 6 = .ok (.invokevirtual 204, 3) := by decide +kernel
theorem dX7_gradesOf_9 : decode cX7_gradesOf 9 = .ok (.ifCond .eq 11, 3) := by decide +kernel
theorem dX7_gradesOf_12 : decode cX7_gradesOf 12 = .ok (.aload_n 0, 1) := by decide +kernel
theorem dX7_gradesOf_13 : decode cX7_gradesOf 13 = .ok (.iload_n 1, 1) := by decide +kernel
theorem dX7_gradesOf_14 : decode cX7_gradesOf 14 = .ok (.invokevirtual 101, 3) := by decide +kernel
theorem dX7_gradesOf_17 : decode cX7_gradesOf 17 = .ok (.goto 4, 3) := by decide +kernel
theorem dX7_gradesOf_20 : decode cX7_gradesOf 20 = .ok (.iconst 0, 1) := by decide +kernel
theorem dX7_gradesOf_21 : decode cX7_gradesOf 21 = .ok (.ireturn, 1) := by decide +kernel
theorem dX7_result_0 : decode cX7_result 0 = .ok (.aload_n 0, 1) := by decide +kernel
theorem dX7_result_1 : decode cX7_result 1 = .ok (.iload_n 1, 1) := by decide +kernel
theorem dX7_result_2 : decode cX7_result 2 = .ok (.invokevirtual 75, 3) := by decide +kernel
theorem dX7_result_5 : decode cX7_result 5 = .ok (.ifCond .eq 11, 3) := by decide +kernel
theorem dX7_result_8 : decode cX7_result 8 = .ok (.aload_n 0, 1) := by decide +kernel
theorem dX7_result_9 : decode cX7_result 9 = .ok (.iload_n 1, 1) := by decide +kernel
theorem dX7_result_10 : decode cX7_result 10 = .ok (.invokevirtual 105, 3) := by decide +kernel
theorem dX7_result_13 : decode cX7_result 13 = .ok (.goto 4, 3) := by decide +kernel
theorem dX7_result_16 : decode cX7_result 16 = .ok (.iconst (-1), 1) := by decide +kernel
theorem dX7_result_17 : decode cX7_result 17 = .ok (.istore_n 2, 1) := by decide +kernel
theorem dX7_result_18 : decode cX7_result 18 = .ok (.aload_n 0, 1) := by decide +kernel
theorem dX7_result_19 : decode cX7_result 19 = .ok (.aload_n 0, 1) := by decide +kernel
theorem dX7_result_20 : decode cX7_result 20 = .ok (.iload_n 1, 1) := by decide +kernel
theorem dX7_result_21 : decode cX7_result 21 = .ok (.invokevirtual 75, 3) := by decide +kernel
theorem dX7_result_24 : decode cX7_result 24 = .ok (.ifCond .ne 7, 3) := by decide +kernel
theorem dX7_result_27 : decode cX7_result 27 = .ok (.iconst 1, 1) := by decide +kernel
theorem dX7_result_28 : decode cX7_result 28 = .ok (.goto 12, 3) := by decide +kernel
theorem dX7_result_31 : decode cX7_result 31 = .ok (.iload_n 2, 1) := by decide +kernel
theorem dX7_result_32 : decode cX7_result 32 = .ok (.ifCond .ge 7, 3) := by decide +kernel
theorem dX7_result_35 : decode cX7_result 35 = .ok (.iconst 2, 1) := by decide +kernel
theorem dX7_result_36 : decode cX7_result 36 = .ok (.goto 4, 3) := by decide +kernel
theorem dX7_result_39 : decode cX7_result 39 = .ok (.iconst 0, 1) := by decide +kernel
theorem dX7_result_40 : decode cX7_result 40 = .ok (.putfield 55, 3) := by decide +kernel
theorem dX7_result_43 : decode cX7_result 43 = .ok (.aload_n 0, 1) := by decide +kernel
theorem dX7_result_44 : decode cX7_result 44 = .ok (.getfield 55, 3) := by decide +kernel
theorem dX7_result_47 : decode cX7_result 47 = .ok (.ifCond .le 7, 3) := by decide +kernel
theorem dX7_result_50 : decode cX7_result 50 = .ok (.iconst 0, 1) := by decide +kernel
theorem dX7_result_51 : decode cX7_result 51 = .ok (.goto 4, 3) := by decide +kernel
theorem dX7_result_54 : decode cX7_result 54 = .ok (.iload_n 2, 1) := by decide +kernel
theorem dX7_result_55 : decode cX7_result 55 = .ok (.ireturn, 1) := by decide +kernel
theorem dX7_passes_0 : decode cX7_passes 0 = .ok (.aload_n 0, 1) := by decide +kernel
theorem dX7_passes_1 : decode cX7_passes 1 = .ok (.aload_n 0, 1) := by decide +kernel
theorem dX7_passes_2 : decode cX7_passes 2 = .ok (.iload_n 1, 1) := by decide +kernel
theorem dX7_passes_3 : decode cX7_passes 3 = .ok (.invokevirtual 75, 3) := by decide +kernel
theorem dX7_passes_6 : decode cX7_passes 6 = .ok (.invokevirtual 204, 3) := by decide +kernel
theorem dX7_passes_9 : decode cX7_passes 9 = .ok (.ifCond .eq 15, 3) := by decide +kernel
theorem dX7_passes_12 : decode cX7_passes 12 = .ok (.aload_n 0, 1) := by decide +kernel
theorem dX7_passes_13 : decode cX7_passes 13 = .ok (.iload_n 1, 1) := by decide +kernel
theorem dX7_passes_14 : decode cX7_passes 14 = .ok (.invokevirtual 108, 3) := by decide +kernel
theorem dX7_passes_17 : decode cX7_passes 17 = .ok (.ifCond .eq 7, 3) := by decide +kernel
theorem dX7_passes_20 : decode cX7_passes 20 = .ok (.iconst 1, 1) := by decide +kernel
theorem dX7_passes_21 : decode cX7_passes 21 = .ok (.goto 4, 3) := by decide +kernel
theorem dX7_passes_24 : decode cX7_passes 24 = .ok (.iconst 0, 1) := by decide +kernel
theorem dX7_passes_25 : decode cX7_passes 25 = .ok (.ireturn, 1) := by decide +kernel
theorem dX7_wasGranted_0 : decode cX7_wasGranted 0 = .ok (.aload_n 0, 1) := by decide +kernel
theorem dX7_wasGranted_1 : decode cX7_wasGranted 1 = .ok (.aload_n 0, 1) := by decide +kernel
theorem dX7_wasGranted_2 : decode cX7_wasGranted 2 = .ok (.iload_n 1, 1) := by decide +kernel
theorem dX7_wasGranted_3 : decode cX7_wasGranted 3 = .ok (.invokevirtual 75, 3) := by decide +kernel
theorem dX7_wasGranted_6 : decode cX7_wasGranted 6 = .ok (.invokevirtual 204, 3) := by decide +kernel
theorem dX7_wasGranted_9 : decode cX7_wasGranted 9 = .ok (.ifCond .eq 17, 3) := by decide +kernel
theorem dX7_wasGranted_12 : decode cX7_wasGranted 12 = .ok (.aload_n 0, 1) := by decide +kernel
theorem dX7_wasGranted_13 : decode cX7_wasGranted 13 = .ok (.iload_n 1, 1) := by decide +kernel
theorem dX7_wasGranted_14 : decode cX7_wasGranted 14 = .ok (.iconst 3, 1) := by decide +kernel
theorem dX7_wasGranted_15 : decode cX7_wasGranted 15 = .ok (.invokevirtual 82, 3) := by decide +kernel
theorem dX7_wasGranted_18 : decode cX7_wasGranted 18 = .ok (.iconst 1, 1) := by decide +kernel
theorem dX7_wasGranted_19 : decode cX7_wasGranted 19 = .ok (.if_icmp .ne 7, 3) := by decide +kernel
theorem dX7_wasGranted_22 : decode cX7_wasGranted 22 = .ok (.iconst 1, 1) := by decide +kernel
theorem dX7_wasGranted_23 : decode cX7_wasGranted 23 = .ok (.goto 4, 3) := by decide +kernel
theorem dX7_wasGranted_26 : decode cX7_wasGranted 26 = .ok (.iconst 0, 1) := by decide +kernel
theorem dX7_wasGranted_27 : decode cX7_wasGranted 27 = .ok (.ireturn, 1) := by decide +kernel
theorem dX7_isEntitled_0 : decode cX7_isEntitled 0 = .ok (.aload_n 0, 1) := by decide +kernel
theorem dX7_isEntitled_1 : decode cX7_isEntitled 1 = .ok (.aload_n 0, 1) := by decide +kernel
theorem dX7_isEntitled_2 : decode cX7_isEntitled 2 = .ok (.iload_n 1, 1) := by decide +kernel
theorem dX7_isEntitled_3 : decode cX7_isEntitled 3 = .ok (.invokevirtual 75, 3) := by decide +kernel
theorem dX7_isEntitled_6 : decode cX7_isEntitled 6 = .ok (.invokevirtual 204, 3) := by decide +kernel
theorem dX7_isEntitled_9 : decode cX7_isEntitled 9 = .ok (.ifCond .eq 15, 3) := by decide +kernel
theorem dX7_isEntitled_12 : decode cX7_isEntitled 12 = .ok (.aload_n 0, 1) := by decide +kernel
theorem dX7_isEntitled_13 : decode cX7_isEntitled 13 = .ok (.iload_n 1, 1) := by decide +kernel
theorem dX7_isEntitled_14 : decode cX7_isEntitled 14 = .ok (.invokevirtual 189, 3) := by decide +kernel
theorem dX7_isEntitled_17 : decode cX7_isEntitled 17 = .ok (.ifCond .eq 7, 3) := by decide +kernel
theorem dX7_isEntitled_20 : decode cX7_isEntitled 20 = .ok (.iconst 1, 1) := by decide +kernel
theorem dX7_isEntitled_21 : decode cX7_isEntitled 21 = .ok (.goto 4, 3) := by decide +kernel
theorem dX7_isEntitled_24 : decode cX7_isEntitled 24 = .ok (.iconst 0, 1) := by decide +kernel
theorem dX7_isEntitled_25 : decode cX7_isEntitled 25 = .ok (.ireturn, 1) := by decide +kernel
theorem dX7_doorAtRank_0 : decode cX7_doorAtRank 0 = .ok (.iconst 0, 1) := by decide +kernel
theorem dX7_doorAtRank_1 : decode cX7_doorAtRank 1 = .ok (.istore_n 2, 1) := by decide +kernel
theorem dX7_doorAtRank_2 : decode cX7_doorAtRank 2 = .ok (.aload_n 0, 1) := by decide +kernel
theorem dX7_doorAtRank_3 : decode cX7_doorAtRank 3 = .ok (.aload_n 0, 1) := by decide +kernel
theorem dX7_doorAtRank_4 : decode cX7_doorAtRank 4 = .ok (.iload_n 1, 1) := by decide +kernel
theorem dX7_doorAtRank_5 : decode cX7_doorAtRank 5 = .ok (.invokevirtual 75, 3) := by decide +kernel
theorem dX7_doorAtRank_8 : decode cX7_doorAtRank 8 = .ok (.invokevirtual 204, 3) := by decide +kernel
theorem dX7_doorAtRank_11 : decode cX7_doorAtRank 11 = .ok (.istore_n 3, 1) := by decide +kernel
theorem dX7_doorAtRank_12 : decode cX7_doorAtRank 12 = .ok (.iconst 0, 1) := by decide +kernel
theorem dX7_doorAtRank_13 : decode cX7_doorAtRank 13 = .ok (.istore 4, 2) := by decide +kernel
theorem dX7_doorAtRank_15 : decode cX7_doorAtRank 15 = .ok (.iload 4, 2) := by decide +kernel
theorem dX7_doorAtRank_17 : decode cX7_doorAtRank 17 = .ok (.aload_n 0, 1) := by decide +kernel
theorem dX7_doorAtRank_18 : decode cX7_doorAtRank 18 = .ok (.getfield 9, 3) := by decide +kernel
theorem dX7_doorAtRank_21 : decode cX7_doorAtRank 21 = .ok (.iconst 0, 1) := by decide +kernel
theorem dX7_doorAtRank_22 : decode cX7_doorAtRank 22 = .ok (.iaload, 1) := by decide +kernel
theorem dX7_doorAtRank_23 : decode cX7_doorAtRank 23 = .ok (.if_icmp .ge 129, 3) := by decide +kernel
theorem dX7_doorAtRank_26 : decode cX7_doorAtRank 26 = .ok (.iload_n 3, 1) := by decide +kernel
theorem dX7_doorAtRank_27 : decode cX7_doorAtRank 27 = .ok (.ifCond .eq 125, 3) := by decide +kernel
theorem dX7_doorAtRank_30 : decode cX7_doorAtRank 30 = .ok (.iconst 0, 1) := by decide +kernel
theorem dX7_doorAtRank_31 : decode cX7_doorAtRank 31 = .ok (.istore 5, 2) := by decide +kernel
theorem dX7_doorAtRank_33 : decode cX7_doorAtRank 33 = .ok (.iconst 0, 1) := by decide +kernel
theorem dX7_doorAtRank_34 : decode cX7_doorAtRank 34 = .ok (.istore 6, 2) := by decide +kernel
theorem dX7_doorAtRank_36 : decode cX7_doorAtRank 36 = .ok (.iload 6, 2) := by decide +kernel
theorem dX7_doorAtRank_38 : decode cX7_doorAtRank 38 = .ok (.aload_n 0, 1) := by decide +kernel
theorem dX7_doorAtRank_39 : decode cX7_doorAtRank 39 = .ok (.getfield 9, 3) := by decide +kernel
theorem dX7_doorAtRank_42 : decode cX7_doorAtRank 42 = .ok (.iconst 0, 1) := by decide +kernel
theorem dX7_doorAtRank_43 : decode cX7_doorAtRank 43 = .ok (.iaload, 1) := by decide +kernel
theorem dX7_doorAtRank_44 : decode cX7_doorAtRank 44 = .ok (.if_icmp .ge 89, 3) := by decide +kernel
theorem dX7_doorAtRank_47 : decode cX7_doorAtRank 47 = .ok (.aload_n 0, 1) := by decide +kernel
theorem dX7_doorAtRank_48 : decode cX7_doorAtRank 48 = .ok (.iload 6, 2) := by decide +kernel
theorem dX7_doorAtRank_50 : decode cX7_doorAtRank 50 = .ok (.invokevirtual 105, 3) := by decide +kernel
theorem dX7_doorAtRank_53 : decode cX7_doorAtRank 53 = .ok (.aload_n 0, 1) := by decide +kernel
theorem dX7_doorAtRank_54 : decode cX7_doorAtRank 54 = .ok (.iload 4, 2) := by decide +kernel
theorem dX7_doorAtRank_56 : decode cX7_doorAtRank 56 = .ok (.invokevirtual 105, 3) := by decide +kernel
theorem dX7_doorAtRank_59 : decode cX7_doorAtRank 59 = .ok (.isub, 1) := by decide +kernel
theorem dX7_doorAtRank_60 : decode cX7_doorAtRank 60 = .ok (.istore 7, 2) := by decide +kernel
theorem dX7_doorAtRank_62 : decode cX7_doorAtRank 62 = .ok (.aload_n 0, 1) := by decide +kernel
theorem dX7_doorAtRank_63 : decode cX7_doorAtRank 63 = .ok (.iload 4, 2) := by decide +kernel
theorem dX7_doorAtRank_65 : decode cX7_doorAtRank 65 = .ok (.invokevirtual 105, 3) := by decide +kernel
theorem dX7_doorAtRank_68 : decode cX7_doorAtRank 68 = .ok (.ifCond .ge 7, 3) := by decide +kernel
theorem dX7_doorAtRank_71 : decode cX7_doorAtRank 71 = .ok (.iconst 0, 1) := by decide +kernel
theorem dX7_doorAtRank_72 : decode cX7_doorAtRank 72 = .ok (.goto 16, 3) := by decide +kernel
theorem dX7_doorAtRank_75 : decode cX7_doorAtRank 75 = .ok (.aload_n 0, 1) := by decide +kernel
theorem dX7_doorAtRank_76 : decode cX7_doorAtRank 76 = .ok (.iload 6, 2) := by decide +kernel
theorem dX7_doorAtRank_78 : decode cX7_doorAtRank 78 = .ok (.invokevirtual 101, 3) := by decide +kernel
theorem dX7_doorAtRank_81 : decode cX7_doorAtRank 81 = .ok (.aload_n 0, 1) := by decide +kernel
theorem dX7_doorAtRank_82 : decode cX7_doorAtRank 82 = .ok (.iload 4, 2) := by decide +kernel
theorem dX7_doorAtRank_84 : decode cX7_doorAtRank 84 = .ok (.invokevirtual 101, 3) := by decide +kernel
theorem dX7_doorAtRank_87 : decode cX7_doorAtRank 87 = .ok (.isub, 1) := by decide +kernel
theorem dX7_doorAtRank_88 : decode cX7_doorAtRank 88 = .ok (.istore 8, 2) := by decide +kernel
theorem dX7_doorAtRank_90 : decode cX7_doorAtRank 90 = .ok (.iload 5, 2) := by decide +kernel
theorem dX7_doorAtRank_92 : decode cX7_doorAtRank 92 = .ok (.iload 7, 2) := by decide +kernel
theorem dX7_doorAtRank_94 : decode cX7_doorAtRank 94 = .ok (.ifCond .gt 25, 3) := by decide +kernel
theorem dX7_doorAtRank_97 : decode cX7_doorAtRank 97 = .ok (.iload 7, 2) := by decide +kernel
theorem dX7_doorAtRank_99 : decode cX7_doorAtRank 99 = .ok (.ifCond .ne 24, 3) := by decide +kernel
theorem dX7_doorAtRank_102 : decode cX7_doorAtRank 102 = .ok (.iload 8, 2) := by decide +kernel
theorem dX7_doorAtRank_104 : decode cX7_doorAtRank 104 = .ok (.ifCond .gt 15, 3) := by decide +kernel
theorem dX7_doorAtRank_107 : decode cX7_doorAtRank 107 = .ok (.iload 8, 2) := by decide +kernel
theorem dX7_doorAtRank_109 : decode cX7_doorAtRank 109 = .ok (.ifCond .ne 14, 3) := by decide +kernel
theorem dX7_doorAtRank_112 : decode cX7_doorAtRank 112 = .ok (.iload 6, 2) := by decide +kernel
theorem dX7_doorAtRank_114 : decode cX7_doorAtRank 114 = .ok (.iload 4, 2) := by decide +kernel
theorem dX7_doorAtRank_116 : decode cX7_doorAtRank 116 = .ok (.if_icmp .ge 7, 3) := by decide +kernel
theorem dX7_doorAtRank_119 : decode cX7_doorAtRank 119 = .ok (.iconst 1, 1) := by decide +kernel
theorem dX7_doorAtRank_120 : decode cX7_doorAtRank 120 = .ok (.goto 4, 3) := by decide +kernel
theorem dX7_doorAtRank_123 : decode cX7_doorAtRank 123 = .ok (.iconst 0, 1) := by decide +kernel
theorem dX7_doorAtRank_124 : decode cX7_doorAtRank 124 = .ok (.iadd, 1) := by decide +kernel
theorem dX7_doorAtRank_125 : decode cX7_doorAtRank 125 = .ok (.istore 5, 2) := by decide +kernel
theorem dX7_doorAtRank_127 : decode cX7_doorAtRank 127 = .ok (.iinc 6 1, 3) := by decide +kernel
theorem dX7_doorAtRank_130 : decode cX7_doorAtRank 130 = .ok (.goto (-94), 3) := by decide +kernel
theorem dX7_doorAtRank_133 : decode cX7_doorAtRank 133 = .ok (.iload 5, 2) := by decide +kernel
theorem dX7_doorAtRank_135 : decode cX7_doorAtRank 135 = .ok (.iload_n 1, 1) := by decide +kernel
theorem dX7_doorAtRank_136 : decode cX7_doorAtRank 136 = .ok (.if_icmp .ne 8, 3) := by decide +kernel
theorem dX7_doorAtRank_139 : decode cX7_doorAtRank 139 = .ok (.iload 4, 2) := by decide +kernel
theorem dX7_doorAtRank_141 : decode cX7_doorAtRank 141 = .ok (.goto 4, 3) := by decide +kernel
theorem dX7_doorAtRank_144 : decode cX7_doorAtRank 144 = .ok (.iload_n 2, 1) := by decide +kernel
theorem dX7_doorAtRank_145 : decode cX7_doorAtRank 145 = .ok (.istore_n 2, 1) := by decide +kernel
theorem dX7_doorAtRank_146 : decode cX7_doorAtRank 146 = .ok (.iinc 4 1, 3) := by decide +kernel
theorem dX7_doorAtRank_149 : decode cX7_doorAtRank 149 = .ok (.goto (-134), 3) := by decide +kernel
theorem dX7_doorAtRank_152 : decode cX7_doorAtRank 152 = .ok (.iload_n 2, 1) := by decide +kernel
theorem dX7_doorAtRank_153 : decode cX7_doorAtRank 153 = .ok (.ireturn, 1) := by decide +kernel
theorem dX7_examinerCount_0 : decode cX7_examinerCount 0 = .ok (.aload_n 0, 1) := by decide +kernel
theorem dX7_examinerCount_1 : decode cX7_examinerCount 1 = .ok (.iconst 0, 1) := by decide +kernel
theorem dX7_examinerCount_2 : decode cX7_examinerCount 2 = .ok (.putfield 55, 3) := by decide +kernel
theorem dX7_examinerCount_5 : decode cX7_examinerCount 5 = .ok (.aload_n 0, 1) := by decide +kernel
theorem dX7_examinerCount_6 : decode cX7_examinerCount 6 = .ok (.getfield 9, 3) := by decide +kernel
theorem dX7_examinerCount_9 : decode cX7_examinerCount 9 = .ok (.iconst 1, 1) := by decide +kernel
theorem dX7_examinerCount_10 : decode cX7_examinerCount 10 = .ok (.iaload, 1) := by decide +kernel
theorem dX7_examinerCount_11 : decode cX7_examinerCount 11 = .ok (.ireturn, 1) := by decide +kernel
theorem dX7_frameOfExaminer_0 : decode cX7_frameOfExaminer 0 = .ok (.aload_n 0, 1) := by decide +kernel
theorem dX7_frameOfExaminer_1 : decode cX7_frameOfExaminer 1 = .ok (.aload_n 0, 1) := by decide +kernel
theorem dX7_frameOfExaminer_2 : decode cX7_frameOfExaminer 2 = .ok (.iload_n 1, 1) := by decide +kernel
theorem dX7_frameOfExaminer_3 : decode cX7_frameOfExaminer 3 = .ok (.invokevirtual 71, 3) := by decide +kernel
theorem dX7_frameOfExaminer_6 : decode cX7_frameOfExaminer 6 = .ok (.invokevirtual 204, 3) := by decide +kernel
theorem dX7_frameOfExaminer_9 : decode cX7_frameOfExaminer 9 = .ok (.ifCond .eq 13, 3) := by decide +kernel
theorem dX7_frameOfExaminer_12 : decode cX7_frameOfExaminer 12 = .ok (.aload_n 0, 1) := by decide +kernel
theorem dX7_frameOfExaminer_13 : decode cX7_frameOfExaminer 13 = .ok (.iload_n 1, 1) := by decide +kernel
theorem dX7_frameOfExaminer_14 : decode cX7_frameOfExaminer 14 = .ok (.iconst 0, 1) := by decide +kernel
theorem dX7_frameOfExaminer_15 : decode cX7_frameOfExaminer 15 = .ok (.invokevirtual 78, 3) := by decide +kernel
theorem dX7_frameOfExaminer_18 : decode cX7_frameOfExaminer 18 = .ok (.i2c, 1) := by decide +kernel
theorem dX7_frameOfExaminer_19 : decode cX7_frameOfExaminer 19 = .ok (.goto 5, 3) := by decide +kernel
theorem dX7_frameOfExaminer_22 : decode cX7_frameOfExaminer 22 = .ok (.bipush 32, 2) := by decide +kernel
theorem dX7_frameOfExaminer_24 : decode cX7_frameOfExaminer 24 = .ok (.ireturn, 1) := by decide +kernel
theorem dX7_load_0 : decode cX7_load 0 = .ok (.aload_n 0, 1) := by decide +kernel
theorem dX7_load_1 : decode cX7_load 1 = .ok (.aload_n 0, 1) := by decide +kernel
theorem dX7_load_2 : decode cX7_load 2 = .ok (.iload_n 1, 1) := by decide +kernel
theorem dX7_load_3 : decode cX7_load 3 = .ok (.invokevirtual 71, 3) := by decide +kernel
theorem dX7_load_6 : decode cX7_load 6 = .ok (.invokevirtual 204, 3) := by decide +kernel
theorem dX7_load_9 : decode cX7_load 9 = .ok (.ifCond .eq 11, 3) := by decide +kernel
theorem dX7_load_12 : decode cX7_load 12 = .ok (.aload_n 0, 1) := by decide +kernel
theorem dX7_load_13 : decode cX7_load 13 = .ok (.iload_n 1, 1) := by decide +kernel
theorem dX7_load_14 : decode cX7_load 14 = .ok (.invokevirtual 146, 3) := by decide +kernel
theorem dX7_load_17 : decode cX7_load 17 = .ok (.goto 4, 3) := by decide +kernel
theorem dX7_load_20 : decode cX7_load 20 = .ok (.iconst 0, 1) := by decide +kernel
theorem dX7_load_21 : decode cX7_load 21 = .ok (.ireturn, 1) := by decide +kernel
theorem dX7_isNeutral_0 : decode cX7_isNeutral 0 = .ok (.aload_n 0, 1) := by decide +kernel
theorem dX7_isNeutral_1 : decode cX7_isNeutral 1 = .ok (.aload_n 0, 1) := by decide +kernel
theorem dX7_isNeutral_2 : decode cX7_isNeutral 2 = .ok (.iload_n 1, 1) := by decide +kernel
theorem dX7_isNeutral_3 : decode cX7_isNeutral 3 = .ok (.iload_n 2, 1) := by decide +kernel
theorem dX7_isNeutral_4 : decode cX7_isNeutral 4 = .ok (.invokevirtual 130, 3) := by decide +kernel
theorem dX7_isNeutral_7 : decode cX7_isNeutral 7 = .ok (.invokevirtual 204, 3) := by decide +kernel
theorem dX7_isNeutral_10 : decode cX7_isNeutral 10 = .ok (.ifCond .eq 16, 3) := by decide +kernel
theorem dX7_isNeutral_13 : decode cX7_isNeutral 13 = .ok (.aload_n 0, 1) := by decide +kernel
theorem dX7_isNeutral_14 : decode cX7_isNeutral 14 = .ok (.iload_n 1, 1) := by decide +kernel
theorem dX7_isNeutral_15 : decode cX7_isNeutral 15 = .ok (.iload_n 2, 1) := by decide +kernel
theorem dX7_isNeutral_16 : decode cX7_isNeutral 16 = .ok (.invokevirtual 89, 3) := by decide +kernel
theorem dX7_isNeutral_19 : decode cX7_isNeutral 19 = .ok (.ifCond .eq 7, 3) := by decide +kernel
theorem dX7_isNeutral_22 : decode cX7_isNeutral 22 = .ok (.iconst 1, 1) := by decide +kernel
theorem dX7_isNeutral_23 : decode cX7_isNeutral 23 = .ok (.goto 4, 3) := by decide +kernel
theorem dX7_isNeutral_26 : decode cX7_isNeutral 26 = .ok (.iconst 0, 1) := by decide +kernel
theorem dX7_isNeutral_27 : decode cX7_isNeutral 27 = .ok (.ireturn, 1) := by decide +kernel
theorem dX7_mayJudge_0 : decode cX7_mayJudge 0 = .ok (.aload_n 0, 1) := by decide +kernel
theorem dX7_mayJudge_1 : decode cX7_mayJudge 1 = .ok (.aload_n 0, 1) := by decide +kernel
theorem dX7_mayJudge_2 : decode cX7_mayJudge 2 = .ok (.iload_n 1, 1) := by decide +kernel
theorem dX7_mayJudge_3 : decode cX7_mayJudge 3 = .ok (.iload_n 2, 1) := by decide +kernel
theorem dX7_mayJudge_4 : decode cX7_mayJudge 4 = .ok (.invokevirtual 130, 3) := by decide +kernel
theorem dX7_mayJudge_7 : decode cX7_mayJudge 7 = .ok (.invokevirtual 204, 3) := by decide +kernel
theorem dX7_mayJudge_10 : decode cX7_mayJudge 10 = .ok (.ifCond .eq 16, 3) := by decide +kernel
theorem dX7_mayJudge_13 : decode cX7_mayJudge 13 = .ok (.aload_n 0, 1) := by decide +kernel
theorem dX7_mayJudge_14 : decode cX7_mayJudge 14 = .ok (.iload_n 1, 1) := by decide +kernel
theorem dX7_mayJudge_15 : decode cX7_mayJudge 15 = .ok (.iload_n 2, 1) := by decide +kernel
theorem dX7_mayJudge_16 : decode cX7_mayJudge 16 = .ok (.invokevirtual 149, 3) := by decide +kernel
theorem dX7_mayJudge_19 : decode cX7_mayJudge 19 = .ok (.ifCond .eq 7, 3) := by decide +kernel
theorem dX7_mayJudge_22 : decode cX7_mayJudge 22 = .ok (.iconst 1, 1) := by decide +kernel
theorem dX7_mayJudge_23 : decode cX7_mayJudge 23 = .ok (.goto 4, 3) := by decide +kernel
theorem dX7_mayJudge_26 : decode cX7_mayJudge 26 = .ok (.iconst 0, 1) := by decide +kernel
theorem dX7_mayJudge_27 : decode cX7_mayJudge 27 = .ok (.ireturn, 1) := by decide +kernel
theorem dX7_isAssigned_0 : decode cX7_isAssigned 0 = .ok (.aload_n 0, 1) := by decide +kernel
theorem dX7_isAssigned_1 : decode cX7_isAssigned 1 = .ok (.aload_n 0, 1) := by decide +kernel
theorem dX7_isAssigned_2 : decode cX7_isAssigned 2 = .ok (.iload_n 1, 1) := by decide +kernel
theorem dX7_isAssigned_3 : decode cX7_isAssigned 3 = .ok (.iload_n 2, 1) := by decide +kernel
theorem dX7_isAssigned_4 : decode cX7_isAssigned 4 = .ok (.invokevirtual 130, 3) := by decide +kernel
theorem dX7_isAssigned_7 : decode cX7_isAssigned 7 = .ok (.invokevirtual 204, 3) := by decide +kernel
theorem dX7_isAssigned_10 : decode cX7_isAssigned 10 = .ok (.ifCond .eq 16, 3) := by decide +kernel
theorem dX7_isAssigned_13 : decode cX7_isAssigned 13 = .ok (.aload_n 0, 1) := by decide +kernel
theorem dX7_isAssigned_14 : decode cX7_isAssigned 14 = .ok (.iload_n 1, 1) := by decide +kernel
theorem dX7_isAssigned_15 : decode cX7_isAssigned 15 = .ok (.iload_n 2, 1) := by decide +kernel
theorem dX7_isAssigned_16 : decode cX7_isAssigned 16 = .ok (.invokevirtual 133, 3) := by decide +kernel
theorem dX7_isAssigned_19 : decode cX7_isAssigned 19 = .ok (.ifCond .eq 7, 3) := by decide +kernel
theorem dX7_isAssigned_22 : decode cX7_isAssigned 22 = .ok (.iconst 1, 1) := by decide +kernel
theorem dX7_isAssigned_23 : decode cX7_isAssigned 23 = .ok (.goto 4, 3) := by decide +kernel
theorem dX7_isAssigned_26 : decode cX7_isAssigned 26 = .ok (.iconst 0, 1) := by decide +kernel
theorem dX7_isAssigned_27 : decode cX7_isAssigned 27 = .ok (.ireturn, 1) := by decide +kernel
theorem dX7_gradeBy_0 : decode cX7_gradeBy 0 = .ok (.aload_n 0, 1) := by decide +kernel
theorem dX7_gradeBy_1 : decode cX7_gradeBy 1 = .ok (.iload_n 1, 1) := by decide +kernel
theorem dX7_gradeBy_2 : decode cX7_gradeBy 2 = .ok (.iload_n 2, 1) := by decide +kernel
theorem dX7_gradeBy_3 : decode cX7_gradeBy 3 = .ok (.invokevirtual 130, 3) := by decide +kernel
theorem dX7_gradeBy_6 : decode cX7_gradeBy 6 = .ok (.ifCond .eq 15, 3) := by decide +kernel
theorem dX7_gradeBy_9 : decode cX7_gradeBy 9 = .ok (.aload_n 0, 1) := by decide +kernel
theorem dX7_gradeBy_10 : decode cX7_gradeBy 10 = .ok (.iload_n 1, 1) := by decide +kernel
theorem dX7_gradeBy_11 : decode cX7_gradeBy 11 = .ok (.iload_n 2, 1) := by decide +kernel
theorem dX7_gradeBy_12 : decode cX7_gradeBy 12 = .ok (.iconst 2, 1) := by decide +kernel
theorem dX7_gradeBy_13 : decode cX7_gradeBy 13 = .ok (.invokevirtual 85, 3) := by decide +kernel
theorem dX7_gradeBy_16 : decode cX7_gradeBy 16 = .ok (.iconst 1, 1) := by decide +kernel
theorem dX7_gradeBy_17 : decode cX7_gradeBy 17 = .ok (.isub, 1) := by decide +kernel
theorem dX7_gradeBy_18 : decode cX7_gradeBy 18 = .ok (.goto 4, 3) := by decide +kernel
theorem dX7_gradeBy_21 : decode cX7_gradeBy 21 = .ok (.iconst (-1), 1) := by decide +kernel
theorem dX7_gradeBy_22 : decode cX7_gradeBy 22 = .ok (.istore_n 3, 1) := by decide +kernel
theorem dX7_gradeBy_23 : decode cX7_gradeBy 23 = .ok (.aload_n 0, 1) := by decide +kernel
theorem dX7_gradeBy_24 : decode cX7_gradeBy 24 = .ok (.aload_n 0, 1) := by decide +kernel
theorem dX7_gradeBy_25 : decode cX7_gradeBy 25 = .ok (.iload_n 1, 1) := by decide +kernel
theorem dX7_gradeBy_26 : decode cX7_gradeBy 26 = .ok (.iload_n 2, 1) := by decide +kernel
theorem dX7_gradeBy_27 : decode cX7_gradeBy 27 = .ok (.invokevirtual 130, 3) := by decide +kernel
theorem dX7_gradeBy_30 : decode cX7_gradeBy 30 = .ok (.ifCond .ne 7, 3) := by decide +kernel
theorem dX7_gradeBy_33 : decode cX7_gradeBy 33 = .ok (.iconst 1, 1) := by decide +kernel
theorem dX7_gradeBy_34 : decode cX7_gradeBy 34 = .ok (.goto 12, 3) := by decide +kernel
theorem dX7_gradeBy_37 : decode cX7_gradeBy 37 = .ok (.iload_n 3, 1) := by decide +kernel
theorem dX7_gradeBy_38 : decode cX7_gradeBy 38 = .ok (.ifCond .ge 7, 3) := by decide +kernel
theorem dX7_gradeBy_41 : decode cX7_gradeBy 41 = .ok (.iconst 2, 1) := by decide +kernel
theorem dX7_gradeBy_42 : decode cX7_gradeBy 42 = .ok (.goto 4, 3) := by decide +kernel
theorem dX7_gradeBy_45 : decode cX7_gradeBy 45 = .ok (.iconst 0, 1) := by decide +kernel
theorem dX7_gradeBy_46 : decode cX7_gradeBy 46 = .ok (.putfield 55, 3) := by decide +kernel
theorem dX7_gradeBy_49 : decode cX7_gradeBy 49 = .ok (.aload_n 0, 1) := by decide +kernel
theorem dX7_gradeBy_50 : decode cX7_gradeBy 50 = .ok (.getfield 55, 3) := by decide +kernel
theorem dX7_gradeBy_53 : decode cX7_gradeBy 53 = .ok (.ifCond .le 7, 3) := by decide +kernel
theorem dX7_gradeBy_56 : decode cX7_gradeBy 56 = .ok (.iconst 0, 1) := by decide +kernel
theorem dX7_gradeBy_57 : decode cX7_gradeBy 57 = .ok (.goto 4, 3) := by decide +kernel
theorem dX7_gradeBy_60 : decode cX7_gradeBy 60 = .ok (.iload_n 3, 1) := by decide +kernel
theorem dX7_gradeBy_61 : decode cX7_gradeBy 61 = .ok (.ireturn, 1) := by decide +kernel
theorem dX7_planSize_0 : decode cX7_planSize 0 = .ok (.aload_n 0, 1) := by decide +kernel
theorem dX7_planSize_1 : decode cX7_planSize 1 = .ok (.iconst 0, 1) := by decide +kernel
theorem dX7_planSize_2 : decode cX7_planSize 2 = .ok (.putfield 55, 3) := by decide +kernel
theorem dX7_planSize_5 : decode cX7_planSize 5 = .ok (.aload_n 0, 1) := by decide +kernel
theorem dX7_planSize_6 : decode cX7_planSize 6 = .ok (.invokevirtual 161, 3) := by decide +kernel
theorem dX7_planSize_9 : decode cX7_planSize 9 = .ok (.aload_n 0, 1) := by decide +kernel
theorem dX7_planSize_10 : decode cX7_planSize 10 = .ok (.iconst 0, 1) := by decide +kernel
theorem dX7_planSize_11 : decode cX7_planSize 11 = .ok (.invokevirtual 164, 3) := by decide +kernel
theorem dX7_planSize_14 : decode cX7_planSize 14 = .ok (.ireturn, 1) := by decide +kernel
theorem dX7_planSizeBySets_0 : decode cX7_planSizeBySets 0 = .ok (.aload_n 0, 1) := by decide +kernel
theorem dX7_planSizeBySets_1 : decode cX7_planSizeBySets 1 = .ok (.invokevirtual 208, 3) := by decide +kernel
theorem dX7_planSizeBySets_4 : decode cX7_planSizeBySets 4 = .ok (.ireturn, 1) := by decide +kernel
theorem dX7_plannedExaminer_0 : decode cX7_plannedExaminer 0 = .ok (.aload_n 0, 1) := by decide +kernel
theorem dX7_plannedExaminer_1 : decode cX7_plannedExaminer 1 = .ok (.invokevirtual 167, 3) := by decide +kernel
theorem dX7_plannedExaminer_4 : decode cX7_plannedExaminer 4 = .ok (.istore_n 2, 1) := by decide +kernel
theorem dX7_plannedExaminer_5 : decode cX7_plannedExaminer 5 = .ok (.aload_n 0, 1) := by decide +kernel
theorem dX7_plannedExaminer_6 : decode cX7_plannedExaminer 6 = .ok (.aload_n 0, 1) := by decide +kernel
theorem dX7_plannedExaminer_7 : decode cX7_plannedExaminer 7 = .ok (.iload_n 1, 1) := by decide +kernel
theorem dX7_plannedExaminer_8 : decode cX7_plannedExaminer 8 = .ok (.invokevirtual 75, 3) := by decide +kernel
theorem dX7_plannedExaminer_11 : decode cX7_plannedExaminer 11 = .ok (.ifCond .ne 7, 3) := by decide +kernel
theorem dX7_plannedExaminer_14 : decode cX7_plannedExaminer 14 = .ok (.iconst 1, 1) := by decide +kernel
theorem dX7_plannedExaminer_15 : decode cX7_plannedExaminer 15 = .ok (.goto 17, 3) := by decide +kernel
theorem dX7_plannedExaminer_18 : decode cX7_plannedExaminer 18 = .ok (.aload_n 0, 1) := by decide +kernel
theorem dX7_plannedExaminer_19 : decode cX7_plannedExaminer 19 = .ok (.getfield 32, 3) := by decide +kernel
theorem dX7_plannedExaminer_22 : decode cX7_plannedExaminer 22 = .ok (.iload_n 1, 1) := by decide +kernel
theorem dX7_plannedExaminer_23 : decode cX7_plannedExaminer 23 = .ok (.iaload, 1) := by decide +kernel
theorem dX7_plannedExaminer_24 : decode cX7_plannedExaminer 24 = .ok (.ifCond .ge 7, 3) := by decide +kernel
theorem dX7_plannedExaminer_27 : decode cX7_plannedExaminer 27 = .ok (.iconst 2, 1) := by decide +kernel
theorem dX7_plannedExaminer_28 : decode cX7_plannedExaminer 28 = .ok (.goto 4, 3) := by decide +kernel
theorem dX7_plannedExaminer_31 : decode cX7_plannedExaminer 31 = .ok (.iconst 0, 1) := by decide +kernel
theorem dX7_plannedExaminer_32 : decode cX7_plannedExaminer 32 = .ok (.putfield 55, 3) := by decide +kernel
theorem dX7_plannedExaminer_35 : decode cX7_plannedExaminer 35 = .ok (.aload_n 0, 1) := by decide +kernel
theorem dX7_plannedExaminer_36 : decode cX7_plannedExaminer 36 = .ok (.getfield 55, 3) := by decide +kernel
theorem dX7_plannedExaminer_39 : decode cX7_plannedExaminer 39 = .ok (.ifCond .le 7, 3) := by decide +kernel
theorem dX7_plannedExaminer_42 : decode cX7_plannedExaminer 42 = .ok (.iconst 0, 1) := by decide +kernel
theorem dX7_plannedExaminer_43 : decode cX7_plannedExaminer 43 = .ok (.goto 9, 3) := by decide +kernel
theorem dX7_plannedExaminer_46 : decode cX7_plannedExaminer 46 = .ok (.aload_n 0, 1) := by decide +kernel
theorem dX7_plannedExaminer_47 : decode cX7_plannedExaminer 47 = .ok (.getfield 32, 3) := by decide +kernel
theorem dX7_plannedExaminer_50 : decode cX7_plannedExaminer 50 = .ok (.iload_n 1, 1) := by decide +kernel
theorem dX7_plannedExaminer_51 : decode cX7_plannedExaminer 51 = .ok (.iaload, 1) := by decide +kernel
theorem dX7_plannedExaminer_52 : decode cX7_plannedExaminer 52 = .ok (.ireturn, 1) := by decide +kernel
theorem dX7_panelCount_0 : decode cX7_panelCount 0 = .ok (.aload_n 0, 1) := by decide +kernel
theorem dX7_panelCount_1 : decode cX7_panelCount 1 = .ok (.aload_n 0, 1) := by decide +kernel
theorem dX7_panelCount_2 : decode cX7_panelCount 2 = .ok (.iload_n 1, 1) := by decide +kernel
theorem dX7_panelCount_3 : decode cX7_panelCount 3 = .ok (.invokevirtual 75, 3) := by decide +kernel
theorem dX7_panelCount_6 : decode cX7_panelCount 6 = .ok (.invokevirtual 204, 3) := by decide +kernel
theorem dX7_panelCount_9 : decode cX7_panelCount 9 = .ok (.ifCond .eq 11, 3) := by decide +kernel
theorem dX7_panelCount_12 : decode cX7_panelCount 12 = .ok (.aload_n 0, 1) := by decide +kernel
theorem dX7_panelCount_13 : decode cX7_panelCount 13 = .ok (.iload_n 1, 1) := by decide +kernel
theorem dX7_panelCount_14 : decode cX7_panelCount 14 = .ok (.invokevirtual 183, 3) := by decide +kernel
theorem dX7_panelCount_17 : decode cX7_panelCount 17 = .ok (.goto 4, 3) := by decide +kernel
theorem dX7_panelCount_20 : decode cX7_panelCount 20 = .ok (.iconst 0, 1) := by decide +kernel
theorem dX7_panelCount_21 : decode cX7_panelCount 21 = .ok (.ireturn, 1) := by decide +kernel
theorem dX7_panelCountByFrames_0 : decode cX7_panelCountByFrames 0 = .ok (.aload_n 0, 1) := by decide +kernel
theorem dX7_panelCountByFrames_1 : decode cX7_panelCountByFrames 1 = .ok (.iload_n 1, 1) := by decide +kernel
theorem dX7_panelCountByFrames_2 : decode cX7_panelCountByFrames 2 = .ok (.invokevirtual 211, 3) := by decide +kernel
theorem dX7_panelCountByFrames_5 : decode cX7_panelCountByFrames 5 = .ok (.ireturn, 1) := by decide +kernel
theorem dX7_panelMember_0 : decode cX7_panelMember 0 = .ok (.aload_n 0, 1) := by decide +kernel
theorem dX7_panelMember_1 : decode cX7_panelMember 1 = .ok (.aload_n 0, 1) := by decide +kernel
theorem dX7_panelMember_2 : decode cX7_panelMember 2 = .ok (.iload_n 1, 1) := by decide +kernel
theorem dX7_panelMember_3 : decode cX7_panelMember 3 = .ok (.invokevirtual 75, 3) := by decide +kernel
theorem dX7_panelMember_6 : decode cX7_panelMember 6 = .ok (.ifCond .ne 7, 3) := by decide +kernel
theorem dX7_panelMember_9 : decode cX7_panelMember 9 = .ok (.iconst 1, 1) := by decide +kernel
theorem dX7_panelMember_10 : decode cX7_panelMember 10 = .ok (.goto 29, 3) := by decide +kernel
theorem dX7_panelMember_13 : decode cX7_panelMember 13 = .ok (.iload_n 2, 1) := by decide +kernel
theorem dX7_panelMember_14 : decode cX7_panelMember 14 = .ok (.iconst 0, 1) := by decide +kernel
theorem dX7_panelMember_15 : decode cX7_panelMember 15 = .ok (.iconst 2, 1) := by decide +kernel
theorem dX7_panelMember_16 : decode cX7_panelMember 16 = .ok (.invokestatic 67, 3) := by decide +kernel
theorem dX7_panelMember_19 : decode cX7_panelMember 19 = .ok (.ifCond .ne 7, 3) := by decide +kernel
theorem dX7_panelMember_22 : decode cX7_panelMember 22 = .ok (.iconst 2, 1) := by decide +kernel
theorem dX7_panelMember_23 : decode cX7_panelMember 23 = .ok (.goto 16, 3) := by decide +kernel
theorem dX7_panelMember_26 : decode cX7_panelMember 26 = .ok (.aload_n 0, 1) := by decide +kernel
theorem dX7_panelMember_27 : decode cX7_panelMember 27 = .ok (.iload_n 1, 1) := by decide +kernel
theorem dX7_panelMember_28 : decode cX7_panelMember 28 = .ok (.invokevirtual 183, 3) := by decide +kernel
theorem dX7_panelMember_31 : decode cX7_panelMember 31 = .ok (.ifCond .ne 7, 3) := by decide +kernel
theorem dX7_panelMember_34 : decode cX7_panelMember 34 = .ok (.iconst 3, 1) := by decide +kernel
theorem dX7_panelMember_35 : decode cX7_panelMember 35 = .ok (.goto 4, 3) := by decide +kernel
theorem dX7_panelMember_38 : decode cX7_panelMember 38 = .ok (.iconst 0, 1) := by decide +kernel
theorem dX7_panelMember_39 : decode cX7_panelMember 39 = .ok (.putfield 55, 3) := by decide +kernel
theorem dX7_panelMember_42 : decode cX7_panelMember 42 = .ok (.aload_n 0, 1) := by decide +kernel
theorem dX7_panelMember_43 : decode cX7_panelMember 43 = .ok (.getfield 55, 3) := by decide +kernel
theorem dX7_panelMember_46 : decode cX7_panelMember 46 = .ok (.ifCond .le 7, 3) := by decide +kernel
theorem dX7_panelMember_49 : decode cX7_panelMember 49 = .ok (.iconst 0, 1) := by decide +kernel
theorem dX7_panelMember_50 : decode cX7_panelMember 50 = .ok (.goto 9, 3) := by decide +kernel
theorem dX7_panelMember_53 : decode cX7_panelMember 53 = .ok (.aload_n 0, 1) := by decide +kernel
theorem dX7_panelMember_54 : decode cX7_panelMember 54 = .ok (.getfield 35, 3) := by decide +kernel
theorem dX7_panelMember_57 : decode cX7_panelMember 57 = .ok (.iload_n 2, 1) := by decide +kernel
theorem dX7_panelMember_58 : decode cX7_panelMember 58 = .ok (.iaload, 1) := by decide +kernel
theorem dX7_panelMember_59 : decode cX7_panelMember 59 = .ok (.ireturn, 1) := by decide +kernel
theorem dX7_threshold_0 : decode cX7_threshold 0 = .ok (.aload_n 0, 1) := by decide +kernel
theorem dX7_threshold_1 : decode cX7_threshold 1 = .ok (.iconst 0, 1) := by decide +kernel
theorem dX7_threshold_2 : decode cX7_threshold 2 = .ok (.putfield 55, 3) := by decide +kernel
theorem dX7_threshold_5 : decode cX7_threshold 5 = .ok (.aload_n 0, 1) := by decide +kernel
theorem dX7_threshold_6 : decode cX7_threshold 6 = .ok (.getfield 9, 3) := by decide +kernel
theorem dX7_threshold_9 : decode cX7_threshold 9 = .ok (.iconst 2, 1) := by decide +kernel
theorem dX7_threshold_10 : decode cX7_threshold 10 = .ok (.iaload, 1) := by decide +kernel
theorem dX7_threshold_11 : decode cX7_threshold 11 = .ok (.ireturn, 1) := by decide +kernel
theorem dX7_entryCount_0 : decode cX7_entryCount 0 = .ok (.aload_n 0, 1) := by decide +kernel
theorem dX7_entryCount_1 : decode cX7_entryCount 1 = .ok (.iconst 0, 1) := by decide +kernel
theorem dX7_entryCount_2 : decode cX7_entryCount 2 = .ok (.putfield 55, 3) := by decide +kernel
theorem dX7_entryCount_5 : decode cX7_entryCount 5 = .ok (.aload_n 0, 1) := by decide +kernel
theorem dX7_entryCount_6 : decode cX7_entryCount 6 = .ok (.getfield 9, 3) := by decide +kernel
theorem dX7_entryCount_9 : decode cX7_entryCount 9 = .ok (.iconst 3, 1) := by decide +kernel
theorem dX7_entryCount_10 : decode cX7_entryCount 10 = .ok (.iaload, 1) := by decide +kernel
theorem dX7_entryCount_11 : decode cX7_entryCount 11 = .ok (.ireturn, 1) := by decide +kernel
theorem dX7_doorOf_0 : decode cX7_doorOf 0 = .ok (.aload_n 0, 1) := by decide +kernel
theorem dX7_doorOf_1 : decode cX7_doorOf 1 = .ok (.aload_n 0, 1) := by decide +kernel
theorem dX7_doorOf_2 : decode cX7_doorOf 2 = .ok (.iload_n 1, 1) := by decide +kernel
theorem dX7_doorOf_3 : decode cX7_doorOf 3 = .ok (.invokevirtual 195, 3) := by decide +kernel
theorem dX7_doorOf_6 : decode cX7_doorOf 6 = .ok (.invokevirtual 204, 3) := by decide +kernel
theorem dX7_doorOf_9 : decode cX7_doorOf 9 = .ok (.ifCond .eq 20, 3) := by decide +kernel
theorem dX7_doorOf_12 : decode cX7_doorOf 12 = .ok (.aload_n 0, 1) := by decide +kernel
theorem dX7_doorOf_13 : decode cX7_doorOf 13 = .ok (.getfield 9, 3) := by decide +kernel
theorem dX7_doorOf_16 : decode cX7_doorOf 16 = .ok (.sipush 212, 3) := by decide +kernel
theorem dX7_doorOf_19 : decode cX7_doorOf 19 = .ok (.iconst 2, 1) := by decide +kernel
theorem dX7_doorOf_20 : decode cX7_doorOf 20 = .ok (.iload_n 1, 1) := by decide +kernel
theorem dX7_doorOf_21 : decode cX7_doorOf 21 = .ok (.imul, 1) := by decide +kernel
theorem dX7_doorOf_22 : decode cX7_doorOf 22 = .ok (.iadd, 1) := by decide +kernel
theorem dX7_doorOf_23 : decode cX7_doorOf 23 = .ok (.iconst 2, 1) := by decide +kernel
theorem dX7_doorOf_24 : decode cX7_doorOf 24 = .ok (.isub, 1) := by decide +kernel
theorem dX7_doorOf_25 : decode cX7_doorOf 25 = .ok (.iaload, 1) := by decide +kernel
theorem dX7_doorOf_26 : decode cX7_doorOf 26 = .ok (.goto 4, 3) := by decide +kernel
theorem dX7_doorOf_29 : decode cX7_doorOf 29 = .ok (.iconst 0, 1) := by decide +kernel
theorem dX7_doorOf_30 : decode cX7_doorOf 30 = .ok (.ireturn, 1) := by decide +kernel
theorem dX7_isRevoked_0 : decode cX7_isRevoked 0 = .ok (.aload_n 0, 1) := by decide +kernel
theorem dX7_isRevoked_1 : decode cX7_isRevoked 1 = .ok (.aload_n 0, 1) := by decide +kernel
theorem dX7_isRevoked_2 : decode cX7_isRevoked 2 = .ok (.iload_n 1, 1) := by decide +kernel
theorem dX7_isRevoked_3 : decode cX7_isRevoked 3 = .ok (.invokevirtual 195, 3) := by decide +kernel
theorem dX7_isRevoked_6 : decode cX7_isRevoked 6 = .ok (.invokevirtual 204, 3) := by decide +kernel
theorem dX7_isRevoked_9 : decode cX7_isRevoked 9 = .ok (.ifCond .eq 15, 3) := by decide +kernel
theorem dX7_isRevoked_12 : decode cX7_isRevoked 12 = .ok (.aload_n 0, 1) := by decide +kernel
theorem dX7_isRevoked_13 : decode cX7_isRevoked 13 = .ok (.iload_n 1, 1) := by decide +kernel
theorem dX7_isRevoked_14 : decode cX7_isRevoked 14 = .ok (.invokevirtual 198, 3) := by decide +kernel
theorem dX7_isRevoked_17 : decode cX7_isRevoked 17 = .ok (.ifCond .eq 7, 3) := by decide +kernel
theorem dX7_isRevoked_20 : decode cX7_isRevoked 20 = .ok (.iconst 1, 1) := by decide +kernel
theorem dX7_isRevoked_21 : decode cX7_isRevoked 21 = .ok (.goto 4, 3) := by decide +kernel
