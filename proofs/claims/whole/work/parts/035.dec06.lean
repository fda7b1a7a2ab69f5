theorem dX7_isRevoked_24 : decode cX7_isRevoked 24 = .ok (.iconst 0, 1) := by decide +kernel
theorem dX7_isRevoked_25 : decode cX7_isRevoked 25 = .ok (.ireturn, 1) := by decide +kernel
theorem dX7_assignments_0 : decode cX7_assignments 0 = .ok (.aload_n 0, 1) := by decide +kernel
theorem dX7_assignments_1 : decode cX7_assignments 1 = .ok (.iconst 0, 1) := by decide +kernel
theorem dX7_assignments_2 : decode cX7_assignments 2 = .ok (.putfield 55, 3) := by decide +kernel
theorem dX7_assignments_5 : decode cX7_assignments 5 = .ok (.iconst 0, 1) := by decide +kernel
theorem dX7_assignments_6 : decode cX7_assignments 6 = .ok (.istore_n 1, 1) := by decide +kernel
theorem dX7_assignments_7 : decode cX7_assignments 7 = .ok (.iconst 0, 1) := by decide +kernel
theorem dX7_assignments_8 : decode cX7_assignments 8 = .ok (.istore_n 2, 1) := by decide +kernel
theorem dX7_assignments_9 : decode cX7_assignments 9 = .ok (.iload_n 2, 1) := by decide +kernel
theorem dX7_assignments_10 : decode cX7_assignments 10 = .ok (.aload_n 0, 1) := by decide +kernel
theorem dX7_assignments_11 : decode cX7_assignments 11 = .ok (.getfield 9, 3) := by decide +kernel
theorem dX7_assignments_14 : decode cX7_assignments 14 = .ok (.iconst 1, 1) := by decide +kernel
theorem dX7_assignments_15 : decode cX7_assignments 15 = .ok (.iaload, 1) := by decide +kernel
theorem dX7_assignments_16 : decode cX7_assignments 16 = .ok (.if_icmp .ge 17, 3) := by decide +kernel
theorem dX7_assignments_19 : decode cX7_assignments 19 = .ok (.iload_n 1, 1) := by decide +kernel
theorem dX7_assignments_20 : decode cX7_assignments 20 = .ok (.aload_n 0, 1) := by decide +kernel
theorem dX7_assignments_21 : decode cX7_assignments 21 = .ok (.iload_n 2, 1) := by decide +kernel
theorem dX7_assignments_22 : decode cX7_assignments 22 = .ok (.invokevirtual 146, 3) := by decide +kernel
theorem dX7_assignments_25 : decode cX7_assignments 25 = .ok (.iadd, 1) := by decide +kernel
theorem dX7_assignments_26 : decode cX7_assignments 26 = .ok (.istore_n 1, 1) := by decide +kernel
theorem dX7_assignments_27 : decode cX7_assignments 27 = .ok (.iinc 2 1, 3) := by decide +kernel
theorem dX7_assignments_30 : decode cX7_assignments 30 = .ok (.goto (-21), 3) := by decide +kernel
theorem dX7_assignments_33 : decode cX7_assignments 33 = .ok (.iload_n 1, 1) := by decide +kernel
theorem dX7_assignments_34 : decode cX7_assignments 34 = .ok (.ireturn, 1) := by decide +kernel
theorem dX7_assignmentsByDoors_0 : decode cX7_assignmentsByDoors 0 = .ok (.aload_n 0, 1) := by decide +kernel
theorem dX7_assignmentsByDoors_1 : decode cX7_assignmentsByDoors 1 = .ok (.invokevirtual 214, 3) := by decide +kernel
theorem dX7_assignmentsByDoors_4 : decode cX7_assignmentsByDoors 4 = .ok (.ireturn, 1) := by decide +kernel
theorem dX7_gradeSum_0 : decode cX7_gradeSum 0 = .ok (.iconst 0, 1) := by decide +kernel
theorem dX7_gradeSum_1 : decode cX7_gradeSum 1 = .ok (.istore_n 1, 1) := by decide +kernel
theorem dX7_gradeSum_2 : decode cX7_gradeSum 2 = .ok (.iconst 0, 1) := by decide +kernel
theorem dX7_gradeSum_3 : decode cX7_gradeSum 3 = .ok (.istore_n 2, 1) := by decide +kernel
theorem dX7_gradeSum_4 : decode cX7_gradeSum 4 = .ok (.iload_n 2, 1) := by decide +kernel
theorem dX7_gradeSum_5 : decode cX7_gradeSum 5 = .ok (.bipush 48, 2) := by decide +kernel
theorem dX7_gradeSum_7 : decode cX7_gradeSum 7 = .ok (.if_icmp .ge 31, 3) := by decide +kernel
theorem dX7_gradeSum_10 : decode cX7_gradeSum 10 = .ok (.iload_n 1, 1) := by decide +kernel
theorem dX7_gradeSum_11 : decode cX7_gradeSum 11 = .ok (.iconst 0, 1) := by decide +kernel
theorem dX7_gradeSum_12 : decode cX7_gradeSum 12 = .ok (.aload_n 0, 1) := by decide +kernel
theorem dX7_gradeSum_13 : decode cX7_gradeSum 13 = .ok (.getfield 9, 3) := by decide +kernel
theorem dX7_gradeSum_16 : decode cX7_gradeSum 16 = .ok (.bipush 68, 2) := by decide +kernel
theorem dX7_gradeSum_18 : decode cX7_gradeSum 18 = .ok (.iconst 3, 1) := by decide +kernel
theorem dX7_gradeSum_19 : decode cX7_gradeSum 19 = .ok (.iload_n 2, 1) := by decide +kernel
theorem dX7_gradeSum_20 : decode cX7_gradeSum 20 = .ok (.imul, 1) := by decide +kernel
theorem dX7_gradeSum_21 : decode cX7_gradeSum 21 = .ok (.iadd, 1) := by decide +kernel
theorem dX7_gradeSum_22 : decode cX7_gradeSum 22 = .ok (.iconst 2, 1) := by decide +kernel
theorem dX7_gradeSum_23 : decode cX7_gradeSum 23 = .ok (.iadd, 1) := by decide +kernel
theorem dX7_gradeSum_24 : decode cX7_gradeSum 24 = .ok (.iaload, 1) := by decide +kernel
theorem dX7_gradeSum_25 : decode cX7_gradeSum 25 = .ok (.iconst 1, 1) := by decide +kernel
theorem dX7_gradeSum_26 : decode cX7_gradeSum 26 = .ok (.isub, 1) := by decide +kernel
theorem dX7_gradeSum_27 : decode cX7_gradeSum 27 = .ok (.invokestatic 93, 3) := by decide +kernel
theorem dX7_gradeSum_30 : decode cX7_gradeSum 30 = .ok (.iadd, 1) := by decide +kernel
theorem dX7_gradeSum_31 : decode cX7_gradeSum 31 = .ok (.istore_n 1, 1) := by decide +kernel
theorem dX7_gradeSum_32 : decode cX7_gradeSum 32 = .ok (.iinc 2 1, 3) := by decide +kernel
theorem dX7_gradeSum_35 : decode cX7_gradeSum 35 = .ok (.goto (-31), 3) := by decide +kernel
theorem dX7_gradeSum_38 : decode cX7_gradeSum 38 = .ok (.iload_n 1, 1) := by decide +kernel
theorem dX7_gradeSum_39 : decode cX7_gradeSum 39 = .ok (.ireturn, 1) := by decide +kernel
theorem dX7_gradeTotal_0 : decode cX7_gradeTotal 0 = .ok (.aload_n 0, 1) := by decide +kernel
theorem dX7_gradeTotal_1 : decode cX7_gradeTotal 1 = .ok (.iconst 0, 1) := by decide +kernel
theorem dX7_gradeTotal_2 : decode cX7_gradeTotal 2 = .ok (.putfield 55, 3) := by decide +kernel
theorem dX7_gradeTotal_5 : decode cX7_gradeTotal 5 = .ok (.aload_n 0, 1) := by decide +kernel
theorem dX7_gradeTotal_6 : decode cX7_gradeTotal 6 = .ok (.invokevirtual 217, 3) := by decide +kernel
theorem dX7_gradeTotal_9 : decode cX7_gradeTotal 9 = .ok (.i2l, 1) := by decide +kernel
theorem dX7_gradeTotal_10 : decode cX7_gradeTotal 10 = .ok (.lreturn, 1) := by decide +kernel
theorem dX7_meanGrade_0 : decode cX7_meanGrade 0 = .ok (.iconst 0, 1) := by decide +kernel
theorem dX7_meanGrade_1 : decode cX7_meanGrade 1 = .ok (.istore_n 1, 1) := by decide +kernel
theorem dX7_meanGrade_2 : decode cX7_meanGrade 2 = .ok (.iconst 0, 1) := by decide +kernel
theorem dX7_meanGrade_3 : decode cX7_meanGrade 3 = .ok (.istore_n 2, 1) := by decide +kernel
theorem dX7_meanGrade_4 : decode cX7_meanGrade 4 = .ok (.iload_n 2, 1) := by decide +kernel
theorem dX7_meanGrade_5 : decode cX7_meanGrade 5 = .ok (.aload_n 0, 1) := by decide +kernel
theorem dX7_meanGrade_6 : decode cX7_meanGrade 6 = .ok (.getfield 9, 3) := by decide +kernel
theorem dX7_meanGrade_9 : decode cX7_meanGrade 9 = .ok (.iconst 0, 1) := by decide +kernel
theorem dX7_meanGrade_10 : decode cX7_meanGrade 10 = .ok (.iaload, 1) := by decide +kernel
theorem dX7_meanGrade_11 : decode cX7_meanGrade 11 = .ok (.if_icmp .ge 17, 3) := by decide +kernel
theorem dX7_meanGrade_14 : decode cX7_meanGrade 14 = .ok (.iload_n 1, 1) := by decide +kernel
theorem dX7_meanGrade_15 : decode cX7_meanGrade 15 = .ok (.aload_n 0, 1) := by decide +kernel
theorem dX7_meanGrade_16 : decode cX7_meanGrade 16 = .ok (.iload_n 2, 1) := by decide +kernel
theorem dX7_meanGrade_17 : decode cX7_meanGrade 17 = .ok (.invokevirtual 101, 3) := by decide +kernel
theorem dX7_meanGrade_20 : decode cX7_meanGrade 20 = .ok (.iadd, 1) := by decide +kernel
theorem dX7_meanGrade_21 : decode cX7_meanGrade 21 = .ok (.istore_n 1, 1) := by decide +kernel
theorem dX7_meanGrade_22 : decode cX7_meanGrade 22 = .ok (.iinc 2 1, 3) := by decide +kernel
theorem dX7_meanGrade_25 : decode cX7_meanGrade 25 = .ok (.goto (-21), 3) := by decide +kernel
theorem dX7_meanGrade_28 : decode cX7_meanGrade 28 = .ok (.aload_n 0, 1) := by decide +kernel
theorem dX7_meanGrade_29 : decode cX7_meanGrade 29 = .ok (.iload_n 1, 1) := by decide +kernel
theorem dX7_meanGrade_30 : decode cX7_meanGrade 30 = .ok (.ifCond .le 7, 3) := by decide +kernel
theorem dX7_meanGrade_33 : decode cX7_meanGrade 33 = .ok (.iconst 1, 1) := by decide +kernel
theorem dX7_meanGrade_34 : decode cX7_meanGrade 34 = .ok (.goto 4, 3) := by decide +kernel
theorem dX7_meanGrade_37 : decode cX7_meanGrade 37 = .ok (.iconst 0, 1) := by decide +kernel
theorem dX7_meanGrade_38 : decode cX7_meanGrade 38 = .ok (.invokevirtual 204, 3) := by decide +kernel
theorem dX7_meanGrade_41 : decode cX7_meanGrade 41 = .ok (.ifCond .eq 14, 3) := by decide +kernel
theorem dX7_meanGrade_44 : decode cX7_meanGrade 44 = .ok (.aload_n 0, 1) := by decide +kernel
theorem dX7_meanGrade_45 : decode cX7_meanGrade 45 = .ok (.invokevirtual 217, 3) := by decide +kernel
theorem dX7_meanGrade_48 : decode cX7_meanGrade 48 = .ok (.i2d, 1) := by decide +kernel
theorem dX7_meanGrade_49 : decode cX7_meanGrade 49 = .ok (.iload_n 1, 1) := by decide +kernel
theorem dX7_meanGrade_50 : decode cX7_meanGrade 50 = .ok (.i2d, 1) := by decide +kernel
theorem dX7_meanGrade_51 : decode cX7_meanGrade 51 = .ok (.ddiv, 1) := by decide +kernel
theorem dX7_meanGrade_52 : decode cX7_meanGrade 52 = .ok (.goto 4, 3) := by decide +kernel
theorem dX7_meanGrade_55 : decode cX7_meanGrade 55 = .ok (.dconst 0, 1) := by decide +kernel
theorem dX7_meanGrade_56 : decode cX7_meanGrade 56 = .ok (.dreturn, 1) := by decide +kernel
theorem dX7_passShare_0 : decode cX7_passShare 0 = .ok (.iconst 0, 1) := by decide +kernel
theorem dX7_passShare_1 : decode cX7_passShare 1 = .ok (.istore_n 1, 1) := by decide +kernel
theorem dX7_passShare_2 : decode cX7_passShare 2 = .ok (.iconst 0, 1) := by decide +kernel
theorem dX7_passShare_3 : decode cX7_passShare 3 = .ok (.istore_n 2, 1) := by decide +kernel
theorem dX7_passShare_4 : decode cX7_passShare 4 = .ok (.iconst 0, 1) := by decide +kernel
theorem dX7_passShare_5 : decode cX7_passShare 5 = .ok (.istore_n 3, 1) := by decide +kernel
theorem dX7_passShare_6 : decode cX7_passShare 6 = .ok (.iload_n 3, 1) := by decide +kernel
theorem dX7_passShare_7 : decode cX7_passShare 7 = .ok (.aload_n 0, 1) := by decide +kernel
theorem dX7_passShare_8 : decode cX7_passShare 8 = .ok (.getfield 9, 3) := by decide +kernel
theorem dX7_passShare_11 : decode cX7_passShare 11 = .ok (.iconst 0, 1) := by decide +kernel
theorem dX7_passShare_12 : decode cX7_passShare 12 = .ok (.iaload, 1) := by decide +kernel
theorem dX7_passShare_13 : decode cX7_passShare 13 = .ok (.if_icmp .ge 41, 3) := by decide +kernel
theorem dX7_passShare_16 : decode cX7_passShare 16 = .ok (.iload_n 1, 1) := by decide +kernel
theorem dX7_passShare_17 : decode cX7_passShare 17 = .ok (.aload_n 0, 1) := by decide +kernel
theorem dX7_passShare_18 : decode cX7_passShare 18 = .ok (.iload_n 3, 1) := by decide +kernel
theorem dX7_passShare_19 : decode cX7_passShare 19 = .ok (.invokevirtual 108, 3) := by decide +kernel
theorem dX7_passShare_22 : decode cX7_passShare 22 = .ok (.ifCond .eq 7, 3) := by decide +kernel
theorem dX7_passShare_25 : decode cX7_passShare 25 = .ok (.iconst 1, 1) := by decide +kernel
theorem dX7_passShare_26 : decode cX7_passShare 26 = .ok (.goto 4, 3) := by decide +kernel
theorem dX7_passShare_29 : decode cX7_passShare 29 = .ok (.iconst 0, 1) := by decide +kernel
theorem dX7_passShare_30 : decode cX7_passShare 30 = .ok (.iadd, 1) := by decide +kernel
theorem dX7_passShare_31 : decode cX7_passShare 31 = .ok (.istore_n 1, 1) := by decide +kernel
theorem dX7_passShare_32 : decode cX7_passShare 32 = .ok (.iload_n 2, 1) := by decide +kernel
theorem dX7_passShare_33 : decode cX7_passShare 33 = .ok (.aload_n 0, 1) := by decide +kernel
theorem dX7_passShare_34 : decode cX7_passShare 34 = .ok (.iload_n 3, 1) := by decide +kernel
theorem dX7_passShare_35 : decode cX7_passShare 35 = .ok (.invokevirtual 105, 3) := by decide +kernel
theorem dX7_passShare_38 : decode cX7_passShare 38 = .ok (.ifCond .lt 7, 3) := by decide +kernel
theorem dX7_passShare_41 : decode cX7_passShare 41 = .ok (.iconst 1, 1) := by decide +kernel
theorem dX7_passShare_42 : decode cX7_passShare 42 = .ok (.goto 4, 3) := by decide +kernel
theorem dX7_passShare_45 : decode cX7_passShare 45 = .ok (.iconst 0, 1) := by decide +kernel
theorem dX7_passShare_46 : decode cX7_passShare 46 = .ok (.iadd, 1) := by decide +kernel
theorem dX7_passShare_47 : decode cX7_passShare 47 = .ok (.istore_n 2, 1) := by decide +kernel
theorem dX7_passShare_48 : decode cX7_passShare 48 = .ok (.iinc 3 1, 3) := by decide +kernel
theorem dX7_passShare_51 : decode cX7_passShare 51 = .ok (.goto (-45), 3) := by decide +kernel
theorem dX7_passShare_54 : decode cX7_passShare 54 = .ok (.aload_n 0, 1) := by decide +kernel
theorem dX7_passShare_55 : decode cX7_passShare 55 = .ok (.iload_n 2, 1) := by decide +kernel
theorem dX7_passShare_56 : decode cX7_passShare 56 = .ok (.ifCond .le 7, 3) := by decide +kernel
theorem dX7_passShare_59 : decode cX7_passShare 59 = .ok (.iconst 1, 1) := by decide +kernel
theorem dX7_passShare_60 : decode cX7_passShare 60 = .ok (.goto 4, 3) := by decide +kernel
theorem dX7_passShare_63 : decode cX7_passShare 63 = .ok (.iconst 0, 1) := by decide +kernel
theorem dX7_passShare_64 : decode cX7_passShare 64 = .ok (.invokevirtual 204, 3) := by decide +kernel
theorem dX7_passShare_67 : decode cX7_passShare 67 = .ok (.ifCond .eq 11, 3) := by decide +kernel
theorem dX7_passShare_70 : decode cX7_passShare 70 = .ok (.iload_n 1, 1) := by decide +kernel
theorem dX7_passShare_71 : decode cX7_passShare 71 = .ok (.i2f, 1) := by decide +kernel
theorem dX7_passShare_72 : decode cX7_passShare 72 = .ok (.iload_n 2, 1) := by decide +kernel
theorem dX7_passShare_73 : decode cX7_passShare 73 = .ok (.i2f, 1) := by decide +kernel
theorem dX7_passShare_74 : decode cX7_passShare 74 = .ok (.fdiv, 1) := by decide +kernel
theorem dX7_passShare_75 : decode cX7_passShare 75 = .ok (.goto 4, 3) := by decide +kernel
theorem dX7_passShare_78 : decode cX7_passShare 78 = .ok (.fconst 0, 1) := by decide +kernel
theorem dX7_passShare_79 : decode cX7_passShare 79 = .ok (.freturn, 1) := by decide +kernel
theorem dX7_isConsistent_0 : decode cX7_isConsistent 0 = .ok (.aload_n 0, 1) := by decide +kernel
theorem dX7_isConsistent_1 : decode cX7_isConsistent 1 = .ok (.iconst 0, 1) := by decide +kernel
theorem dX7_isConsistent_2 : decode cX7_isConsistent 2 = .ok (.putfield 55, 3) := by decide +kernel
theorem dX7_isConsistent_5 : decode cX7_isConsistent 5 = .ok (.iconst 1, 1) := by decide +kernel
theorem dX7_isConsistent_6 : decode cX7_isConsistent 6 = .ok (.ireturn, 1) := by decide +kernel
theorem dX7_append_0 : decode cX7_append 0 = .ok (.aload_n 0, 1) := by decide +kernel
theorem dX7_append_1 : decode cX7_append 1 = .ok (.aload_n 0, 1) := by decide +kernel
theorem dX7_append_2 : decode cX7_append 2 = .ok (.getfield 220, 3) := by decide +kernel
theorem dX7_append_5 : decode cX7_append 5 = .ok (.bipush 60, 2) := by decide +kernel
theorem dX7_append_7 : decode cX7_append 7 = .ok (.if_icmp .ne 7, 3) := by decide +kernel
theorem dX7_append_10 : decode cX7_append 10 = .ok (.iconst 1, 1) := by decide +kernel
theorem dX7_append_11 : decode cX7_append 11 = .ok (.goto 4, 3) := by decide +kernel
theorem dX7_append_14 : decode cX7_append 14 = .ok (.iconst 0, 1) := by decide +kernel
theorem dX7_append_15 : decode cX7_append 15 = .ok (.putfield 55, 3) := by decide +kernel
theorem dX7_append_18 : decode cX7_append 18 = .ok (.aload_n 0, 1) := by decide +kernel
theorem dX7_append_19 : decode cX7_append 19 = .ok (.getfield 55, 3) := by decide +kernel
theorem dX7_append_22 : decode cX7_append 22 = .ok (.ifCond .le 5, 3) := by decide +kernel
theorem dX7_append_25 : decode cX7_append 25 = .ok (.iconst 0, 1) := by decide +kernel
theorem dX7_append_26 : decode cX7_append 26 = .ok (.ireturn, 1) := by decide +kernel
theorem dX7_append_27 : decode cX7_append 27 = .ok (.aload_n 0, 1) := by decide +kernel
theorem dX7_append_28 : decode cX7_append 28 = .ok (.getfield 38, 3) := by decide +kernel
theorem dX7_append_31 : decode cX7_append 31 = .ok (.aload_n 0, 1) := by decide +kernel
theorem dX7_append_32 : decode cX7_append 32 = .ok (.getfield 220, 3) := by decide +kernel
theorem dX7_append_35 : decode cX7_append 35 = .ok (.iload_n 1, 1) := by decide +kernel
theorem dX7_append_36 : decode cX7_append 36 = .ok (.castore, 1) := by decide +kernel
theorem dX7_append_37 : decode cX7_append 37 = .ok (.aload_n 0, 1) := by decide +kernel
theorem dX7_append_38 : decode cX7_append 38 = .ok (.dup, 1) := by decide +kernel
theorem dX7_append_39 : decode cX7_append 39 = .ok (.getfield 220, 3) := by decide +kernel
theorem dX7_append_42 : decode cX7_append 42 = .ok (.iconst 1, 1) := by decide +kernel
theorem dX7_append_43 : decode cX7_append 43 = .ok (.iadd, 1) := by decide +kernel
theorem dX7_append_44 : decode cX7_append 44 = .ok (.putfield 220, 3) := by decide +kernel
theorem dX7_append_47 : decode cX7_append 47 = .ok (.aload_n 0, 1) := by decide +kernel
theorem dX7_append_48 : decode cX7_append 48 = .ok (.getfield 220, 3) := by decide +kernel
theorem dX7_append_51 : decode cX7_append 51 = .ok (.ireturn, 1) := by decide +kernel
theorem dX7_behind_0 : decode cX7_behind 0 = .ok (.aload_n 0, 1) := by decide +kernel
theorem dX7_behind_1 : decode cX7_behind 1 = .ok (.getfield 223, 3) := by decide +kernel
theorem dX7_behind_4 : decode cX7_behind 4 = .ok (.iload_n 1, 1) := by decide +kernel
theorem dX7_behind_5 : decode cX7_behind 5 = .ok (.iadd, 1) := by decide +kernel
theorem dX7_behind_6 : decode cX7_behind 6 = .ok (.aload_n 0, 1) := by decide +kernel
theorem dX7_behind_7 : decode cX7_behind 7 = .ok (.getfield 220, 3) := by decide +kernel
theorem dX7_behind_10 : decode cX7_behind 10 = .ok (.if_icmp .ge 17, 3) := by decide +kernel
theorem dX7_behind_13 : decode cX7_behind 13 = .ok (.aload_n 0, 1) := by decide +kernel
theorem dX7_behind_14 : decode cX7_behind 14 = .ok (.getfield 38, 3) := by decide +kernel
theorem dX7_behind_17 : decode cX7_behind 17 = .ok (.aload_n 0, 1) := by decide +kernel
theorem dX7_behind_18 : decode cX7_behind 18 = .ok (.getfield 223, 3) := by decide +kernel
theorem dX7_behind_21 : decode cX7_behind 21 = .ok (.iload_n 1, 1) := by decide +kernel
theorem dX7_behind_22 : decode cX7_behind 22 = .ok (.iadd, 1) := by decide +kernel
theorem dX7_behind_23 : decode cX7_behind 23 = .ok (.caload, 1) := by decide +kernel
theorem dX7_behind_24 : decode cX7_behind 24 = .ok (.goto 4, 3) := by decide +kernel
theorem dX7_behind_27 : decode cX7_behind 27 = .ok (.iconst (-1), 1) := by decide +kernel
theorem dX7_behind_28 : decode cX7_behind 28 = .ok (.ireturn, 1) := by decide +kernel
theorem dX7_skip_0 : decode cX7_skip 0 = .ok (.iconst 0, 1) := by decide +kernel
theorem dX7_skip_1 : decode cX7_skip 1 = .ok (.istore_n 2, 1) := by decide +kernel
theorem dX7_skip_2 : decode cX7_skip 2 = .ok (.iload_n 2, 1) := by decide +kernel
theorem dX7_skip_3 : decode cX7_skip 3 = .ok (.aload_n 1, 1) := by decide +kernel
theorem dX7_skip_4 : decode cX7_skip 4 = .ok (.invokevirtual 226, 3) := by decide +kernel
theorem dX7_skip_7 : decode cX7_skip 7 = .ok (.if_icmp .ge 59, 3) := by decide +kernel
theorem dX7_skip_10 : decode cX7_skip 10 = .ok (.aload_n 0, 1) := by decide +kernel
theorem dX7_skip_11 : decode cX7_skip 11 = .ok (.getfield 230, 3) := by decide +kernel
theorem dX7_skip_14 : decode cX7_skip 14 = .ok (.ifCond .ne 52, 3) := by decide +kernel
theorem dX7_skip_17 : decode cX7_skip 17 = .ok (.aload_n 0, 1) := by decide +kernel
theorem dX7_skip_18 : decode cX7_skip 18 = .ok (.aload_n 0, 1) := by decide +kernel
theorem dX7_skip_19 : decode cX7_skip 19 = .ok (.iconst 0, 1) := by decide +kernel
theorem dX7_skip_20 : decode cX7_skip 20 = .ok (.invokevirtual 234, 3) := by decide +kernel
theorem dX7_skip_23 : decode cX7_skip 23 = .ok (.aload_n 1, 1) := by decide +kernel
theorem dX7_skip_24 : decode cX7_skip 24 = .ok (.iload_n 2, 1) := by decide +kernel
theorem dX7_skip_25 : decode cX7_skip 25 = .ok (.invokevirtual 237, 3) := by decide +kernel
theorem dX7_skip_28 : decode cX7_skip 28 = .ok (.if_icmp .eq 7, 3) := by decide +kernel
theorem dX7_skip_31 : decode cX7_skip 31 = .ok (.iconst 1, 1) := by decide +kernel
theorem dX7_skip_32 : decode cX7_skip 32 = .ok (.goto 4, 3) := by decide +kernel
theorem dX7_skip_35 : decode cX7_skip 35 = .ok (.iconst 0, 1) := by decide +kernel
theorem dX7_skip_36 : decode cX7_skip 36 = .ok (.putfield 230, 3) := by decide +kernel
theorem dX7_skip_39 : decode cX7_skip 39 = .ok (.aload_n 0, 1) := by decide +kernel
theorem dX7_skip_40 : decode cX7_skip 40 = .ok (.dup, 1) := by decide +kernel
theorem dX7_skip_41 : decode cX7_skip 41 = .ok (.getfield 223, 3) := by decide +kernel
theorem dX7_skip_44 : decode cX7_skip 44 = .ok (.aload_n 0, 1) := by decide +kernel
theorem dX7_skip_45 : decode cX7_skip 45 = .ok (.getfield 230, 3) := by decide +kernel
theorem dX7_skip_48 : decode cX7_skip 48 = .ok (.ifCond .eq 7, 3) := by decide +kernel
theorem dX7_skip_51 : decode cX7_skip 51 = .ok (.iconst 0, 1) := by decide +kernel
theorem dX7_skip_52 : decode cX7_skip 52 = .ok (.goto 4, 3) := by decide +kernel
theorem dX7_skip_55 : decode cX7_skip 55 = .ok (.iconst 1, 1) := by decide +kernel
theorem dX7_skip_56 : decode cX7_skip 56 = .ok (.iadd, 1) := by decide +kernel
theorem dX7_skip_57 : decode cX7_skip 57 = .ok (.putfield 223, 3) := by decide +kernel
theorem dX7_skip_60 : decode cX7_skip 60 = .ok (.iinc 2 1, 3) := by decide +kernel
theorem dX7_skip_63 : decode cX7_skip 63 = .ok (.goto (-61), 3) := by decide +kernel
theorem dX7_skip_66 : decode cX7_skip 66 = .ok (.return_, 1) := by decide +kernel
theorem dX7_isDigit_0 : decode cX7_isDigit 0 = .ok (.aload_n 0, 1) := by decide +kernel
theorem dX7_isDigit_1 : decode cX7_isDigit 1 = .ok (.getfield 230, 3) := by decide +kernel
theorem dX7_isDigit_4 : decode cX7_isDigit 4 = .ok (.ifCond .ne 22, 3) := by decide +kernel
theorem dX7_isDigit_7 : decode cX7_isDigit 7 = .ok (.aload_n 0, 1) := by decide +kernel
theorem dX7_isDigit_8 : decode cX7_isDigit 8 = .ok (.iconst 0, 1) := by decide +kernel
theorem dX7_isDigit_9 : decode cX7_isDigit 9 = .ok (.invokevirtual 234, 3) := by decide +kernel
theorem dX7_isDigit_12 : decode cX7_isDigit 12 = .ok (.bipush 48, 2) := by decide +kernel
theorem dX7_isDigit_14 : decode cX7_isDigit 14 = .ok (.bipush 57, 2) := by decide +kernel
theorem dX7_isDigit_16 : decode cX7_isDigit 16 = .ok (.invokestatic 67, 3) := by decide +kernel
theorem dX7_isDigit_19 : decode cX7_isDigit 19 = .ok (.ifCond .eq 7, 3) := by decide +kernel
theorem dX7_isDigit_22 : decode cX7_isDigit 22 = .ok (.iconst 1, 1) := by decide +kernel
theorem dX7_isDigit_23 : decode cX7_isDigit 23 = .ok (.goto 4, 3) := by decide +kernel
theorem dX7_isDigit_26 : decode cX7_isDigit 26 = .ok (.iconst 0, 1) := by decide +kernel
theorem dX7_isDigit_27 : decode cX7_isDigit 27 = .ok (.ireturn, 1) := by decide +kernel
theorem dX7_reads_0 : decode cX7_reads 0 = .ok (.aload_n 0, 1) := by decide +kernel
theorem dX7_reads_1 : decode cX7_reads 1 = .ok (.ldc 241, 2) := by decide +kernel
theorem dX7_reads_3 : decode cX7_reads 3 = .ok (.invokevirtual 243, 3) := by decide +kernel
theorem dX7_reads_6 : decode cX7_reads 6 = .ok (.iload_n 1, 1) := by decide +kernel
theorem dX7_reads_7 : decode cX7_reads 7 = .ok (.ifCond .ne 55, 3) := by decide +kernel
theorem dX7_reads_10 : decode cX7_reads 10 = .ok (.aload_n 0, 1) := by decide +kernel
theorem dX7_reads_11 : decode cX7_reads 11 = .ok (.iconst 0, 1) := by decide +kernel
theorem dX7_reads_12 : decode cX7_reads 12 = .ok (.invokevirtual 234, 3) := by decide +kernel
theorem dX7_reads_15 : decode cX7_reads 15 = .ok (.istore_n 2, 1) := by decide +kernel
theorem dX7_reads_16 : decode cX7_reads 16 = .ok (.aload_n 0, 1) := by decide +kernel
theorem dX7_reads_17 : decode cX7_reads 17 = .ok (.aload_n 0, 1) := by decide +kernel
theorem dX7_reads_18 : decode cX7_reads 18 = .ok (.getfield 230, 3) := by decide +kernel
theorem dX7_reads_21 : decode cX7_reads 21 = .ok (.ifCond .ne 10, 3) := by decide +kernel
theorem dX7_reads_24 : decode cX7_reads 24 = .ok (.iload_n 2, 1) := by decide +kernel
theorem dX7_reads_25 : decode cX7_reads 25 = .ok (.invokestatic 111, 3) := by decide +kernel
theorem dX7_reads_28 : decode cX7_reads 28 = .ok (.ifCond .ne 7, 3) := by decide +kernel
theorem dX7_reads_31 : decode cX7_reads 31 = .ok (.iconst 1, 1) := by decide +kernel
theorem dX7_reads_32 : decode cX7_reads 32 = .ok (.goto 4, 3) := by decide +kernel
theorem dX7_reads_35 : decode cX7_reads 35 = .ok (.iconst 0, 1) := by decide +kernel
theorem dX7_reads_36 : decode cX7_reads 36 = .ok (.putfield 230, 3) := by decide +kernel
theorem dX7_reads_39 : decode cX7_reads 39 = .ok (.aload_n 0, 1) := by decide +kernel
theorem dX7_reads_40 : decode cX7_reads 40 = .ok (.dup, 1) := by decide +kernel
theorem dX7_reads_41 : decode cX7_reads 41 = .ok (.getfield 223, 3) := by decide +kernel
theorem dX7_reads_44 : decode cX7_reads 44 = .ok (.aload_n 0, 1) := by decide +kernel
theorem dX7_reads_45 : decode cX7_reads 45 = .ok (.getfield 230, 3) := by decide +kernel
theorem dX7_reads_48 : decode cX7_reads 48 = .ok (.ifCond .eq 7, 3) := by decide +kernel
theorem dX7_reads_51 : decode cX7_reads 51 = .ok (.iconst 0, 1) := by decide +kernel
theorem dX7_reads_52 : decode cX7_reads 52 = .ok (.goto 4, 3) := by decide +kernel
theorem dX7_reads_55 : decode cX7_reads 55 = .ok (.iconst 1, 1) := by decide +kernel
theorem dX7_reads_56 : decode cX7_reads 56 = .ok (.iadd, 1) := by decide +kernel
theorem dX7_reads_57 : decode cX7_reads 57 = .ok (.putfield 223, 3) := by decide +kernel
theorem dX7_reads_60 : decode cX7_reads 60 = .ok (.iload_n 2, 1) := by decide +kernel
theorem dX7_reads_61 : decode cX7_reads 61 = .ok (.ireturn, 1) := by decide +kernel
theorem dX7_reads_62 : decode cX7_reads 62 = .ok (.aload_n 0, 1) := by decide +kernel
theorem dX7_reads_63 : decode cX7_reads 63 = .ok (.aload_n 0, 1) := by decide +kernel
theorem dX7_reads_64 : decode cX7_reads 64 = .ok (.getfield 230, 3) := by decide +kernel
theorem dX7_reads_67 : decode cX7_reads 67 = .ok (.ifCond .ne 10, 3) := by decide +kernel
theorem dX7_reads_70 : decode cX7_reads 70 = .ok (.aload_n 0, 1) := by decide +kernel
theorem dX7_reads_71 : decode cX7_reads 71 = .ok (.invokevirtual 247, 3) := by decide +kernel
theorem dX7_reads_74 : decode cX7_reads 74 = .ok (.ifCond .ne 7, 3) := by decide +kernel
theorem dX7_reads_77 : decode cX7_reads 77 = .ok (.iconst 1, 1) := by decide +kernel
theorem dX7_reads_78 : decode cX7_reads 78 = .ok (.goto 4, 3) := by decide +kernel
theorem dX7_reads_81 : decode cX7_reads 81 = .ok (.iconst 0, 1) := by decide +kernel
theorem dX7_reads_82 : decode cX7_reads 82 = .ok (.putfield 230, 3) := by decide +kernel
theorem dX7_reads_85 : decode cX7_reads 85 = .ok (.iconst 0, 1) := by decide +kernel
theorem dX7_reads_86 : decode cX7_reads 86 = .ok (.istore_n 2, 1) := by decide +kernel
theorem dX7_reads_87 : decode cX7_reads 87 = .ok (.iconst 0, 1) := by decide +kernel
theorem dX7_reads_88 : decode cX7_reads 88 = .ok (.istore_n 3, 1) := by decide +kernel
theorem dX7_reads_89 : decode cX7_reads 89 = .ok (.iload_n 3, 1) := by decide +kernel
theorem dX7_reads_90 : decode cX7_reads 90 = .ok (.iload_n 1, 1) := by decide +kernel
theorem dX7_reads_91 : decode cX7_reads 91 = .ok (.if_icmp .ge 44, 3) := by decide +kernel
theorem dX7_reads_94 : decode cX7_reads 94 = .ok (.aload_n 0, 1) := by decide +kernel
theorem dX7_reads_95 : decode cX7_reads 95 = .ok (.invokevirtual 247, 3) := by decide +kernel
theorem dX7_reads_98 : decode cX7_reads 98 = .ok (.ifCond .eq 37, 3) := by decide +kernel
theorem dX7_reads_101 : decode cX7_reads 101 = .ok (.bipush 10, 2) := by decide +kernel
theorem dX7_reads_103 : decode cX7_reads 103 = .ok (.iload_n 2, 1) := by decide +kernel
theorem dX7_reads_104 : decode cX7_reads 104 = .ok (.imul, 1) := by decide +kernel
theorem dX7_reads_105 : decode cX7_reads 105 = .ok (.aload_n 0, 1) := by decide +kernel
theorem dX7_reads_106 : decode cX7_reads 106 = .ok (.getfield 38, 3) := by decide +kernel
theorem dX7_reads_109 : decode cX7_reads 109 = .ok (.aload_n 0, 1) := by decide +kernel
theorem dX7_reads_110 : decode cX7_reads 110 = .ok (.getfield 223, 3) := by decide +kernel
theorem dX7_reads_113 : decode cX7_reads 113 = .ok (.caload, 1) := by decide +kernel
theorem dX7_reads_114 : decode cX7_reads 114 = .ok (.iadd, 1) := by decide +kernel
theorem dX7_reads_115 : decode cX7_reads 115 = .ok (.bipush 48, 2) := by decide +kernel
theorem dX7_reads_117 : decode cX7_reads 117 = .ok (.isub, 1) := by decide +kernel
theorem dX7_reads_118 : decode cX7_reads 118 = .ok (.istore_n 2, 1) := by decide +kernel
theorem dX7_reads_119 : decode cX7_reads 119 = .ok (.aload_n 0, 1) := by decide +kernel
theorem dX7_reads_120 : decode cX7_reads 120 = .ok (.dup, 1) := by decide +kernel
theorem dX7_reads_121 : decode cX7_reads 121 = .ok (.getfield 223, 3) := by decide +kernel
theorem dX7_reads_124 : decode cX7_reads 124 = .ok (.iconst 1, 1) := by decide +kernel
theorem dX7_reads_125 : decode cX7_reads 125 = .ok (.iadd, 1) := by decide +kernel
theorem dX7_reads_126 : decode cX7_reads 126 = .ok (.putfield 223, 3) := by decide +kernel
theorem dX7_reads_129 : decode cX7_reads 129 = .ok (.iinc 3 1, 3) := by decide +kernel
theorem dX7_reads_132 : decode cX7_reads 132 = .ok (.goto (-43), 3) := by decide +kernel
theorem dX7_reads_135 : decode cX7_reads 135 = .ok (.iload_n 2, 1) := by decide +kernel
theorem dX7_reads_136 : decode cX7_reads 136 = .ok (.ireturn, 1) := by decide +kernel
theorem dX7_readsWord_0 : decode cX7_readsWord 0 = .ok (.iconst 5, 1) := by decide +kernel
theorem dX7_readsWord_1 : decode cX7_readsWord 1 = .ok (.aload_n 0, 1) := by decide +kernel
theorem dX7_readsWord_2 : decode cX7_readsWord 2 = .ok (.getfield 251, 3) := by decide +kernel
theorem dX7_readsWord_5 : decode cX7_readsWord 5 = .ok (.imul, 1) := by decide +kernel
theorem dX7_readsWord_6 : decode cX7_readsWord 6 = .ok (.istore 4, 2) := by decide +kernel
theorem dX7_readsWord_8 : decode cX7_readsWord 8 = .ok (.aload_n 0, 1) := by decide +kernel
theorem dX7_readsWord_9 : decode cX7_readsWord 9 = .ok (.getfield 49, 3) := by decide +kernel
theorem dX7_readsWord_12 : decode cX7_readsWord 12 = .ok (.iload 4, 2) := by decide +kernel
theorem dX7_readsWord_14 : decode cX7_readsWord 14 = .ok (.iload_n 1, 1) := by decide +kernel
theorem dX7_readsWord_15 : decode cX7_readsWord 15 = .ok (.iastore, 1) := by decide +kernel
theorem dX7_readsWord_16 : decode cX7_readsWord 16 = .ok (.aload_n 0, 1) := by decide +kernel
theorem dX7_readsWord_17 : decode cX7_readsWord 17 = .ok (.dup, 1) := by decide +kernel
theorem dX7_readsWord_18 : decode cX7_readsWord 18 = .ok (.getfield 251, 3) := by decide +kernel
theorem dX7_readsWord_21 : decode cX7_readsWord 21 = .ok (.iconst 1, 1) := by decide +kernel
theorem dX7_readsWord_22 : decode cX7_readsWord 22 = .ok (.iadd, 1) := by decide +kernel
theorem dX7_readsWord_23 : decode cX7_readsWord 23 = .ok (.putfield 251, 3) := by decide +kernel
theorem dX7_readsWord_26 : decode cX7_readsWord 26 = .ok (.aload_n 0, 1) := by decide +kernel
theorem dX7_readsWord_27 : decode cX7_readsWord 27 = .ok (.aload_n 2, 1) := by decide +kernel
theorem dX7_readsWord_28 : decode cX7_readsWord 28 = .ok (.invokevirtual 243, 3) := by decide +kernel
theorem dX7_readsWord_31 : decode cX7_readsWord 31 = .ok (.iconst 0, 1) := by decide +kernel
theorem dX7_readsWord_32 : decode cX7_readsWord 32 = .ok (.istore 5, 2) := by decide +kernel
theorem dX7_readsWord_34 : decode cX7_readsWord 34 = .ok (.iload 5, 2) := by decide +kernel
theorem dX7_readsWord_36 : decode cX7_readsWord 36 = .ok (.aload_n 3, 1) := by decide +kernel
theorem dX7_readsWord_37 : decode cX7_readsWord 37 = .ok (.invokevirtual 226, 3) := by decide +kernel
theorem dX7_readsWord_40 : decode cX7_readsWord 40 = .ok (.if_icmp .ge 34, 3) := by decide +kernel
theorem dX7_readsWord_43 : decode cX7_readsWord 43 = .ok (.aload_n 0, 1) := by decide +kernel
theorem dX7_readsWord_44 : decode cX7_readsWord 44 = .ok (.getfield 49, 3) := by decide +kernel
theorem dX7_readsWord_47 : decode cX7_readsWord 47 = .ok (.iload 4, 2) := by decide +kernel
theorem dX7_readsWord_49 : decode cX7_readsWord 49 = .ok (.iconst 1, 1) := by decide +kernel
theorem dX7_readsWord_50 : decode cX7_readsWord 50 = .ok (.iadd, 1) := by decide +kernel
theorem dX7_readsWord_51 : decode cX7_readsWord 51 = .ok (.iload 5, 2) := by decide +kernel
theorem dX7_readsWord_53 : decode cX7_readsWord 53 = .ok (.iadd, 1) := by decide +kernel
theorem dX7_readsWord_54 : decode cX7_readsWord 54 = .ok (.aload_n 0, 1) := by decide +kernel
theorem dX7_readsWord_55 : decode cX7_readsWord 55 = .ok (.aload_n 3, 1) := by decide +kernel
theorem dX7_readsWord_56 : decode cX7_readsWord 56 = .ok (.iload 5, 2) := by decide +kernel
theorem dX7_readsWord_58 : decode cX7_readsWord 58 = .ok (.invokevirtual 237, 3) := by decide +kernel
theorem dX7_readsWord_61 : decode cX7_readsWord 61 = .ok (.bipush 48, 2) := by decide +kernel
theorem dX7_readsWord_63 : decode cX7_readsWord 63 = .ok (.isub, 1) := by decide +kernel
theorem dX7_readsWord_64 : decode cX7_readsWord 64 = .ok (.invokevirtual 254, 3) := by decide +kernel
theorem dX7_readsWord_67 : decode cX7_readsWord 67 = .ok (.iastore, 1) := by decide +kernel
theorem dX7_readsWord_68 : decode cX7_readsWord 68 = .ok (.iinc 5 1, 3) := by decide +kernel
theorem dX7_readsWord_71 : decode cX7_readsWord 71 = .ok (.goto (-37), 3) := by decide +kernel
theorem dX7_readsWord_74 : decode cX7_readsWord 74 = .ok (.return_, 1) := by decide +kernel
theorem dX7_readsCommand_0 : decode cX7_readsCommand 0 = .ok (.aload_n 0, 1) := by decide +kernel
theorem dX7_readsCommand_1 : decode cX7_readsCommand 1 = .ok (.iconst 0, 1) := by decide +kernel
theorem dX7_readsCommand_2 : decode cX7_readsCommand 2 = .ok (.invokevirtual 234, 3) := by decide +kernel
theorem dX7_readsCommand_5 : decode cX7_readsCommand 5 = .ok (.istore_n 1, 1) := by decide +kernel
theorem dX7_readsCommand_6 : decode cX7_readsCommand 6 = .ok (.aload_n 0, 1) := by decide +kernel
theorem dX7_readsCommand_7 : decode cX7_readsCommand 7 = .ok (.iconst 1, 1) := by decide +kernel
theorem dX7_readsCommand_8 : decode cX7_readsCommand 8 = .ok (.invokevirtual 234, 3) := by decide +kernel
theorem dX7_readsCommand_11 : decode cX7_readsCommand 11 = .ok (.istore_n 2, 1) := by decide +kernel
theorem dX7_readsCommand_12 : decode cX7_readsCommand 12 = .ok (.aload_n 0, 1) := by decide +kernel
theorem dX7_readsCommand_13 : decode cX7_readsCommand 13 = .ok (.getfield 230, 3) := by decide +kernel
theorem dX7_readsCommand_16 : decode cX7_readsCommand 16 = .ok (.ifCond .eq 4, 3) := by decide +kernel
theorem dX7_readsCommand_19 : decode cX7_readsCommand 19 = .ok (.return_, 1) := by decide +kernel
theorem dX7_readsCommand_20 : decode cX7_readsCommand 20 = .ok (.iload_n 1, 1) := by decide +kernel
theorem dX7_readsCommand_21 : decode cX7_readsCommand 21 = .ok (.bipush 100, 2) := by decide +kernel
theorem dX7_readsCommand_23 : decode cX7_readsCommand 23 = .ok (.if_icmp .ne 18, 3) := by decide +kernel
theorem dX7_readsCommand_26 : decode cX7_readsCommand 26 = .ok (.aload_n 0, 1) := by decide +kernel
theorem dX7_readsCommand_27 : decode cX7_readsCommand 27 = .ok (.bipush 100, 2) := by decide +kernel
theorem dX7_readsCommand_29 : decode cX7_readsCommand 29 = .ok (.ldc_w 257, 3) := by decide +kernel
theorem dX7_readsCommand_32 : decode cX7_readsCommand 32 = .ok (.ldc_w 258, 3) := by decide +kernel
theorem dX7_readsCommand_35 : decode cX7_readsCommand 35 = .ok (.invokevirtual 260, 3) := by decide +kernel
theorem dX7_readsCommand_38 : decode cX7_readsCommand 38 = .ok (.goto 195, 3) := by decide +kernel
theorem dX7_readsCommand_41 : decode cX7_readsCommand 41 = .ok (.iload_n 1, 1) := by decide +kernel
theorem dX7_readsCommand_42 : decode cX7_readsCommand 42 = .ok (.bipush 101, 2) := by decide +kernel
theorem dX7_readsCommand_44 : decode cX7_readsCommand 44 = .ok (.if_icmp .ne 18, 3) := by decide +kernel
theorem dX7_readsCommand_47 : decode cX7_readsCommand 47 = .ok (.aload_n 0, 1) := by decide +kernel
theorem dX7_readsCommand_48 : decode cX7_readsCommand 48 = .ok (.bipush 101, 2) := by decide +kernel
theorem dX7_readsCommand_50 : decode cX7_readsCommand 50 = .ok (.ldc_w 264, 3) := by decide +kernel
theorem dX7_readsCommand_53 : decode cX7_readsCommand 53 = .ok (.ldc_w 265, 3) := by decide +kernel
theorem dX7_readsCommand_56 : decode cX7_readsCommand 56 = .ok (.invokevirtual 260, 3) := by decide +kernel
theorem dX7_readsCommand_59 : decode cX7_readsCommand 59 = .ok (.goto 174, 3) := by decide +kernel
theorem dX7_readsCommand_62 : decode cX7_readsCommand 62 = .ok (.iload_n 1, 1) := by decide +kernel
theorem dX7_readsCommand_63 : decode cX7_readsCommand 63 = .ok (.bipush 99, 2) := by decide +kernel
theorem dX7_readsCommand_65 : decode cX7_readsCommand 65 = .ok (.if_icmp .ne 18, 3) := by decide +kernel
theorem dX7_readsCommand_68 : decode cX7_readsCommand 68 = .ok (.aload_n 0, 1) := by decide +kernel
theorem dX7_readsCommand_69 : decode cX7_readsCommand 69 = .ok (.bipush 99, 2) := by decide +kernel
theorem dX7_readsCommand_71 : decode cX7_readsCommand 71 = .ok (.ldc_w 267, 3) := by decide +kernel
theorem dX7_readsCommand_74 : decode cX7_readsCommand 74 = .ok (.ldc_w 269, 3) := by decide +kernel
theorem dX7_readsCommand_77 : decode cX7_readsCommand 77 = .ok (.invokevirtual 260, 3) := by decide +kernel
theorem dX7_readsCommand_80 : decode cX7_readsCommand 80 = .ok (.goto 153, 3) := by decide +kernel
theorem dX7_readsCommand_83 : decode cX7_readsCommand 83 = .ok (.iload_n 1, 1) := by decide +kernel
theorem dX7_readsCommand_84 : decode cX7_readsCommand 84 = .ok (.bipush 97, 2) := by decide +kernel
theorem dX7_readsCommand_86 : decode cX7_readsCommand 86 = .ok (.if_icmp .ne 24, 3) := by decide +kernel
theorem dX7_readsCommand_89 : decode cX7_readsCommand 89 = .ok (.iload_n 2, 1) := by decide +kernel
theorem dX7_readsCommand_90 : decode cX7_readsCommand 90 = .ok (.bipush 112, 2) := by decide +kernel
theorem dX7_readsCommand_92 : decode cX7_readsCommand 92 = .ok (.if_icmp .ne 18, 3) := by decide +kernel
theorem dX7_readsCommand_95 : decode cX7_readsCommand 95 = .ok (.aload_n 0, 1) := by decide +kernel
theorem dX7_readsCommand_96 : decode cX7_readsCommand 96 = .ok (.bipush 120, 2) := by decide +kernel
theorem dX7_readsCommand_98 : decode cX7_readsCommand 98 = .ok (.ldc_w 271, 3) := by decide +kernel
theorem dX7_readsCommand_101 : decode cX7_readsCommand 101 = .ok (.ldc_w 273, 3) := by decide +kernel
theorem dX7_readsCommand_104 : decode cX7_readsCommand 104 = .ok (.invokevirtual 260, 3) := by decide +kernel
theorem dX7_readsCommand_107 : decode cX7_readsCommand 107 = .ok (.goto 126, 3) := by decide +kernel
theorem dX7_readsCommand_110 : decode cX7_readsCommand 110 = .ok (.iload_n 1, 1) := by decide +kernel
theorem dX7_readsCommand_111 : decode cX7_readsCommand 111 = .ok (.bipush 97, 2) := by decide +kernel
theorem dX7_readsCommand_113 : decode cX7_readsCommand 113 = .ok (.if_icmp .ne 24, 3) := by decide +kernel
theorem dX7_readsCommand_116 : decode cX7_readsCommand 116 = .ok (.iload_n 2, 1) := by decide +kernel
theorem dX7_readsCommand_117 : decode cX7_readsCommand 117 = .ok (.bipush 119, 2) := by decide +kernel
theorem dX7_readsCommand_119 : decode cX7_readsCommand 119 = .ok (.if_icmp .ne 18, 3) := by decide +kernel
theorem dX7_readsCommand_122 : decode cX7_readsCommand 122 = .ok (.aload_n 0, 1) := by decide +kernel
theorem dX7_readsCommand_123 : decode cX7_readsCommand 123 = .ok (.bipush 119, 2) := by decide +kernel
theorem dX7_readsCommand_125 : decode cX7_readsCommand 125 = .ok (.ldc_w 275, 3) := by decide +kernel
theorem dX7_readsCommand_128 : decode cX7_readsCommand 128 = .ok (.ldc_w 273, 3) := by decide +kernel
theorem dX7_readsCommand_131 : decode cX7_readsCommand 131 = .ok (.invokevirtual 260, 3) := by decide +kernel
theorem dX7_readsCommand_134 : decode cX7_readsCommand 134 = .ok (.goto 99, 3) := by decide +kernel
theorem dX7_readsCommand_137 : decode cX7_readsCommand 137 = .ok (.iload_n 1, 1) := by decide +kernel
theorem dX7_readsCommand_138 : decode cX7_readsCommand 138 = .ok (.bipush 97, 2) := by decide +kernel
theorem dX7_readsCommand_140 : decode cX7_readsCommand 140 = .ok (.if_icmp .ne 18, 3) := by decide +kernel
theorem dX7_readsCommand_143 : decode cX7_readsCommand 143 = .ok (.aload_n 0, 1) := by decide +kernel
theorem dX7_readsCommand_144 : decode cX7_readsCommand 144 = .ok (.bipush 97, 2) := by decide +kernel
theorem dX7_readsCommand_146 : decode cX7_readsCommand 146 = .ok (.ldc_w 277, 3) := by decide +kernel
theorem dX7_readsCommand_149 : decode cX7_readsCommand 149 = .ok (.ldc_w 269, 3) := by decide +kernel
theorem dX7_readsCommand_152 : decode cX7_readsCommand 152 = .ok (.invokevirtual 260, 3) := by decide +kernel
theorem dX7_readsCommand_155 : decode cX7_readsCommand 155 = .ok (.goto 78, 3) := by decide +kernel
theorem dX7_readsCommand_158 : decode cX7_readsCommand 158 = .ok (.iload_n 1, 1) := by decide +kernel
theorem dX7_readsCommand_159 : decode cX7_readsCommand 159 = .ok (.bipush 103, 2) := by decide +kernel
theorem dX7_readsCommand_161 : decode cX7_readsCommand 161 = .ok (.if_icmp .ne 18, 3) := by decide +kernel
theorem dX7_readsCommand_164 : decode cX7_readsCommand 164 = .ok (.aload_n 0, 1) := by decide +kernel
theorem dX7_readsCommand_165 : decode cX7_readsCommand 165 = .ok (.bipush 103, 2) := by decide +kernel
theorem dX7_readsCommand_167 : decode cX7_readsCommand 167 = .ok (.ldc_w 279, 3) := by decide +kernel
theorem dX7_readsCommand_170 : decode cX7_readsCommand 170 = .ok (.ldc_w 281, 3) := by decide +kernel
theorem dX7_readsCommand_173 : decode cX7_readsCommand 173 = .ok (.invokevirtual 260, 3) := by decide +kernel
theorem dX7_readsCommand_176 : decode cX7_readsCommand 176 = .ok (.goto 57, 3) := by decide +kernel
theorem dX7_readsCommand_179 : decode cX7_readsCommand 179 = .ok (.iload_n 1, 1) := by decide +kernel
theorem dX7_readsCommand_180 : decode cX7_readsCommand 180 = .ok (.bipush 116, 2) := by decide +kernel
theorem dX7_readsCommand_182 : decode cX7_readsCommand 182 = .ok (.if_icmp .ne 18, 3) := by decide +kernel
theorem dX7_readsCommand_185 : decode cX7_readsCommand 185 = .ok (.aload_n 0, 1) := by decide +kernel
theorem dX7_readsCommand_186 : decode cX7_readsCommand 186 = .ok (.bipush 116, 2) := by decide +kernel
theorem dX7_readsCommand_188 : decode cX7_readsCommand 188 = .ok (.ldc_w 283, 3) := by decide +kernel
theorem dX7_readsCommand_191 : decode cX7_readsCommand 191 = .ok (.ldc_w 285, 3) := by decide +kernel
theorem dX7_readsCommand_194 : decode cX7_readsCommand 194 = .ok (.invokevirtual 260, 3) := by decide +kernel
theorem dX7_readsCommand_197 : decode cX7_readsCommand 197 = .ok (.goto 36, 3) := by decide +kernel
theorem dX7_readsCommand_200 : decode cX7_readsCommand 200 = .ok (.iload_n 1, 1) := by decide +kernel
theorem dX7_readsCommand_201 : decode cX7_readsCommand 201 = .ok (.bipush 114, 2) := by decide +kernel
theorem dX7_readsCommand_203 : decode cX7_readsCommand 203 = .ok (.if_icmp .ne 18, 3) := by decide +kernel
theorem dX7_readsCommand_206 : decode cX7_readsCommand 206 = .ok (.aload_n 0, 1) := by decide +kernel
theorem dX7_readsCommand_207 : decode cX7_readsCommand 207 = .ok (.bipush 114, 2) := by decide +kernel
theorem dX7_readsCommand_209 : decode cX7_readsCommand 209 = .ok (.ldc_w 287, 3) := by decide +kernel
theorem dX7_readsCommand_212 : decode cX7_readsCommand 212 = .ok (.ldc_w 273, 3) := by decide +kernel
theorem dX7_readsCommand_215 : decode cX7_readsCommand 215 = .ok (.invokevirtual 260, 3) := by decide +kernel
theorem dX7_readsCommand_218 : decode cX7_readsCommand 218 = .ok (.goto 15, 3) := by decide +kernel
theorem dX7_readsCommand_221 : decode cX7_readsCommand 221 = .ok (.aload_n 0, 1) := by decide +kernel
theorem dX7_readsCommand_222 : decode cX7_readsCommand 222 = .ok (.bipush 112, 2) := by decide +kernel
theorem dX7_readsCommand_224 : decode cX7_readsCommand 224 = .ok (.ldc_w 289, 3) := by decide +kernel
theorem dX7_readsCommand_227 : decode cX7_readsCommand 227 = .ok (.ldc_w 291, 3) := by decide +kernel
theorem dX7_readsCommand_230 : decode cX7_readsCommand 230 = .ok (.invokevirtual 260, 3) := by decide +kernel
theorem dX7_readsCommand_233 : decode cX7_readsCommand 233 = .ok (.return_, 1) := by decide +kernel
theorem dX7_does_0 : decode cX7_does 0 = .ok (.aload_n 0, 1) := by decide +kernel
theorem dX7_does_1 : decode cX7_does 1 = .ok (.getfield 49, 3) := by decide +kernel
theorem dX7_does_4 : decode cX7_does 4 = .ok (.iconst 5, 1) := by decide +kernel
theorem dX7_does_5 : decode cX7_does 5 = .ok (.iload_n 1, 1) := by decide +kernel
theorem dX7_does_6 : decode cX7_does 6 = .ok (.imul, 1) := by decide +kernel
theorem dX7_does_7 : decode cX7_does 7 = .ok (.iconst 1, 1) := by decide +kernel
theorem dX7_does_8 : decode cX7_does 8 = .ok (.iadd, 1) := by decide +kernel
theorem dX7_does_9 : decode cX7_does 9 = .ok (.iaload, 1) := by decide +kernel
theorem dX7_does_10 : decode cX7_does 10 = .ok (.istore_n 2, 1) := by decide +kernel
theorem dX7_does_11 : decode cX7_does 11 = .ok (.aload_n 0, 1) := by decide +kernel
theorem dX7_does_12 : decode cX7_does 12 = .ok (.getfield 49, 3) := by decide +kernel
theorem dX7_does_15 : decode cX7_does 15 = .ok (.iconst 5, 1) := by decide +kernel
theorem dX7_does_16 : decode cX7_does 16 = .ok (.iload_n 1, 1) := by decide +kernel
theorem dX7_does_17 : decode cX7_does 17 = .ok (.imul, 1) := by decide +kernel
theorem dX7_does_18 : decode cX7_does 18 = .ok (.iconst 2, 1) := by decide +kernel
theorem dX7_does_19 : decode cX7_does 19 = .ok (.iadd, 1) := by decide +kernel
theorem dX7_does_20 : decode cX7_does 20 = .ok (.iaload, 1) := by decide +kernel
theorem dX7_does_21 : decode cX7_does 21 = .ok (.istore_n 3, 1) := by decide +kernel
theorem dX7_does_22 : decode cX7_does 22 = .ok (.aload_n 0, 1) := by decide +kernel
theorem dX7_does_23 : decode cX7_does 23 = .ok (.getfield 49, 3) := by decide +kernel
theorem dX7_does_26 : decode cX7_does 26 = .ok (.iconst 5, 1) := by decide +kernel
theorem dX7_does_27 : decode cX7_does 27 = .ok (.iload_n 1, 1) := by decide +kernel
theorem dX7_does_28 : decode cX7_does 28 = .ok (.imul, 1) := by decide +kernel
theorem dX7_does_29 : decode cX7_does 29 = .ok (.iconst 3, 1) := by decide +kernel
theorem dX7_does_30 : decode cX7_does 30 = .ok (.iadd, 1) := by decide +kernel
theorem dX7_does_31 : decode cX7_does 31 = .ok (.iaload, 1) := by decide +kernel
theorem dX7_does_32 : decode cX7_does 32 = .ok (.istore 4, 2) := by decide +kernel
theorem dX7_does_34 : decode cX7_does 34 = .ok (.aload_n 0, 1) := by decide +kernel
theorem dX7_does_35 : decode cX7_does 35 = .ok (.getfield 49, 3) := by decide +kernel
theorem dX7_does_38 : decode cX7_does 38 = .ok (.iconst 5, 1) := by decide +kernel
theorem dX7_does_39 : decode cX7_does 39 = .ok (.iload_n 1, 1) := by decide +kernel
theorem dX7_does_40 : decode cX7_does 40 = .ok (.imul, 1) := by decide +kernel
theorem dX7_does_41 : decode cX7_does 41 = .ok (.iaload, 1) := by decide +kernel
theorem dX7_does_42 : decode cX7_does 42 = .ok (.tableswitch 219 97 120 #[175, 219, 144, 110, 121, 219, 186, 219, 219, 219, 219, 219, 219, 219, 219, 219, 219, 209, 219, 199, 219, 219, 165, 155], 110) := by decide +kernel
theorem dX7_does_152 : decode cX7_does 152 = .ok (.aload_n 0, 1) := by decide +kernel
theorem dX7_does_153 : decode cX7_does 153 = .ok (.iload_n 2, 1) := by decide +kernel
theorem dX7_does_154 : decode cX7_does 154 = .ok (.iload_n 3, 1) := by decide +kernel
theorem dX7_does_155 : decode cX7_does 155 = .ok (.invokevirtual 120, 3) := by decide +kernel
theorem dX7_does_158 : decode cX7_does 158 = .ok (.istore 5, 2) := by decide +kernel
theorem dX7_does_160 : decode cX7_does 160 = .ok (.goto 107, 3) := by decide +kernel
theorem dX7_does_163 : decode cX7_does 163 = .ok (.aload_n 0, 1) := by decide +kernel
theorem dX7_does_164 : decode cX7_does 164 = .ok (.iload_n 2, 1) := by decide +kernel
theorem dX7_does_165 : decode cX7_does 165 = .ok (.iload_n 3, 1) := by decide +kernel
theorem dX7_does_166 : decode cX7_does 166 = .ok (.iload 4, 2) := by decide +kernel
theorem dX7_does_168 : decode cX7_does 168 = .ok (.aload_n 0, 1) := by decide +kernel
theorem dX7_does_169 : decode cX7_does 169 = .ok (.getfield 49, 3) := by decide +kernel
theorem dX7_does_172 : decode cX7_does 172 = .ok (.iconst 5, 1) := by decide +kernel
theorem dX7_does_173 : decode cX7_does 173 = .ok (.iload_n 1, 1) := by decide +kernel
theorem dX7_does_174 : decode cX7_does 174 = .ok (.imul, 1) := by decide +kernel
theorem dX7_does_175 : decode cX7_does 175 = .ok (.iconst 4, 1) := by decide +kernel
theorem dX7_does_176 : decode cX7_does 176 = .ok (.iadd, 1) := by decide +kernel
theorem dX7_does_177 : decode cX7_does 177 = .ok (.iaload, 1) := by decide +kernel
theorem dX7_does_178 : decode cX7_does 178 = .ok (.invokevirtual 126, 3) := by decide +kernel
theorem dX7_does_181 : decode cX7_does 181 = .ok (.istore 5, 2) := by decide +kernel
theorem dX7_does_183 : decode cX7_does 183 = .ok (.goto 84, 3) := by decide +kernel
theorem dX7_does_186 : decode cX7_does 186 = .ok (.aload_n 0, 1) := by decide +kernel
theorem dX7_does_187 : decode cX7_does 187 = .ok (.iload_n 2, 1) := by decide +kernel
theorem dX7_does_188 : decode cX7_does 188 = .ok (.iload_n 3, 1) := by decide +kernel
theorem dX7_does_189 : decode cX7_does 189 = .ok (.invokevirtual 140, 3) := by decide +kernel
theorem dX7_does_192 : decode cX7_does 192 = .ok (.istore 5, 2) := by decide +kernel
theorem dX7_does_194 : decode cX7_does 194 = .ok (.goto 73, 3) := by decide +kernel
theorem dX7_does_197 : decode cX7_does 197 = .ok (.aload_n 0, 1) := by decide +kernel
theorem dX7_does_198 : decode cX7_does 198 = .ok (.iload_n 2, 1) := by decide +kernel
theorem dX7_does_199 : decode cX7_does 199 = .ok (.invokevirtual 186, 3) := by decide +kernel
theorem dX7_does_202 : decode cX7_does 202 = .ok (.istore 5, 2) := by decide +kernel
theorem dX7_does_204 : decode cX7_does 204 = .ok (.goto 63, 3) := by decide +kernel
theorem dX7_does_207 : decode cX7_does 207 = .ok (.aload_n 0, 1) := by decide +kernel
theorem dX7_does_208 : decode cX7_does 208 = .ok (.iload_n 2, 1) := by decide +kernel
theorem dX7_does_209 : decode cX7_does 209 = .ok (.invokevirtual 192, 3) := by decide +kernel
theorem dX7_does_212 : decode cX7_does 212 = .ok (.istore 5, 2) := by decide +kernel
theorem dX7_does_214 : decode cX7_does 214 = .ok (.goto 53, 3) := by decide +kernel
theorem dX7_does_217 : decode cX7_does 217 = .ok (.aload_n 0, 1) := by decide +kernel
theorem dX7_does_218 : decode cX7_does 218 = .ok (.iload_n 2, 1) := by decide +kernel
theorem dX7_does_219 : decode cX7_does 219 = .ok (.iload_n 3, 1) := by decide +kernel
theorem dX7_does_220 : decode cX7_does 220 = .ok (.invokevirtual 152, 3) := by decide +kernel
theorem dX7_does_223 : decode cX7_does 223 = .ok (.istore 5, 2) := by decide +kernel
theorem dX7_does_225 : decode cX7_does 225 = .ok (.goto 42, 3) := by decide +kernel
theorem dX7_does_228 : decode cX7_does 228 = .ok (.aload_n 0, 1) := by decide +kernel
theorem dX7_does_229 : decode cX7_does 229 = .ok (.iload_n 2, 1) := by decide +kernel
theorem dX7_does_230 : decode cX7_does 230 = .ok (.iload_n 3, 1) := by decide +kernel
theorem dX7_does_231 : decode cX7_does 231 = .ok (.iload 4, 2) := by decide +kernel
theorem dX7_does_233 : decode cX7_does 233 = .ok (.invokevirtual 174, 3) := by decide +kernel
theorem dX7_does_236 : decode cX7_does 236 = .ok (.istore 5, 2) := by decide +kernel
theorem dX7_does_238 : decode cX7_does 238 = .ok (.goto 29, 3) := by decide +kernel
theorem dX7_does_241 : decode cX7_does 241 = .ok (.aload_n 0, 1) := by decide +kernel
theorem dX7_does_242 : decode cX7_does 242 = .ok (.iload_n 2, 1) := by decide +kernel
theorem dX7_does_243 : decode cX7_does 243 = .ok (.invokevirtual 177, 3) := by decide +kernel
theorem dX7_does_246 : decode cX7_does 246 = .ok (.istore 5, 2) := by decide +kernel
theorem dX7_does_248 : decode cX7_does 248 = .ok (.goto 19, 3) := by decide +kernel
theorem dX7_does_251 : decode cX7_does 251 = .ok (.aload_n 0, 1) := by decide +kernel
theorem dX7_does_252 : decode cX7_does 252 = .ok (.iload_n 2, 1) := by decide +kernel
theorem dX7_does_253 : decode cX7_does 253 = .ok (.invokevirtual 201, 3) := by decide +kernel
theorem dX7_does_256 : decode cX7_does 256 = .ok (.istore 5, 2) := by decide +kernel
theorem dX7_does_258 : decode cX7_does 258 = .ok (.goto 9, 3) := by decide +kernel
theorem dX7_does_261 : decode cX7_does 261 = .ok (.aload_n 0, 1) := by decide +kernel
theorem dX7_does_262 : decode cX7_does 262 = .ok (.invokevirtual 171, 3) := by decide +kernel
theorem dX7_does_265 : decode cX7_does 265 = .ok (.istore 5, 2) := by decide +kernel
theorem dX7_does_267 : decode cX7_does 267 = .ok (.return_, 1) := by decide +kernel
theorem dX7_run_0 : decode cX7_run 0 = .ok (.aload_n 0, 1) := by decide +kernel
theorem dX7_run_1 : decode cX7_run 1 = .ok (.iconst 0, 1) := by decide +kernel
theorem dX7_run_2 : decode cX7_run 2 = .ok (.putfield 223, 3) := by decide +kernel
theorem dX7_run_5 : decode cX7_run 5 = .ok (.aload_n 0, 1) := by decide +kernel
theorem dX7_run_6 : decode cX7_run 6 = .ok (.iconst 0, 1) := by decide +kernel
theorem dX7_run_7 : decode cX7_run 7 = .ok (.putfield 230, 3) := by decide +kernel
theorem dX7_run_10 : decode cX7_run 10 = .ok (.aload_n 0, 1) := by decide +kernel
theorem dX7_run_11 : decode cX7_run 11 = .ok (.iconst 0, 1) := by decide +kernel
theorem dX7_run_12 : decode cX7_run 12 = .ok (.putfield 251, 3) := by decide +kernel
theorem dX7_run_15 : decode cX7_run 15 = .ok (.aload_n 0, 1) := by decide +kernel
theorem dX7_run_16 : decode cX7_run 16 = .ok (.invokevirtual 293, 3) := by decide +kernel
theorem dX7_run_19 : decode cX7_run 19 = .ok (.aload_n 0, 1) := by decide +kernel
theorem dX7_run_20 : decode cX7_run 20 = .ok (.getfield 230, 3) := by decide +kernel
theorem dX7_run_23 : decode cX7_run 23 = .ok (.ifCond .ne 30, 3) := by decide +kernel
theorem dX7_run_26 : decode cX7_run 26 = .ok (.aload_n 0, 1) := by decide +kernel
theorem dX7_run_27 : decode cX7_run 27 = .ok (.iconst 0, 1) := by decide +kernel
theorem dX7_run_28 : decode cX7_run 28 = .ok (.invokevirtual 234, 3) := by decide +kernel
theorem dX7_run_31 : decode cX7_run 31 = .ok (.bipush 59, 2) := by decide +kernel
theorem dX7_run_33 : decode cX7_run 33 = .ok (.if_icmp .ne 20, 3) := by decide +kernel
theorem dX7_run_36 : decode cX7_run 36 = .ok (.aload_n 0, 1) := by decide +kernel
theorem dX7_run_37 : decode cX7_run 37 = .ok (.dup, 1) := by decide +kernel
theorem dX7_run_38 : decode cX7_run 38 = .ok (.getfield 223, 3) := by decide +kernel
theorem dX7_run_41 : decode cX7_run 41 = .ok (.iconst 1, 1) := by decide +kernel
theorem dX7_run_42 : decode cX7_run 42 = .ok (.iadd, 1) := by decide +kernel
theorem dX7_run_43 : decode cX7_run 43 = .ok (.putfield 223, 3) := by decide +kernel
theorem dX7_run_46 : decode cX7_run 46 = .ok (.aload_n 0, 1) := by decide +kernel
theorem dX7_run_47 : decode cX7_run 47 = .ok (.invokevirtual 293, 3) := by decide +kernel
theorem dX7_run_50 : decode cX7_run 50 = .ok (.goto (-31), 3) := by decide +kernel
theorem dX7_run_53 : decode cX7_run 53 = .ok (.aload_n 0, 1) := by decide +kernel
theorem dX7_run_54 : decode cX7_run 54 = .ok (.aload_n 0, 1) := by decide +kernel
theorem dX7_run_55 : decode cX7_run 55 = .ok (.getfield 230, 3) := by decide +kernel
theorem dX7_run_58 : decode cX7_run 58 = .ok (.ifCond .ne 14, 3) := by decide +kernel
theorem dX7_run_61 : decode cX7_run 61 = .ok (.aload_n 0, 1) := by decide +kernel
theorem dX7_run_62 : decode cX7_run 62 = .ok (.getfield 223, 3) := by decide +kernel
theorem dX7_run_65 : decode cX7_run 65 = .ok (.aload_n 0, 1) := by decide +kernel
theorem dX7_run_66 : decode cX7_run 66 = .ok (.getfield 220, 3) := by decide +kernel
theorem dX7_run_69 : decode cX7_run 69 = .ok (.if_icmp .ge 7, 3) := by decide +kernel
theorem dX7_run_72 : decode cX7_run 72 = .ok (.iconst 1, 1) := by decide +kernel
theorem dX7_run_73 : decode cX7_run 73 = .ok (.goto 4, 3) := by decide +kernel
theorem dX7_run_76 : decode cX7_run 76 = .ok (.iconst 0, 1) := by decide +kernel
theorem dX7_run_77 : decode cX7_run 77 = .ok (.putfield 230, 3) := by decide +kernel
theorem dX7_run_80 : decode cX7_run 80 = .ok (.aload_n 0, 1) := by decide +kernel
theorem dX7_run_81 : decode cX7_run 81 = .ok (.aload_n 0, 1) := by decide +kernel
theorem dX7_run_82 : decode cX7_run 82 = .ok (.getfield 230, 3) := by decide +kernel
theorem dX7_run_85 : decode cX7_run 85 = .ok (.ifCond .eq 10, 3) := by decide +kernel
theorem dX7_run_88 : decode cX7_run 88 = .ok (.aload_n 0, 1) := by decide +kernel
theorem dX7_run_89 : decode cX7_run 89 = .ok (.getfield 223, 3) := by decide +kernel
theorem dX7_run_92 : decode cX7_run 92 = .ok (.goto 7, 3) := by decide +kernel
theorem dX7_run_95 : decode cX7_run 95 = .ok (.aload_n 0, 1) := by decide +kernel
theorem dX7_run_96 : decode cX7_run 96 = .ok (.getfield 42, 3) := by decide +kernel
theorem dX7_run_99 : decode cX7_run 99 = .ok (.putfield 42, 3) := by decide +kernel
theorem dX7_run_102 : decode cX7_run 102 = .ok (.aload_n 0, 1) := by decide +kernel
theorem dX7_run_103 : decode cX7_run 103 = .ok (.iconst 0, 1) := by decide +kernel
theorem dX7_run_104 : decode cX7_run 104 = .ok (.putfield 220, 3) := by decide +kernel
theorem dX7_run_107 : decode cX7_run 107 = .ok (.aload_n 0, 1) := by decide +kernel
theorem dX7_run_108 : decode cX7_run 108 = .ok (.getfield 230, 3) := by decide +kernel
theorem dX7_run_111 : decode cX7_run 111 = .ok (.ifCond .eq 9, 3) := by decide +kernel
theorem dX7_run_114 : decode cX7_run 114 = .ok (.aload_n 0, 1) := by decide +kernel
theorem dX7_run_115 : decode cX7_run 115 = .ok (.iconst 1, 1) := by decide +kernel
theorem dX7_run_116 : decode cX7_run 116 = .ok (.invokevirtual 114, 3) := by decide +kernel
theorem dX7_run_119 : decode cX7_run 119 = .ok (.ireturn, 1) := by decide +kernel
theorem dX7_run_120 : decode cX7_run 120 = .ok (.aload_n 0, 1) := by decide +kernel
theorem dX7_run_121 : decode cX7_run 121 = .ok (.invokevirtual 117, 3) := by decide +kernel
theorem dX7_run_124 : decode cX7_run 124 = .ok (.iconst 0, 1) := by decide +kernel
theorem dX7_run_125 : decode cX7_run 125 = .ok (.istore_n 1, 1) := by decide +kernel
theorem dX7_run_126 : decode cX7_run 126 = .ok (.iload_n 1, 1) := by decide +kernel
theorem dX7_run_127 : decode cX7_run 127 = .ok (.aload_n 0, 1) := by decide +kernel
theorem dX7_run_128 : decode cX7_run 128 = .ok (.getfield 251, 3) := by decide +kernel
theorem dX7_run_131 : decode cX7_run 131 = .ok (.if_icmp .ge 36, 3) := by decide +kernel
theorem dX7_run_134 : decode cX7_run 134 = .ok (.aload_n 0, 1) := by decide +kernel
theorem dX7_run_135 : decode cX7_run 135 = .ok (.iload_n 1, 1) := by decide +kernel
theorem dX7_run_136 : decode cX7_run 136 = .ok (.invokevirtual 296, 3) := by decide +kernel
theorem dX7_run_139 : decode cX7_run 139 = .ok (.aload_n 0, 1) := by decide +kernel
theorem dX7_run_140 : decode cX7_run 140 = .ok (.getfield 55, 3) := by decide +kernel
theorem dX7_run_143 : decode cX7_run 143 = .ok (.ifCond .le 18, 3) := by decide +kernel
theorem dX7_run_146 : decode cX7_run 146 = .ok (.aload_n 0, 1) := by decide +kernel
theorem dX7_run_147 : decode cX7_run 147 = .ok (.iload_n 1, 1) := by decide +kernel
theorem dX7_run_148 : decode cX7_run 148 = .ok (.putfield 46, 3) := by decide +kernel
theorem dX7_run_151 : decode cX7_run 151 = .ok (.aload_n 0, 1) := by decide +kernel
theorem dX7_run_152 : decode cX7_run 152 = .ok (.aload_n 0, 1) := by decide +kernel
theorem dX7_run_153 : decode cX7_run 153 = .ok (.iconst 2, 1) := by decide +kernel
theorem dX7_run_154 : decode cX7_run 154 = .ok (.invokevirtual 114, 3) := by decide +kernel
theorem dX7_run_157 : decode cX7_run 157 = .ok (.invokevirtual 123, 3) := by decide +kernel
theorem dX7_run_160 : decode cX7_run 160 = .ok (.ireturn, 1) := by decide +kernel
theorem dX7_run_161 : decode cX7_run 161 = .ok (.iinc 1 1, 3) := by decide +kernel
theorem dX7_run_164 : decode cX7_run 164 = .ok (.goto (-38), 3) := by decide +kernel
theorem dX7_run_167 : decode cX7_run 167 = .ok (.aload_n 0, 1) := by decide +kernel
theorem dX7_run_168 : decode cX7_run 168 = .ok (.aload_n 0, 1) := by decide +kernel
theorem dX7_run_169 : decode cX7_run 169 = .ok (.getfield 251, 3) := by decide +kernel
theorem dX7_run_172 : decode cX7_run 172 = .ok (.invokevirtual 123, 3) := by decide +kernel
theorem dX7_run_175 : decode cX7_run 175 = .ok (.ireturn, 1) := by decide +kernel
theorem dX7_errorPosition_0 : decode cX7_errorPosition 0 = .ok (.aload_n 0, 1) := by decide +kernel
theorem dX7_errorPosition_1 : decode cX7_errorPosition 1 = .ok (.aload_n 0, 1) := by decide +kernel
theorem dX7_errorPosition_2 : decode cX7_errorPosition 2 = .ok (.getfield 42, 3) := by decide +kernel
theorem dX7_errorPosition_5 : decode cX7_errorPosition 5 = .ok (.ifCond .lt 7, 3) := by decide +kernel
theorem dX7_errorPosition_8 : decode cX7_errorPosition 8 = .ok (.iconst 1, 1) := by decide +kernel
theorem dX7_errorPosition_9 : decode cX7_errorPosition 9 = .ok (.goto 4, 3) := by decide +kernel
theorem dX7_errorPosition_12 : decode cX7_errorPosition 12 = .ok (.iconst 0, 1) := by decide +kernel
theorem dX7_errorPosition_13 : decode cX7_errorPosition 13 = .ok (.invokevirtual 204, 3) := by decide +kernel
theorem dX7_errorPosition_16 : decode cX7_errorPosition 16 = .ok (.ifCond .eq 10, 3) := by decide +kernel
theorem dX7_errorPosition_19 : decode cX7_errorPosition 19 = .ok (.aload_n 0, 1) := by decide +kernel
theorem dX7_errorPosition_20 : decode cX7_errorPosition 20 = .ok (.getfield 42, 3) := by decide +kernel
theorem dX7_errorPosition_23 : decode cX7_errorPosition 23 = .ok (.goto 4, 3) := by decide +kernel
theorem dX7_errorPosition_26 : decode cX7_errorPosition 26 = .ok (.iconst 0, 1) := by decide +kernel
theorem dX7_errorPosition_27 : decode cX7_errorPosition 27 = .ok (.ireturn, 1) := by decide +kernel
theorem dX7_failedCommand_0 : decode cX7_failedCommand 0 = .ok (.aload_n 0, 1) := by decide +kernel
theorem dX7_failedCommand_1 : decode cX7_failedCommand 1 = .ok (.aload_n 0, 1) := by decide +kernel
theorem dX7_failedCommand_2 : decode cX7_failedCommand 2 = .ok (.getfield 46, 3) := by decide +kernel
theorem dX7_failedCommand_5 : decode cX7_failedCommand 5 = .ok (.ifCond .lt 7, 3) := by decide +kernel
theorem dX7_failedCommand_8 : decode cX7_failedCommand 8 = .ok (.iconst 1, 1) := by decide +kernel
theorem dX7_failedCommand_9 : decode cX7_failedCommand 9 = .ok (.goto 4, 3) := by decide +kernel
theorem dX7_failedCommand_12 : decode cX7_failedCommand 12 = .ok (.iconst 0, 1) := by decide +kernel
theorem dX7_failedCommand_13 : decode cX7_failedCommand 13 = .ok (.invokevirtual 204, 3) := by decide +kernel
theorem dX7_failedCommand_16 : decode cX7_failedCommand 16 = .ok (.ifCond .eq 10, 3) := by decide +kernel
theorem dX7_failedCommand_19 : decode cX7_failedCommand 19 = .ok (.aload_n 0, 1) := by decide +kernel
theorem dX7_failedCommand_20 : decode cX7_failedCommand 20 = .ok (.getfield 46, 3) := by decide +kernel
theorem dX7_failedCommand_23 : decode cX7_failedCommand 23 = .ok (.goto 4, 3) := by decide +kernel
theorem dX7_failedCommand_26 : decode cX7_failedCommand 26 = .ok (.iconst 0, 1) := by decide +kernel
theorem dX7_failedCommand_27 : decode cX7_failedCommand 27 = .ok (.ireturn, 1) := by decide +kernel
theorem dX7_says_0 : decode cX7_says 0 = .ok (.aload_n 0, 1) := by decide +kernel
theorem dX7_says_1 : decode cX7_says 1 = .ok (.getfield 52, 3) := by decide +kernel
theorem dX7_says_4 : decode cX7_says 4 = .ok (.aload_n 0, 1) := by decide +kernel
theorem dX7_says_5 : decode cX7_says 5 = .ok (.getfield 300, 3) := by decide +kernel
theorem dX7_says_8 : decode cX7_says 8 = .ok (.iload_n 1, 1) := by decide +kernel
theorem dX7_says_9 : decode cX7_says 9 = .ok (.i2c, 1) := by decide +kernel
theorem dX7_says_10 : decode cX7_says 10 = .ok (.castore, 1) := by decide +kernel
theorem dX7_says_11 : decode cX7_says 11 = .ok (.aload_n 0, 1) := by decide +kernel
theorem dX7_says_12 : decode cX7_says 12 = .ok (.dup, 1) := by decide +kernel
theorem dX7_says_13 : decode cX7_says 13 = .ok (.getfield 300, 3) := by decide +kernel
theorem dX7_says_16 : decode cX7_says 16 = .ok (.iconst 1, 1) := by decide +kernel
theorem dX7_says_17 : decode cX7_says 17 = .ok (.iadd, 1) := by decide +kernel
theorem dX7_says_18 : decode cX7_says 18 = .ok (.putfield 300, 3) := by decide +kernel
theorem dX7_says_21 : decode cX7_says 21 = .ok (.return_, 1) := by decide +kernel
theorem dX7_saysNumber_0 : decode cX7_saysNumber 0 = .ok (.iload_n 1, 1) := by decide +kernel
theorem dX7_saysNumber_1 : decode cX7_saysNumber 1 = .ok (.bipush 9, 2) := by decide +kernel
theorem dX7_saysNumber_3 : decode cX7_saysNumber 3 = .ok (.if_icmp .le 11, 3) := by decide +kernel
theorem dX7_saysNumber_6 : decode cX7_saysNumber 6 = .ok (.aload_n 0, 1) := by decide +kernel
theorem dX7_saysNumber_7 : decode cX7_saysNumber 7 = .ok (.iload_n 1, 1) := by decide +kernel
theorem dX7_saysNumber_8 : decode cX7_saysNumber 8 = .ok (.bipush 10, 2) := by decide +kernel
theorem dX7_saysNumber_10 : decode cX7_saysNumber 10 = .ok (.idiv, 1) := by decide +kernel
theorem dX7_saysNumber_11 : decode cX7_saysNumber 11 = .ok (.invokevirtual 303, 3) := by decide +kernel
theorem dX7_saysNumber_14 : decode cX7_saysNumber 14 = .ok (.aload_n 0, 1) := by decide +kernel
theorem dX7_saysNumber_15 : decode cX7_saysNumber 15 = .ok (.bipush 48, 2) := by decide +kernel
theorem dX7_saysNumber_17 : decode cX7_saysNumber 17 = .ok (.iload_n 1, 1) := by decide +kernel
theorem dX7_saysNumber_18 : decode cX7_saysNumber 18 = .ok (.bipush 10, 2) := by decide +kernel
theorem dX7_saysNumber_20 : decode cX7_saysNumber 20 = .ok (.irem, 1) := by decide +kernel
theorem dX7_saysNumber_21 : decode cX7_saysNumber 21 = .ok (.iadd, 1) := by decide +kernel
theorem dX7_saysNumber_22 : decode cX7_saysNumber 22 = .ok (.invokevirtual 306, 3) := by decide +kernel
theorem dX7_saysNumber_25 : decode cX7_saysNumber 25 = .ok (.return_, 1) := by decide +kernel
theorem dX7_writeDoor_0 : decode cX7_writeDoor 0 = .ok (.aload_n 0, 1) := by decide +kernel
theorem dX7_writeDoor_1 : decode cX7_writeDoor 1 = .ok (.aload_n 0, 1) := by decide +kernel
theorem dX7_writeDoor_2 : decode cX7_writeDoor 2 = .ok (.iload_n 1, 1) := by decide +kernel
theorem dX7_writeDoor_3 : decode cX7_writeDoor 3 = .ok (.invokevirtual 75, 3) := by decide +kernel
theorem dX7_writeDoor_6 : decode cX7_writeDoor 6 = .ok (.invokevirtual 204, 3) := by decide +kernel
theorem dX7_writeDoor_9 : decode cX7_writeDoor 9 = .ok (.ifCond .ne 5, 3) := by decide +kernel
theorem dX7_writeDoor_12 : decode cX7_writeDoor 12 = .ok (.iconst 0, 1) := by decide +kernel
theorem dX7_writeDoor_13 : decode cX7_writeDoor 13 = .ok (.ireturn, 1) := by decide +kernel
theorem dX7_writeDoor_14 : decode cX7_writeDoor 14 = .ok (.aload_n 0, 1) := by decide +kernel
theorem dX7_writeDoor_15 : decode cX7_writeDoor 15 = .ok (.iconst 0, 1) := by decide +kernel
theorem dX7_writeDoor_16 : decode cX7_writeDoor 16 = .ok (.putfield 300, 3) := by decide +kernel
theorem dX7_writeDoor_19 : decode cX7_writeDoor 19 = .ok (.aload_n 0, 1) := by decide +kernel
theorem dX7_writeDoor_20 : decode cX7_writeDoor 20 = .ok (.aload_n 0, 1) := by decide +kernel
theorem dX7_writeDoor_21 : decode cX7_writeDoor 21 = .ok (.iload_n 1, 1) := by decide +kernel
theorem dX7_writeDoor_22 : decode cX7_writeDoor 22 = .ok (.iconst 0, 1) := by decide +kernel
theorem dX7_writeDoor_23 : decode cX7_writeDoor 23 = .ok (.invokevirtual 82, 3) := by decide +kernel
theorem dX7_writeDoor_26 : decode cX7_writeDoor 26 = .ok (.invokevirtual 306, 3) := by decide +kernel
theorem dX7_writeDoor_29 : decode cX7_writeDoor 29 = .ok (.aload_n 0, 1) := by decide +kernel
theorem dX7_writeDoor_30 : decode cX7_writeDoor 30 = .ok (.aload_n 0, 1) := by decide +kernel
theorem dX7_writeDoor_31 : decode cX7_writeDoor 31 = .ok (.iload_n 1, 1) := by decide +kernel
theorem dX7_writeDoor_32 : decode cX7_writeDoor 32 = .ok (.iconst 1, 1) := by decide +kernel
theorem dX7_writeDoor_33 : decode cX7_writeDoor 33 = .ok (.invokevirtual 82, 3) := by decide +kernel
theorem dX7_writeDoor_36 : decode cX7_writeDoor 36 = .ok (.invokevirtual 303, 3) := by decide +kernel
theorem dX7_writeDoor_39 : decode cX7_writeDoor 39 = .ok (.iconst 0, 1) := by decide +kernel
theorem dX7_writeDoor_40 : decode cX7_writeDoor 40 = .ok (.istore_n 2, 1) := by decide +kernel
theorem dX7_writeDoor_41 : decode cX7_writeDoor 41 = .ok (.iload_n 2, 1) := by decide +kernel
theorem dX7_writeDoor_42 : decode cX7_writeDoor 42 = .ok (.aload_n 0, 1) := by decide +kernel
theorem dX7_writeDoor_43 : decode cX7_writeDoor 43 = .ok (.getfield 9, 3) := by decide +kernel
theorem dX7_writeDoor_46 : decode cX7_writeDoor 46 = .ok (.iconst 1, 1) := by decide +kernel
theorem dX7_writeDoor_47 : decode cX7_writeDoor 47 = .ok (.iaload, 1) := by decide +kernel
theorem dX7_writeDoor_48 : decode cX7_writeDoor 48 = .ok (.if_icmp .ge 58, 3) := by decide +kernel
theorem dX7_writeDoor_51 : decode cX7_writeDoor 51 = .ok (.aload_n 0, 1) := by decide +kernel
theorem dX7_writeDoor_52 : decode cX7_writeDoor 52 = .ok (.iload_n 2, 1) := by decide +kernel
theorem dX7_writeDoor_53 : decode cX7_writeDoor 53 = .ok (.iload_n 1, 1) := by decide +kernel
theorem dX7_writeDoor_54 : decode cX7_writeDoor 54 = .ok (.invokevirtual 133, 3) := by decide +kernel
theorem dX7_writeDoor_57 : decode cX7_writeDoor 57 = .ok (.ifCond .eq 14, 3) := by decide +kernel
theorem dX7_writeDoor_60 : decode cX7_writeDoor 60 = .ok (.aload_n 0, 1) := by decide +kernel
theorem dX7_writeDoor_61 : decode cX7_writeDoor 61 = .ok (.bipush 32, 2) := by decide +kernel
theorem dX7_writeDoor_63 : decode cX7_writeDoor 63 = .ok (.invokevirtual 306, 3) := by decide +kernel
theorem dX7_writeDoor_66 : decode cX7_writeDoor 66 = .ok (.aload_n 0, 1) := by decide +kernel
theorem dX7_writeDoor_67 : decode cX7_writeDoor 67 = .ok (.iload_n 2, 1) := by decide +kernel
theorem dX7_writeDoor_68 : decode cX7_writeDoor 68 = .ok (.invokevirtual 303, 3) := by decide +kernel
theorem dX7_writeDoor_71 : decode cX7_writeDoor 71 = .ok (.aload_n 0, 1) := by decide +kernel
theorem dX7_writeDoor_72 : decode cX7_writeDoor 72 = .ok (.iload_n 2, 1) := by decide +kernel
theorem dX7_writeDoor_73 : decode cX7_writeDoor 73 = .ok (.iload_n 1, 1) := by decide +kernel
theorem dX7_writeDoor_74 : decode cX7_writeDoor 74 = .ok (.iconst 2, 1) := by decide +kernel
theorem dX7_writeDoor_75 : decode cX7_writeDoor 75 = .ok (.invokevirtual 85, 3) := by decide +kernel
theorem dX7_writeDoor_78 : decode cX7_writeDoor 78 = .ok (.ifCond .le 22, 3) := by decide +kernel
theorem dX7_writeDoor_81 : decode cX7_writeDoor 81 = .ok (.aload_n 0, 1) := by decide +kernel
theorem dX7_writeDoor_82 : decode cX7_writeDoor 82 = .ok (.bipush 58, 2) := by decide +kernel
theorem dX7_writeDoor_84 : decode cX7_writeDoor 84 = .ok (.invokevirtual 306, 3) := by decide +kernel
theorem dX7_writeDoor_87 : decode cX7_writeDoor 87 = .ok (.aload_n 0, 1) := by decide +kernel
theorem dX7_writeDoor_88 : decode cX7_writeDoor 88 = .ok (.aload_n 0, 1) := by decide +kernel
theorem dX7_writeDoor_89 : decode cX7_writeDoor 89 = .ok (.iload_n 2, 1) := by decide +kernel
theorem dX7_writeDoor_90 : decode cX7_writeDoor 90 = .ok (.iload_n 1, 1) := by decide +kernel
theorem dX7_writeDoor_91 : decode cX7_writeDoor 91 = .ok (.iconst 2, 1) := by decide +kernel
theorem dX7_writeDoor_92 : decode cX7_writeDoor 92 = .ok (.invokevirtual 85, 3) := by decide +kernel
theorem dX7_writeDoor_95 : decode cX7_writeDoor 95 = .ok (.iconst 1, 1) := by decide +kernel
theorem dX7_writeDoor_96 : decode cX7_writeDoor 96 = .ok (.isub, 1) := by decide +kernel
theorem dX7_writeDoor_97 : decode cX7_writeDoor 97 = .ok (.invokevirtual 303, 3) := by decide +kernel
theorem dX7_writeDoor_100 : decode cX7_writeDoor 100 = .ok (.iinc 2 1, 3) := by decide +kernel
theorem dX7_writeDoor_103 : decode cX7_writeDoor 103 = .ok (.goto (-62), 3) := by decide +kernel
theorem dX7_writeDoor_106 : decode cX7_writeDoor 106 = .ok (.aload_n 0, 1) := by decide +kernel
theorem dX7_writeDoor_107 : decode cX7_writeDoor 107 = .ok (.iload_n 1, 1) := by decide +kernel
theorem dX7_writeDoor_108 : decode cX7_writeDoor 108 = .ok (.invokevirtual 105, 3) := by decide +kernel
theorem dX7_writeDoor_111 : decode cX7_writeDoor 111 = .ok (.ifCond .lt 18, 3) := by decide +kernel
theorem dX7_writeDoor_114 : decode cX7_writeDoor 114 = .ok (.aload_n 0, 1) := by decide +kernel
theorem dX7_writeDoor_115 : decode cX7_writeDoor 115 = .ok (.bipush 61, 2) := by decide +kernel
theorem dX7_writeDoor_117 : decode cX7_writeDoor 117 = .ok (.invokevirtual 306, 3) := by decide +kernel
theorem dX7_writeDoor_120 : decode cX7_writeDoor 120 = .ok (.aload_n 0, 1) := by decide +kernel
theorem dX7_writeDoor_121 : decode cX7_writeDoor 121 = .ok (.aload_n 0, 1) := by decide +kernel
theorem dX7_writeDoor_122 : decode cX7_writeDoor 122 = .ok (.iload_n 1, 1) := by decide +kernel
theorem dX7_writeDoor_123 : decode cX7_writeDoor 123 = .ok (.invokevirtual 105, 3) := by decide +kernel
theorem dX7_writeDoor_126 : decode cX7_writeDoor 126 = .ok (.invokevirtual 303, 3) := by decide +kernel
theorem dX7_writeDoor_129 : decode cX7_writeDoor 129 = .ok (.aload_n 0, 1) := by decide +kernel
theorem dX7_writeDoor_130 : decode cX7_writeDoor 130 = .ok (.iload_n 1, 1) := by decide +kernel
theorem dX7_writeDoor_131 : decode cX7_writeDoor 131 = .ok (.iconst 4, 1) := by decide +kernel
theorem dX7_writeDoor_132 : decode cX7_writeDoor 132 = .ok (.invokevirtual 82, 3) := by decide +kernel
theorem dX7_writeDoor_135 : decode cX7_writeDoor 135 = .ok (.ifCond .le 22, 3) := by decide +kernel
theorem dX7_writeDoor_138 : decode cX7_writeDoor 138 = .ok (.aload_n 0, 1) := by decide +kernel
theorem dX7_writeDoor_139 : decode cX7_writeDoor 139 = .ok (.aload_n 0, 1) := by decide +kernel
theorem dX7_writeDoor_140 : decode cX7_writeDoor 140 = .ok (.iload_n 1, 1) := by decide +kernel
theorem dX7_writeDoor_141 : decode cX7_writeDoor 141 = .ok (.iconst 4, 1) := by decide +kernel
theorem dX7_writeDoor_142 : decode cX7_writeDoor 142 = .ok (.invokevirtual 82, 3) := by decide +kernel
theorem dX7_writeDoor_145 : decode cX7_writeDoor 145 = .ok (.invokevirtual 198, 3) := by decide +kernel
theorem dX7_writeDoor_148 : decode cX7_writeDoor 148 = .ok (.ifCond .ne 9, 3) := by decide +kernel
theorem dX7_writeDoor_151 : decode cX7_writeDoor 151 = .ok (.aload_n 0, 1) := by decide +kernel
theorem dX7_writeDoor_152 : decode cX7_writeDoor 152 = .ok (.bipush 42, 2) := by decide +kernel
theorem dX7_writeDoor_154 : decode cX7_writeDoor 154 = .ok (.invokevirtual 306, 3) := by decide +kernel
theorem dX7_writeDoor_157 : decode cX7_writeDoor 157 = .ok (.aload_n 0, 1) := by decide +kernel
theorem dX7_writeDoor_158 : decode cX7_writeDoor 158 = .ok (.getfield 300, 3) := by decide +kernel
theorem dX7_writeDoor_161 : decode cX7_writeDoor 161 = .ok (.ireturn, 1) := by decide +kernel
theorem dX7_writeExaminer_0 : decode cX7_writeExaminer 0 = .ok (.aload_n 0, 1) := by decide +kernel
theorem dX7_writeExaminer_1 : decode cX7_writeExaminer 1 = .ok (.aload_n 0, 1) := by decide +kernel
theorem dX7_writeExaminer_2 : decode cX7_writeExaminer 2 = .ok (.iload_n 1, 1) := by decide +kernel
theorem dX7_writeExaminer_3 : decode cX7_writeExaminer 3 = .ok (.invokevirtual 71, 3) := by decide +kernel
theorem dX7_writeExaminer_6 : decode cX7_writeExaminer 6 = .ok (.invokevirtual 204, 3) := by decide +kernel
theorem dX7_writeExaminer_9 : decode cX7_writeExaminer 9 = .ok (.ifCond .ne 5, 3) := by decide +kernel
theorem dX7_writeExaminer_12 : decode cX7_writeExaminer 12 = .ok (.iconst 0, 1) := by decide +kernel
theorem dX7_writeExaminer_13 : decode cX7_writeExaminer 13 = .ok (.ireturn, 1) := by decide +kernel
theorem dX7_writeExaminer_14 : decode cX7_writeExaminer 14 = .ok (.aload_n 0, 1) := by decide +kernel
theorem dX7_writeExaminer_15 : decode cX7_writeExaminer 15 = .ok (.iconst 0, 1) := by decide +kernel
theorem dX7_writeExaminer_16 : decode cX7_writeExaminer 16 = .ok (.putfield 300, 3) := by decide +kernel
theorem dX7_writeExaminer_19 : decode cX7_writeExaminer 19 = .ok (.aload_n 0, 1) := by decide +kernel
theorem dX7_writeExaminer_20 : decode cX7_writeExaminer 20 = .ok (.aload_n 0, 1) := by decide +kernel
theorem dX7_writeExaminer_21 : decode cX7_writeExaminer 21 = .ok (.iload_n 1, 1) := by decide +kernel
theorem dX7_writeExaminer_22 : decode cX7_writeExaminer 22 = .ok (.iconst 0, 1) := by decide +kernel
theorem dX7_writeExaminer_23 : decode cX7_writeExaminer 23 = .ok (.invokevirtual 78, 3) := by decide +kernel
theorem dX7_writeExaminer_26 : decode cX7_writeExaminer 26 = .ok (.invokevirtual 306, 3) := by decide +kernel
theorem dX7_writeExaminer_29 : decode cX7_writeExaminer 29 = .ok (.aload_n 0, 1) := by decide +kernel
theorem dX7_writeExaminer_30 : decode cX7_writeExaminer 30 = .ok (.aload_n 0, 1) := by decide +kernel
theorem dX7_writeExaminer_31 : decode cX7_writeExaminer 31 = .ok (.iload_n 1, 1) := by decide +kernel
theorem dX7_writeExaminer_32 : decode cX7_writeExaminer 32 = .ok (.invokevirtual 146, 3) := by decide +kernel
theorem dX7_writeExaminer_35 : decode cX7_writeExaminer 35 = .ok (.invokevirtual 303, 3) := by decide +kernel
theorem dX7_writeExaminer_38 : decode cX7_writeExaminer 38 = .ok (.aload_n 0, 1) := by decide +kernel
theorem dX7_writeExaminer_39 : decode cX7_writeExaminer 39 = .ok (.bipush 47, 2) := by decide +kernel
theorem dX7_writeExaminer_41 : decode cX7_writeExaminer 41 = .ok (.invokevirtual 306, 3) := by decide +kernel
theorem dX7_writeExaminer_44 : decode cX7_writeExaminer 44 = .ok (.aload_n 0, 1) := by decide +kernel
theorem dX7_writeExaminer_45 : decode cX7_writeExaminer 45 = .ok (.aload_n 0, 1) := by decide +kernel
theorem dX7_writeExaminer_46 : decode cX7_writeExaminer 46 = .ok (.iload_n 1, 1) := by decide +kernel
theorem dX7_writeExaminer_47 : decode cX7_writeExaminer 47 = .ok (.iconst 2, 1) := by decide +kernel
theorem dX7_writeExaminer_48 : decode cX7_writeExaminer 48 = .ok (.invokevirtual 78, 3) := by decide +kernel
theorem dX7_writeExaminer_51 : decode cX7_writeExaminer 51 = .ok (.invokevirtual 303, 3) := by decide +kernel
theorem dX7_writeExaminer_54 : decode cX7_writeExaminer 54 = .ok (.aload_n 0, 1) := by decide +kernel
theorem dX7_writeExaminer_55 : decode cX7_writeExaminer 55 = .ok (.bipush 35, 2) := by decide +kernel
theorem dX7_writeExaminer_57 : decode cX7_writeExaminer 57 = .ok (.invokevirtual 306, 3) := by decide +kernel
theorem dX7_writeExaminer_60 : decode cX7_writeExaminer 60 = .ok (.iconst 0, 1) := by decide +kernel
theorem dX7_writeExaminer_61 : decode cX7_writeExaminer 61 = .ok (.istore_n 2, 1) := by decide +kernel
theorem dX7_writeExaminer_62 : decode cX7_writeExaminer 62 = .ok (.iload_n 2, 1) := by decide +kernel
theorem dX7_writeExaminer_63 : decode cX7_writeExaminer 63 = .ok (.bipush 6, 2) := by decide +kernel
theorem dX7_writeExaminer_65 : decode cX7_writeExaminer 65 = .ok (.if_icmp .ge 28, 3) := by decide +kernel
theorem dX7_writeExaminer_68 : decode cX7_writeExaminer 68 = .ok (.aload_n 0, 1) := by decide +kernel
theorem dX7_writeExaminer_69 : decode cX7_writeExaminer 69 = .ok (.iload_n 1, 1) := by decide +kernel
theorem dX7_writeExaminer_70 : decode cX7_writeExaminer 70 = .ok (.iconst 1, 1) := by decide +kernel
theorem dX7_writeExaminer_71 : decode cX7_writeExaminer 71 = .ok (.invokevirtual 78, 3) := by decide +kernel
theorem dX7_writeExaminer_74 : decode cX7_writeExaminer 74 = .ok (.iload_n 2, 1) := by decide +kernel
theorem dX7_writeExaminer_75 : decode cX7_writeExaminer 75 = .ok (.ishr, 1) := by decide +kernel
theorem dX7_writeExaminer_76 : decode cX7_writeExaminer 76 = .ok (.iconst 1, 1) := by decide +kernel
theorem dX7_writeExaminer_77 : decode cX7_writeExaminer 77 = .ok (.iand, 1) := by decide +kernel
theorem dX7_writeExaminer_78 : decode cX7_writeExaminer 78 = .ok (.iconst 1, 1) := by decide +kernel
theorem dX7_writeExaminer_79 : decode cX7_writeExaminer 79 = .ok (.if_icmp .ne 8, 3) := by decide +kernel
theorem dX7_writeExaminer_82 : decode cX7_writeExaminer 82 = .ok (.aload_n 0, 1) := by decide +kernel
theorem dX7_writeExaminer_83 : decode cX7_writeExaminer 83 = .ok (.iload_n 2, 1) := by decide +kernel
theorem dX7_writeExaminer_84 : decode cX7_writeExaminer 84 = .ok (.invokevirtual 303, 3) := by decide +kernel
theorem dX7_writeExaminer_87 : decode cX7_writeExaminer 87 = .ok (.iinc 2 1, 3) := by decide +kernel
theorem dX7_writeExaminer_90 : decode cX7_writeExaminer 90 = .ok (.goto (-28), 3) := by decide +kernel
theorem dX7_writeExaminer_93 : decode cX7_writeExaminer 93 = .ok (.aload_n 0, 1) := by decide +kernel
theorem dX7_writeExaminer_94 : decode cX7_writeExaminer 94 = .ok (.bipush 43, 2) := by decide +kernel
theorem dX7_writeExaminer_96 : decode cX7_writeExaminer 96 = .ok (.invokevirtual 306, 3) := by decide +kernel
theorem dX7_writeExaminer_99 : decode cX7_writeExaminer 99 = .ok (.aload_n 0, 1) := by decide +kernel
theorem dX7_writeExaminer_100 : decode cX7_writeExaminer 100 = .ok (.aload_n 0, 1) := by decide +kernel
theorem dX7_writeExaminer_101 : decode cX7_writeExaminer 101 = .ok (.iload_n 1, 1) := by decide +kernel
theorem dX7_writeExaminer_102 : decode cX7_writeExaminer 102 = .ok (.iconst 3, 1) := by decide +kernel
theorem dX7_writeExaminer_103 : decode cX7_writeExaminer 103 = .ok (.invokevirtual 78, 3) := by decide +kernel
theorem dX7_writeExaminer_106 : decode cX7_writeExaminer 106 = .ok (.invokevirtual 303, 3) := by decide +kernel
theorem dX7_writeExaminer_109 : decode cX7_writeExaminer 109 = .ok (.aload_n 0, 1) := by decide +kernel
theorem dX7_writeExaminer_110 : decode cX7_writeExaminer 110 = .ok (.getfield 300, 3) := by decide +kernel
theorem dX7_writeExaminer_113 : decode cX7_writeExaminer 113 = .ok (.ireturn, 1) := by decide +kernel
theorem dX7_outputAt_0 : decode cX7_outputAt 0 = .ok (.aload_n 0, 1) := by decide +kernel
theorem dX7_outputAt_1 : decode cX7_outputAt 1 = .ok (.iload_n 1, 1) := by decide +kernel
theorem dX7_outputAt_2 : decode cX7_outputAt 2 = .ok (.iconst 0, 1) := by decide +kernel
theorem dX7_outputAt_3 : decode cX7_outputAt 3 = .ok (.aload_n 0, 1) := by decide +kernel
theorem dX7_outputAt_4 : decode cX7_outputAt 4 = .ok (.getfield 300, 3) := by decide +kernel
theorem dX7_outputAt_7 : decode cX7_outputAt 7 = .ok (.iconst 1, 1) := by decide +kernel
theorem dX7_outputAt_8 : decode cX7_outputAt 8 = .ok (.isub, 1) := by decide +kernel
theorem dX7_outputAt_9 : decode cX7_outputAt 9 = .ok (.invokestatic 67, 3) := by decide +kernel
theorem dX7_outputAt_12 : decode cX7_outputAt 12 = .ok (.invokevirtual 204, 3) := by decide +kernel
theorem dX7_outputAt_15 : decode cX7_outputAt 15 = .ok (.ifCond .eq 12, 3) := by decide +kernel
theorem dX7_outputAt_18 : decode cX7_outputAt 18 = .ok (.aload_n 0, 1) := by decide +kernel
theorem dX7_outputAt_19 : decode cX7_outputAt 19 = .ok (.getfield 52, 3) := by decide +kernel
theorem dX7_outputAt_22 : decode cX7_outputAt 22 = .ok (.iload_n 1, 1) := by decide +kernel
theorem dX7_outputAt_23 : decode cX7_outputAt 23 = .ok (.caload, 1) := by decide +kernel
theorem dX7_outputAt_24 : decode cX7_outputAt 24 = .ok (.goto 5, 3) := by decide +kernel
theorem dX7_outputAt_27 : decode cX7_outputAt 27 = .ok (.bipush 32, 2) := by decide +kernel
theorem dX7_outputAt_29 : decode cX7_outputAt 29 = .ok (.ireturn, 1) := by decide +kernel
theorem dX7_undo_0 : decode cX7_undo 0 = .ok (.aload_n 0, 1) := by decide +kernel
theorem dX7_undo_1 : decode cX7_undo 1 = .ok (.aload_n 0, 1) := by decide +kernel
theorem dX7_undo_2 : decode cX7_undo 2 = .ok (.getfield 64, 3) := by decide +kernel
theorem dX7_undo_5 : decode cX7_undo 5 = .ok (.ifCond .ne 7, 3) := by decide +kernel
theorem dX7_undo_8 : decode cX7_undo 8 = .ok (.iconst 1, 1) := by decide +kernel
theorem dX7_undo_9 : decode cX7_undo 9 = .ok (.goto 4, 3) := by decide +kernel
theorem dX7_undo_12 : decode cX7_undo 12 = .ok (.iconst 0, 1) := by decide +kernel
theorem dX7_undo_13 : decode cX7_undo 13 = .ok (.putfield 55, 3) := by decide +kernel
theorem dX7_undo_16 : decode cX7_undo 16 = .ok (.aload_n 0, 1) := by decide +kernel
theorem dX7_undo_17 : decode cX7_undo 17 = .ok (.getfield 55, 3) := by decide +kernel
theorem dX7_undo_20 : decode cX7_undo 20 = .ok (.ifCond .le 5, 3) := by decide +kernel
theorem dX7_undo_23 : decode cX7_undo 23 = .ok (.iconst 0, 1) := by decide +kernel
theorem dX7_undo_24 : decode cX7_undo 24 = .ok (.ireturn, 1) := by decide +kernel
theorem dX7_undo_25 : decode cX7_undo 25 = .ok (.aload_n 0, 1) := by decide +kernel
theorem dX7_undo_26 : decode cX7_undo 26 = .ok (.dup, 1) := by decide +kernel
theorem dX7_undo_27 : decode cX7_undo 27 = .ok (.getfield 64, 3) := by decide +kernel
theorem dX7_undo_30 : decode cX7_undo 30 = .ok (.iconst 1, 1) := by decide +kernel
theorem dX7_undo_31 : decode cX7_undo 31 = .ok (.isub, 1) := by decide +kernel
theorem dX7_undo_32 : decode cX7_undo 32 = .ok (.putfield 64, 3) := by decide +kernel
theorem dX7_undo_35 : decode cX7_undo 35 = .ok (.aload_n 0, 1) := by decide +kernel
theorem dX7_undo_36 : decode cX7_undo 36 = .ok (.getfield 19, 3) := by decide +kernel
theorem dX7_undo_39 : decode cX7_undo 39 = .ok (.sipush 228, 3) := by decide +kernel
theorem dX7_undo_42 : decode cX7_undo 42 = .ok (.aload_n 0, 1) := by decide +kernel
theorem dX7_undo_43 : decode cX7_undo 43 = .ok (.getfield 64, 3) := by decide +kernel
theorem dX7_undo_46 : decode cX7_undo 46 = .ok (.imul, 1) := by decide +kernel
theorem dX7_undo_47 : decode cX7_undo 47 = .ok (.aload_n 0, 1) := by decide +kernel
theorem dX7_undo_48 : decode cX7_undo 48 = .ok (.getfield 9, 3) := by decide +kernel
theorem dX7_undo_51 : decode cX7_undo 51 = .ok (.iconst 0, 1) := by decide +kernel
theorem dX7_undo_52 : decode cX7_undo 52 = .ok (.sipush 228, 3) := by decide +kernel
theorem dX7_undo_55 : decode cX7_undo 55 = .ok (.invokestatic 58, 3) := by decide +kernel
theorem dX7_undo_58 : decode cX7_undo 58 = .ok (.aload_n 0, 1) := by decide +kernel
theorem dX7_undo_59 : decode cX7_undo 59 = .ok (.getfield 64, 3) := by decide +kernel
theorem dX7_undo_62 : decode cX7_undo 62 = .ok (.ireturn, 1) := by decide +kernel
theorem dX7_save_0 : decode cX7_save 0 = .ok (.aload_n 0, 1) := by decide +kernel
theorem dX7_save_1 : decode cX7_save 1 = .ok (.iconst 0, 1) := by decide +kernel
theorem dX7_save_2 : decode cX7_save 2 = .ok (.putfield 55, 3) := by decide +kernel
theorem dX7_save_5 : decode cX7_save 5 = .ok (.aload_n 0, 1) := by decide +kernel
theorem dX7_save_6 : decode cX7_save 6 = .ok (.getfield 9, 3) := by decide +kernel
theorem dX7_save_9 : decode cX7_save 9 = .ok (.iconst 0, 1) := by decide +kernel
theorem dX7_save_10 : decode cX7_save 10 = .ok (.aload_n 0, 1) := by decide +kernel
theorem dX7_save_11 : decode cX7_save 11 = .ok (.getfield 16, 3) := by decide +kernel
theorem dX7_save_14 : decode cX7_save 14 = .ok (.iconst 0, 1) := by decide +kernel
theorem dX7_save_15 : decode cX7_save 15 = .ok (.sipush 228, 3) := by decide +kernel
theorem dX7_save_18 : decode cX7_save 18 = .ok (.invokestatic 58, 3) := by decide +kernel
theorem dX7_save_21 : decode cX7_save 21 = .ok (.aload_n 0, 1) := by decide +kernel
theorem dX7_save_22 : decode cX7_save 22 = .ok (.iconst 1, 1) := by decide +kernel
theorem dX7_save_23 : decode cX7_save 23 = .ok (.putfield 309, 3) := by decide +kernel
theorem dX7_save_26 : decode cX7_save 26 = .ok (.return_, 1) := by decide +kernel
theorem dX7_restore_0 : decode cX7_restore 0 = .ok (.aload_n 0, 1) := by decide +kernel
theorem dX7_restore_1 : decode cX7_restore 1 = .ok (.aload_n 0, 1) := by decide +kernel
theorem dX7_restore_2 : decode cX7_restore 2 = .ok (.getfield 309, 3) := by decide +kernel
theorem dX7_restore_5 : decode cX7_restore 5 = .ok (.ifCond .eq 7, 3) := by decide +kernel
theorem dX7_restore_8 : decode cX7_restore 8 = .ok (.iconst 0, 1) := by decide +kernel
theorem dX7_restore_9 : decode cX7_restore 9 = .ok (.goto 4, 3) := by decide +kernel
theorem dX7_restore_12 : decode cX7_restore 12 = .ok (.iconst 1, 1) := by decide +kernel
theorem dX7_restore_13 : decode cX7_restore 13 = .ok (.putfield 55, 3) := by decide +kernel
theorem dX7_restore_16 : decode cX7_restore 16 = .ok (.aload_n 0, 1) := by decide +kernel
theorem dX7_restore_17 : decode cX7_restore 17 = .ok (.getfield 55, 3) := by decide +kernel
theorem dX7_restore_20 : decode cX7_restore 20 = .ok (.ifCond .ne 24, 3) := by decide +kernel
theorem dX7_restore_23 : decode cX7_restore 23 = .ok (.aload_n 0, 1) := by decide +kernel
theorem dX7_restore_24 : decode cX7_restore 24 = .ok (.getfield 16, 3) := by decide +kernel
theorem dX7_restore_27 : decode cX7_restore 27 = .ok (.iconst 0, 1) := by decide +kernel
theorem dX7_restore_28 : decode cX7_restore 28 = .ok (.aload_n 0, 1) := by decide +kernel
theorem dX7_restore_29 : decode cX7_restore 29 = .ok (.getfield 9, 3) := by decide +kernel
theorem dX7_restore_32 : decode cX7_restore 32 = .ok (.iconst 0, 1) := by decide +kernel
theorem dX7_restore_33 : decode cX7_restore 33 = .ok (.sipush 228, 3) := by decide +kernel
theorem dX7_restore_36 : decode cX7_restore 36 = .ok (.invokestatic 58, 3) := by decide +kernel
theorem dX7_restore_39 : decode cX7_restore 39 = .ok (.aload_n 0, 1) := by decide +kernel
theorem dX7_restore_40 : decode cX7_restore 40 = .ok (.iconst 0, 1) := by decide +kernel
theorem dX7_restore_41 : decode cX7_restore 41 = .ok (.putfield 64, 3) := by decide +kernel
theorem dX7_restore_44 : decode cX7_restore 44 = .ok (.return_, 1) := by decide +kernel
theorem dL_addDoor_0 : decode cL_addDoor 0 = .ok (.aload_n 3, 1) := by decide +kernel
theorem dL_addDoor_1 : decode cL_addDoor 1 = .ok (.iconst 0, 1) := by decide +kernel
theorem dL_addDoor_2 : decode cL_addDoor 2 = .ok (.aload_n 0, 1) := by decide +kernel
theorem dL_addDoor_3 : decode cL_addDoor 3 = .ok (.iload_n 1, 1) := by decide +kernel
theorem dL_addDoor_4 : decode cL_addDoor 4 = .ok (.iload_n 2, 1) := by decide +kernel
theorem dL_addDoor_5 : decode cL_addDoor 5 = .ok (.invokevirtual 7, 3) := by decide +kernel
theorem dL_addDoor_8 : decode cL_addDoor 8 = .ok (.i2l, 1) := by decide +kernel
theorem dL_addDoor_9 : decode cL_addDoor 9 = .ok (.lastore, 1) := by decide +kernel
theorem dL_addDoor_10 : decode cL_addDoor 10 = .ok (.goto 11, 3) := by decide +kernel
theorem dL_addDoor_13 : decode cL_addDoor 13 = .ok (.astore 4, 2) := by decide +kernel
theorem dL_addDoor_15 : decode cL_addDoor 15 = .ok (.iconst 1, 1) := by decide +kernel
theorem dL_addDoor_16 : decode cL_addDoor 16 = .ok (.ireturn, 1) := by decide +kernel
theorem dL_addDoor_17 : decode cL_addDoor 17 = .ok (.astore 4, 2) := by decide +kernel
theorem dL_addDoor_19 : decode cL_addDoor 19 = .ok (.iconst 2, 1) := by decide +kernel
theorem dL_addDoor_20 : decode cL_addDoor 20 = .ok (.ireturn, 1) := by decide +kernel
theorem dL_addDoor_21 : decode cL_addDoor 21 = .ok (.iconst 0, 1) := by decide +kernel
theorem dL_addDoor_22 : decode cL_addDoor 22 = .ok (.ireturn, 1) := by decide +kernel
theorem dL_addExaminer_0 : decode cL_addExaminer 0 = .ok (.aload 5, 2) := by decide +kernel
theorem dL_addExaminer_2 : decode cL_addExaminer 2 = .ok (.iconst 0, 1) := by decide +kernel
theorem dL_addExaminer_3 : decode cL_addExaminer 3 = .ok (.aload_n 0, 1) := by decide +kernel
theorem dL_addExaminer_4 : decode cL_addExaminer 4 = .ok (.iload_n 1, 1) := by decide +kernel
theorem dL_addExaminer_5 : decode cL_addExaminer 5 = .ok (.iload_n 2, 1) := by decide +kernel
theorem dL_addExaminer_6 : decode cL_addExaminer 6 = .ok (.iload_n 3, 1) := by decide +kernel
theorem dL_addExaminer_7 : decode cL_addExaminer 7 = .ok (.iload 4, 2) := by decide +kernel
theorem dL_addExaminer_9 : decode cL_addExaminer 9 = .ok (.invokevirtual 17, 3) := by decide +kernel
theorem dL_addExaminer_12 : decode cL_addExaminer 12 = .ok (.i2l, 1) := by decide +kernel
theorem dL_addExaminer_13 : decode cL_addExaminer 13 = .ok (.lastore, 1) := by decide +kernel
theorem dL_addExaminer_14 : decode cL_addExaminer 14 = .ok (.goto 11, 3) := by decide +kernel
theorem dL_addExaminer_17 : decode cL_addExaminer 17 = .ok (.astore 6, 2) := by decide +kernel
theorem dL_addExaminer_19 : decode cL_addExaminer 19 = .ok (.iconst 1, 1) := by decide +kernel
theorem dL_addExaminer_20 : decode cL_addExaminer 20 = .ok (.ireturn, 1) := by decide +kernel
theorem dL_addExaminer_21 : decode cL_addExaminer 21 = .ok (.astore 6, 2) := by decide +kernel
theorem dL_addExaminer_23 : decode cL_addExaminer 23 = .ok (.iconst 2, 1) := by decide +kernel
theorem dL_addExaminer_24 : decode cL_addExaminer 24 = .ok (.ireturn, 1) := by decide +kernel
theorem dL_addExaminer_25 : decode cL_addExaminer 25 = .ok (.iconst 0, 1) := by decide +kernel
theorem dL_addExaminer_26 : decode cL_addExaminer 26 = .ok (.ireturn, 1) := by decide +kernel
theorem dL_declareConflict_0 : decode cL_declareConflict 0 = .ok (.aload_n 3, 1) := by decide +kernel
theorem dL_declareConflict_1 : decode cL_declareConflict 1 = .ok (.iconst 0, 1) := by decide +kernel
theorem dL_declareConflict_2 : decode cL_declareConflict 2 = .ok (.aload_n 0, 1) := by decide +kernel
theorem dL_declareConflict_3 : decode cL_declareConflict 3 = .ok (.iload_n 1, 1) := by decide +kernel
theorem dL_declareConflict_4 : decode cL_declareConflict 4 = .ok (.iload_n 2, 1) := by decide +kernel
theorem dL_declareConflict_5 : decode cL_declareConflict 5 = .ok (.invokevirtual 21, 3) := by decide +kernel
theorem dL_declareConflict_8 : decode cL_declareConflict 8 = .ok (.i2l, 1) := by decide +kernel
theorem dL_declareConflict_9 : decode cL_declareConflict 9 = .ok (.lastore, 1) := by decide +kernel
theorem dL_declareConflict_10 : decode cL_declareConflict 10 = .ok (.goto 11, 3) := by decide +kernel
theorem dL_declareConflict_13 : decode cL_declareConflict 13 = .ok (.astore 4, 2) := by decide +kernel
theorem dL_declareConflict_15 : decode cL_declareConflict 15 = .ok (.iconst 1, 1) := by decide +kernel
theorem dL_declareConflict_16 : decode cL_declareConflict 16 = .ok (.ireturn, 1) := by decide +kernel
theorem dL_declareConflict_17 : decode cL_declareConflict 17 = .ok (.astore 4, 2) := by decide +kernel
theorem dL_declareConflict_19 : decode cL_declareConflict 19 = .ok (.iconst 2, 1) := by decide +kernel
theorem dL_declareConflict_20 : decode cL_declareConflict 20 = .ok (.ireturn, 1) := by decide +kernel
theorem dL_declareConflict_21 : decode cL_declareConflict 21 = .ok (.iconst 0, 1) := by decide +kernel
theorem dL_declareConflict_22 : decode cL_declareConflict 22 = .ok (.ireturn, 1) := by decide +kernel
theorem dL_assign_0 : decode cL_assign 0 = .ok (.aload_n 3, 1) := by decide +kernel
theorem dL_assign_1 : decode cL_assign 1 = .ok (.iconst 0, 1) := by decide +kernel
theorem dL_assign_2 : decode cL_assign 2 = .ok (.aload_n 0, 1) := by decide +kernel
theorem dL_assign_3 : decode cL_assign 3 = .ok (.iload_n 1, 1) := by decide +kernel
theorem dL_assign_4 : decode cL_assign 4 = .ok (.iload_n 2, 1) := by decide +kernel
theorem dL_assign_5 : decode cL_assign 5 = .ok (.invokevirtual 27, 3) := by decide +kernel
theorem dL_assign_8 : decode cL_assign 8 = .ok (.i2l, 1) := by decide +kernel
theorem dL_assign_9 : decode cL_assign 9 = .ok (.lastore, 1) := by decide +kernel
theorem dL_assign_10 : decode cL_assign 10 = .ok (.goto 15, 3) := by decide +kernel
theorem dL_assign_13 : decode cL_assign 13 = .ok (.astore 4, 2) := by decide +kernel
theorem dL_assign_15 : decode cL_assign 15 = .ok (.iconst 1, 1) := by decide +kernel
theorem dL_assign_16 : decode cL_assign 16 = .ok (.ireturn, 1) := by decide +kernel
theorem dL_assign_17 : decode cL_assign 17 = .ok (.astore 4, 2) := by decide +kernel
theorem dL_assign_19 : decode cL_assign 19 = .ok (.iconst 2, 1) := by decide +kernel
theorem dL_assign_20 : decode cL_assign 20 = .ok (.ireturn, 1) := by decide +kernel
theorem dL_assign_21 : decode cL_assign 21 = .ok (.astore 4, 2) := by decide +kernel
theorem dL_assign_23 : decode cL_assign 23 = .ok (.iconst 3, 1) := by decide +kernel
theorem dL_assign_24 : decode cL_assign 24 = .ok (.ireturn, 1) := by decide +kernel
theorem dL_assign_25 : decode cL_assign 25 = .ok (.iconst 0, 1) := by decide +kernel
theorem dL_assign_26 : decode cL_assign 26 = .ok (.ireturn, 1) := by decide +kernel
theorem dL_grade_0 : decode cL_grade 0 = .ok (.aload 4, 2) := by decide +kernel
theorem dL_grade_2 : decode cL_grade 2 = .ok (.iconst 0, 1) := by decide +kernel
theorem dL_grade_3 : decode cL_grade 3 = .ok (.aload_n 0, 1) := by decide +kernel
theorem dL_grade_4 : decode cL_grade 4 = .ok (.iload_n 1, 1) := by decide +kernel
theorem dL_grade_5 : decode cL_grade 5 = .ok (.iload_n 2, 1) := by decide +kernel
theorem dL_grade_6 : decode cL_grade 6 = .ok (.iload_n 3, 1) := by decide +kernel
theorem dL_grade_7 : decode cL_grade 7 = .ok (.invokevirtual 32, 3) := by decide +kernel
theorem dL_grade_10 : decode cL_grade 10 = .ok (.i2l, 1) := by decide +kernel
theorem dL_grade_11 : decode cL_grade 11 = .ok (.lastore, 1) := by decide +kernel
theorem dL_grade_12 : decode cL_grade 12 = .ok (.goto 15, 3) := by decide +kernel
theorem dL_grade_15 : decode cL_grade 15 = .ok (.astore 5, 2) := by decide +kernel
theorem dL_grade_17 : decode cL_grade 17 = .ok (.iconst 1, 1) := by decide +kernel
theorem dL_grade_18 : decode cL_grade 18 = .ok (.ireturn, 1) := by decide +kernel
theorem dL_grade_19 : decode cL_grade 19 = .ok (.astore 5, 2) := by decide +kernel
theorem dL_grade_21 : decode cL_grade 21 = .ok (.iconst 2, 1) := by decide +kernel
theorem dL_grade_22 : decode cL_grade 22 = .ok (.ireturn, 1) := by decide +kernel
theorem dL_grade_23 : decode cL_grade 23 = .ok (.astore 5, 2) := by decide +kernel
theorem dL_grade_25 : decode cL_grade 25 = .ok (.iconst 3, 1) := by decide +kernel
theorem dL_grade_26 : decode cL_grade 26 = .ok (.ireturn, 1) := by decide +kernel
theorem dL_grade_27 : decode cL_grade 27 = .ok (.iconst 0, 1) := by decide +kernel
theorem dL_grade_28 : decode cL_grade 28 = .ok (.ireturn, 1) := by decide +kernel
theorem dL_setThreshold_0 : decode cL_setThreshold 0 = .ok (.aload_n 2, 1) := by decide +kernel
theorem dL_setThreshold_1 : decode cL_setThreshold 1 = .ok (.iconst 0, 1) := by decide +kernel
theorem dL_setThreshold_2 : decode cL_setThreshold 2 = .ok (.aload_n 0, 1) := by decide +kernel
theorem dL_setThreshold_3 : decode cL_setThreshold 3 = .ok (.iload_n 1, 1) := by decide +kernel
theorem dL_setThreshold_4 : decode cL_setThreshold 4 = .ok (.invokevirtual 36, 3) := by decide +kernel
theorem dL_setThreshold_7 : decode cL_setThreshold 7 = .ok (.i2l, 1) := by decide +kernel
theorem dL_setThreshold_8 : decode cL_setThreshold 8 = .ok (.lastore, 1) := by decide +kernel
theorem dL_setThreshold_9 : decode cL_setThreshold 9 = .ok (.goto 6, 3) := by decide +kernel
theorem dL_setThreshold_12 : decode cL_setThreshold 12 = .ok (.astore_n 3, 1) := by decide +kernel
theorem dL_setThreshold_13 : decode cL_setThreshold 13 = .ok (.iconst 1, 1) := by decide +kernel
theorem dL_setThreshold_14 : decode cL_setThreshold 14 = .ok (.ireturn, 1) := by decide +kernel
theorem dL_setThreshold_15 : decode cL_setThreshold 15 = .ok (.iconst 0, 1) := by decide +kernel
theorem dL_setThreshold_16 : decode cL_setThreshold 16 = .ok (.ireturn, 1) := by decide +kernel
theorem dL_appeal_0 : decode cL_appeal 0 = .ok (.aload_n 2, 1) := by decide +kernel
theorem dL_appeal_1 : decode cL_appeal 1 = .ok (.iconst 0, 1) := by decide +kernel
theorem dL_appeal_2 : decode cL_appeal 2 = .ok (.aload_n 0, 1) := by decide +kernel
theorem dL_appeal_3 : decode cL_appeal 3 = .ok (.iload_n 1, 1) := by decide +kernel
theorem dL_appeal_4 : decode cL_appeal 4 = .ok (.invokevirtual 40, 3) := by decide +kernel
theorem dL_appeal_7 : decode cL_appeal 7 = .ok (.i2l, 1) := by decide +kernel
theorem dL_appeal_8 : decode cL_appeal 8 = .ok (.lastore, 1) := by decide +kernel
theorem dL_appeal_9 : decode cL_appeal 9 = .ok (.goto 12, 3) := by decide +kernel
theorem dL_appeal_12 : decode cL_appeal 12 = .ok (.astore_n 3, 1) := by decide +kernel
theorem dL_appeal_13 : decode cL_appeal 13 = .ok (.iconst 1, 1) := by decide +kernel
theorem dL_appeal_14 : decode cL_appeal 14 = .ok (.ireturn, 1) := by decide +kernel
theorem dL_appeal_15 : decode cL_appeal 15 = .ok (.astore_n 3, 1) := by decide +kernel
theorem dL_appeal_16 : decode cL_appeal 16 = .ok (.iconst 2, 1) := by decide +kernel
theorem dL_appeal_17 : decode cL_appeal 17 = .ok (.ireturn, 1) := by decide +kernel
theorem dL_appeal_18 : decode cL_appeal 18 = .ok (.astore_n 3, 1) := by decide +kernel
theorem dL_appeal_19 : decode cL_appeal 19 = .ok (.iconst 3, 1) := by decide +kernel
theorem dL_appeal_20 : decode cL_appeal 20 = .ok (.ireturn, 1) := by decide +kernel
theorem dL_appeal_21 : decode cL_appeal 21 = .ok (.iconst 0, 1) := by decide +kernel
theorem dL_appeal_22 : decode cL_appeal 22 = .ok (.ireturn, 1) := by decide +kernel
theorem dL_award_0 : decode cL_award 0 = .ok (.aload_n 2, 1) := by decide +kernel
theorem dL_award_1 : decode cL_award 1 = .ok (.iconst 0, 1) := by decide +kernel
theorem dL_award_2 : decode cL_award 2 = .ok (.aload_n 0, 1) := by decide +kernel
theorem dL_award_3 : decode cL_award 3 = .ok (.iload_n 1, 1) := by decide +kernel
theorem dL_award_4 : decode cL_award 4 = .ok (.invokevirtual 43, 3) := by decide +kernel
theorem dL_award_7 : decode cL_award 7 = .ok (.i2l, 1) := by decide +kernel
theorem dL_award_8 : decode cL_award 8 = .ok (.lastore, 1) := by decide +kernel
theorem dL_award_9 : decode cL_award 9 = .ok (.goto 12, 3) := by decide +kernel
theorem dL_award_12 : decode cL_award 12 = .ok (.astore_n 3, 1) := by decide +kernel
