theorem dX5_tryAssignment_1 : decode cX5_tryAssignment 1 = .ok (.iload_n 1, 1) := by decide +kernel
theorem dX5_tryAssignment_2 : decode cX5_tryAssignment 2 = .ok (.iload_n 2, 1) := by decide +kernel
theorem dX5_tryAssignment_3 : decode cX5_tryAssignment 3 = .ok (.invokevirtual 127, 3) := by decide +kernel
theorem dX5_tryAssignment_6 : decode cX5_tryAssignment 6 = .ok (.ifCond .ne 5, 3) := by decide +kernel
theorem dX5_tryAssignment_9 : decode cX5_tryAssignment 9 = .ok (.iconst (-1), 1) := by decide +kernel
theorem dX5_tryAssignment_10 : decode cX5_tryAssignment 10 = .ok (.ireturn, 1) := by decide +kernel
theorem dX5_tryAssignment_11 : decode cX5_tryAssignment 11 = .ok (.aload_n 0, 1) := by decide +kernel
theorem dX5_tryAssignment_12 : decode cX5_tryAssignment 12 = .ok (.iload_n 1, 1) := by decide +kernel
theorem dX5_tryAssignment_13 : decode cX5_tryAssignment 13 = .ok (.iload_n 2, 1) := by decide +kernel
theorem dX5_tryAssignment_14 : decode cX5_tryAssignment 14 = .ok (.invokevirtual 90, 3) := by decide +kernel
theorem dX5_tryAssignment_17 : decode cX5_tryAssignment 17 = .ok (.ifCond .ne 20, 3) := by decide +kernel
theorem dX5_tryAssignment_20 : decode cX5_tryAssignment 20 = .ok (.aload_n 0, 1) := by decide +kernel
theorem dX5_tryAssignment_21 : decode cX5_tryAssignment 21 = .ok (.iload_n 2, 1) := by decide +kernel
theorem dX5_tryAssignment_22 : decode cX5_tryAssignment 22 = .ok (.invokevirtual 133, 3) := by decide +kernel
theorem dX5_tryAssignment_25 : decode cX5_tryAssignment 25 = .ok (.iconst 3, 1) := by decide +kernel
theorem dX5_tryAssignment_26 : decode cX5_tryAssignment 26 = .ok (.if_icmp .ge 11, 3) := by decide +kernel
theorem dX5_tryAssignment_29 : decode cX5_tryAssignment 29 = .ok (.aload_n 0, 1) := by decide +kernel
theorem dX5_tryAssignment_30 : decode cX5_tryAssignment 30 = .ok (.iload_n 1, 1) := by decide +kernel
theorem dX5_tryAssignment_31 : decode cX5_tryAssignment 31 = .ok (.invokevirtual 136, 3) := by decide +kernel
theorem dX5_tryAssignment_34 : decode cX5_tryAssignment 34 = .ok (.ifCond .gt 6, 3) := by decide +kernel
theorem dX5_tryAssignment_37 : decode cX5_tryAssignment 37 = .ok (.bipush (-3), 2) := by decide +kernel
theorem dX5_tryAssignment_39 : decode cX5_tryAssignment 39 = .ok (.ireturn, 1) := by decide +kernel
theorem dX5_tryAssignment_40 : decode cX5_tryAssignment 40 = .ok (.aload_n 0, 1) := by decide +kernel
theorem dX5_tryAssignment_41 : decode cX5_tryAssignment 41 = .ok (.iload_n 1, 1) := by decide +kernel
theorem dX5_tryAssignment_42 : decode cX5_tryAssignment 42 = .ok (.iload_n 2, 1) := by decide +kernel
theorem dX5_tryAssignment_43 : decode cX5_tryAssignment 43 = .ok (.invokevirtual 139, 3) := by decide +kernel
theorem dX5_tryAssignment_46 : decode cX5_tryAssignment 46 = .ok (.ifCond .ne 6, 3) := by decide +kernel
theorem dX5_tryAssignment_49 : decode cX5_tryAssignment 49 = .ok (.bipush (-4), 2) := by decide +kernel
theorem dX5_tryAssignment_51 : decode cX5_tryAssignment 51 = .ok (.ireturn, 1) := by decide +kernel
theorem dX5_tryAssignment_52 : decode cX5_tryAssignment 52 = .ok (.aload_n 0, 1) := by decide +kernel
theorem dX5_tryAssignment_53 : decode cX5_tryAssignment 53 = .ok (.getfield 50, 3) := by decide +kernel
theorem dX5_tryAssignment_56 : decode cX5_tryAssignment 56 = .ok (.iload_n 1, 1) := by decide +kernel
theorem dX5_tryAssignment_57 : decode cX5_tryAssignment 57 = .ok (.dup2, 1) := by decide +kernel
theorem dX5_tryAssignment_58 : decode cX5_tryAssignment 58 = .ok (.iaload, 1) := by decide +kernel
theorem dX5_tryAssignment_59 : decode cX5_tryAssignment 59 = .ok (.iconst 1, 1) := by decide +kernel
theorem dX5_tryAssignment_60 : decode cX5_tryAssignment 60 = .ok (.iload_n 2, 1) := by decide +kernel
theorem dX5_tryAssignment_61 : decode cX5_tryAssignment 61 = .ok (.ishl, 1) := by decide +kernel
theorem dX5_tryAssignment_62 : decode cX5_tryAssignment 62 = .ok (.ior, 1) := by decide +kernel
theorem dX5_tryAssignment_63 : decode cX5_tryAssignment 63 = .ok (.iastore, 1) := by decide +kernel
theorem dX5_tryAssignment_64 : decode cX5_tryAssignment 64 = .ok (.aload_n 0, 1) := by decide +kernel
theorem dX5_tryAssignment_65 : decode cX5_tryAssignment 65 = .ok (.iload_n 2, 1) := by decide +kernel
theorem dX5_tryAssignment_66 : decode cX5_tryAssignment 66 = .ok (.invokevirtual 133, 3) := by decide +kernel
theorem dX5_tryAssignment_69 : decode cX5_tryAssignment 69 = .ok (.ireturn, 1) := by decide +kernel
theorem dX5_putPlan_0 : decode cX5_putPlan 0 = .ok (.iconst 0, 1) := by decide +kernel
theorem dX5_putPlan_1 : decode cX5_putPlan 1 = .ok (.istore_n 2, 1) := by decide +kernel
theorem dX5_putPlan_2 : decode cX5_putPlan 2 = .ok (.iconst 0, 1) := by decide +kernel
theorem dX5_putPlan_3 : decode cX5_putPlan 3 = .ok (.istore_n 3, 1) := by decide +kernel
theorem dX5_putPlan_4 : decode cX5_putPlan 4 = .ok (.iload_n 3, 1) := by decide +kernel
theorem dX5_putPlan_5 : decode cX5_putPlan 5 = .ok (.aload_n 0, 1) := by decide +kernel
theorem dX5_putPlan_6 : decode cX5_putPlan 6 = .ok (.getfield 21, 3) := by decide +kernel
theorem dX5_putPlan_9 : decode cX5_putPlan 9 = .ok (.if_icmp .ge 33, 3) := by decide +kernel
theorem dX5_putPlan_12 : decode cX5_putPlan 12 = .ok (.aload_n 1, 1) := by decide +kernel
theorem dX5_putPlan_13 : decode cX5_putPlan 13 = .ok (.iload_n 3, 1) := by decide +kernel
theorem dX5_putPlan_14 : decode cX5_putPlan 14 = .ok (.iaload, 1) := by decide +kernel
theorem dX5_putPlan_15 : decode cX5_putPlan 15 = .ok (.iconst (-1), 1) := by decide +kernel
theorem dX5_putPlan_16 : decode cX5_putPlan 16 = .ok (.if_icmp .eq 20, 3) := by decide +kernel
theorem dX5_putPlan_19 : decode cX5_putPlan 19 = .ok (.aload_n 0, 1) := by decide +kernel
theorem dX5_putPlan_20 : decode cX5_putPlan 20 = .ok (.getfield 50, 3) := by decide +kernel
theorem dX5_putPlan_23 : decode cX5_putPlan 23 = .ok (.aload_n 1, 1) := by decide +kernel
theorem dX5_putPlan_24 : decode cX5_putPlan 24 = .ok (.iload_n 3, 1) := by decide +kernel
theorem dX5_putPlan_25 : decode cX5_putPlan 25 = .ok (.iaload, 1) := by decide +kernel
theorem dX5_putPlan_26 : decode cX5_putPlan 26 = .ok (.dup2, 1) := by decide +kernel
theorem dX5_putPlan_27 : decode cX5_putPlan 27 = .ok (.iaload, 1) := by decide +kernel
theorem dX5_putPlan_28 : decode cX5_putPlan 28 = .ok (.iconst 1, 1) := by decide +kernel
theorem dX5_putPlan_29 : decode cX5_putPlan 29 = .ok (.iload_n 3, 1) := by decide +kernel
theorem dX5_putPlan_30 : decode cX5_putPlan 30 = .ok (.ishl, 1) := by decide +kernel
theorem dX5_putPlan_31 : decode cX5_putPlan 31 = .ok (.ior, 1) := by decide +kernel
theorem dX5_putPlan_32 : decode cX5_putPlan 32 = .ok (.iastore, 1) := by decide +kernel
theorem dX5_putPlan_33 : decode cX5_putPlan 33 = .ok (.iinc 2 1, 3) := by decide +kernel
theorem dX5_putPlan_36 : decode cX5_putPlan 36 = .ok (.iinc 3 1, 3) := by decide +kernel
theorem dX5_putPlan_39 : decode cX5_putPlan 39 = .ok (.goto (-35), 3) := by decide +kernel
theorem dX5_putPlan_42 : decode cX5_putPlan 42 = .ok (.iload_n 2, 1) := by decide +kernel
theorem dX5_putPlan_43 : decode cX5_putPlan 43 = .ok (.ireturn, 1) := by decide +kernel
theorem dX5_tryGrade_0 : decode cX5_tryGrade 0 = .ok (.aload_n 0, 1) := by decide +kernel
theorem dX5_tryGrade_1 : decode cX5_tryGrade 1 = .ok (.iload_n 1, 1) := by decide +kernel
theorem dX5_tryGrade_2 : decode cX5_tryGrade 2 = .ok (.iload_n 2, 1) := by decide +kernel
theorem dX5_tryGrade_3 : decode cX5_tryGrade 3 = .ok (.invokevirtual 127, 3) := by decide +kernel
theorem dX5_tryGrade_6 : decode cX5_tryGrade 6 = .ok (.ifCond .ne 5, 3) := by decide +kernel
theorem dX5_tryGrade_9 : decode cX5_tryGrade 9 = .ok (.iconst (-1), 1) := by decide +kernel
theorem dX5_tryGrade_10 : decode cX5_tryGrade 10 = .ok (.ireturn, 1) := by decide +kernel
theorem dX5_tryGrade_11 : decode cX5_tryGrade 11 = .ok (.iload_n 3, 1) := by decide +kernel
theorem dX5_tryGrade_12 : decode cX5_tryGrade 12 = .ok (.ifCond .lt 9, 3) := by decide +kernel
theorem dX5_tryGrade_15 : decode cX5_tryGrade 15 = .ok (.iload_n 3, 1) := by decide +kernel
theorem dX5_tryGrade_16 : decode cX5_tryGrade 16 = .ok (.bipush 20, 2) := by decide +kernel
theorem dX5_tryGrade_18 : decode cX5_tryGrade 18 = .ok (.if_icmp .le 6, 3) := by decide +kernel
theorem dX5_tryGrade_21 : decode cX5_tryGrade 21 = .ok (.bipush (-2), 2) := by decide +kernel
theorem dX5_tryGrade_23 : decode cX5_tryGrade 23 = .ok (.ireturn, 1) := by decide +kernel
theorem dX5_tryGrade_24 : decode cX5_tryGrade 24 = .ok (.aload_n 0, 1) := by decide +kernel
theorem dX5_tryGrade_25 : decode cX5_tryGrade 25 = .ok (.iload_n 1, 1) := by decide +kernel
theorem dX5_tryGrade_26 : decode cX5_tryGrade 26 = .ok (.iload_n 2, 1) := by decide +kernel
theorem dX5_tryGrade_27 : decode cX5_tryGrade 27 = .ok (.invokevirtual 90, 3) := by decide +kernel
theorem dX5_tryGrade_30 : decode cX5_tryGrade 30 = .ok (.ifCond .eq 15, 3) := by decide +kernel
theorem dX5_tryGrade_33 : decode cX5_tryGrade 33 = .ok (.aload_n 0, 1) := by decide +kernel
theorem dX5_tryGrade_34 : decode cX5_tryGrade 34 = .ok (.getfield 55, 3) := by decide +kernel
theorem dX5_tryGrade_37 : decode cX5_tryGrade 37 = .ok (.iload_n 1, 1) := by decide +kernel
theorem dX5_tryGrade_38 : decode cX5_tryGrade 38 = .ok (.aaload, 1) := by decide +kernel
theorem dX5_tryGrade_39 : decode cX5_tryGrade 39 = .ok (.iload_n 2, 1) := by decide +kernel
theorem dX5_tryGrade_40 : decode cX5_tryGrade 40 = .ok (.iaload, 1) := by decide +kernel
theorem dX5_tryGrade_41 : decode cX5_tryGrade 41 = .ok (.iconst (-1), 1) := by decide +kernel
theorem dX5_tryGrade_42 : decode cX5_tryGrade 42 = .ok (.if_icmp .eq 6, 3) := by decide +kernel
theorem dX5_tryGrade_45 : decode cX5_tryGrade 45 = .ok (.bipush (-3), 2) := by decide +kernel
theorem dX5_tryGrade_47 : decode cX5_tryGrade 47 = .ok (.ireturn, 1) := by decide +kernel
theorem dX5_tryGrade_48 : decode cX5_tryGrade 48 = .ok (.aload_n 0, 1) := by decide +kernel
theorem dX5_tryGrade_49 : decode cX5_tryGrade 49 = .ok (.getfield 55, 3) := by decide +kernel
theorem dX5_tryGrade_52 : decode cX5_tryGrade 52 = .ok (.iload_n 1, 1) := by decide +kernel
theorem dX5_tryGrade_53 : decode cX5_tryGrade 53 = .ok (.aaload, 1) := by decide +kernel
theorem dX5_tryGrade_54 : decode cX5_tryGrade 54 = .ok (.iload_n 2, 1) := by decide +kernel
theorem dX5_tryGrade_55 : decode cX5_tryGrade 55 = .ok (.iload_n 3, 1) := by decide +kernel
theorem dX5_tryGrade_56 : decode cX5_tryGrade 56 = .ok (.iastore, 1) := by decide +kernel
theorem dX5_tryGrade_57 : decode cX5_tryGrade 57 = .ok (.aload_n 0, 1) := by decide +kernel
theorem dX5_tryGrade_58 : decode cX5_tryGrade 58 = .ok (.iload_n 2, 1) := by decide +kernel
theorem dX5_tryGrade_59 : decode cX5_tryGrade 59 = .ok (.invokevirtual 93, 3) := by decide +kernel
theorem dX5_tryGrade_62 : decode cX5_tryGrade 62 = .ok (.ireturn, 1) := by decide +kernel
theorem dX5_tryThreshold_0 : decode cX5_tryThreshold 0 = .ok (.iload_n 1, 1) := by decide +kernel
theorem dX5_tryThreshold_1 : decode cX5_tryThreshold 1 = .ok (.ifCond .lt 9, 3) := by decide +kernel
theorem dX5_tryThreshold_4 : decode cX5_tryThreshold 4 = .ok (.iload_n 1, 1) := by decide +kernel
theorem dX5_tryThreshold_5 : decode cX5_tryThreshold 5 = .ok (.bipush 20, 2) := by decide +kernel
theorem dX5_tryThreshold_7 : decode cX5_tryThreshold 7 = .ok (.if_icmp .le 6, 3) := by decide +kernel
theorem dX5_tryThreshold_10 : decode cX5_tryThreshold 10 = .ok (.bipush (-2), 2) := by decide +kernel
theorem dX5_tryThreshold_12 : decode cX5_tryThreshold 12 = .ok (.ireturn, 1) := by decide +kernel
theorem dX5_tryThreshold_13 : decode cX5_tryThreshold 13 = .ok (.aload_n 0, 1) := by decide +kernel
theorem dX5_tryThreshold_14 : decode cX5_tryThreshold 14 = .ok (.getfield 58, 3) := by decide +kernel
theorem dX5_tryThreshold_17 : decode cX5_tryThreshold 17 = .ok (.istore_n 2, 1) := by decide +kernel
theorem dX5_tryThreshold_18 : decode cX5_tryThreshold 18 = .ok (.aload_n 0, 1) := by decide +kernel
theorem dX5_tryThreshold_19 : decode cX5_tryThreshold 19 = .ok (.iload_n 1, 1) := by decide +kernel
theorem dX5_tryThreshold_20 : decode cX5_tryThreshold 20 = .ok (.putfield 58, 3) := by decide +kernel
theorem dX5_tryThreshold_23 : decode cX5_tryThreshold 23 = .ok (.iload_n 2, 1) := by decide +kernel
theorem dX5_tryThreshold_24 : decode cX5_tryThreshold 24 = .ok (.ireturn, 1) := by decide +kernel
theorem dX5_tryAward_0 : decode cX5_tryAward 0 = .ok (.aload_n 0, 1) := by decide +kernel
theorem dX5_tryAward_1 : decode cX5_tryAward 1 = .ok (.iload_n 1, 1) := by decide +kernel
theorem dX5_tryAward_2 : decode cX5_tryAward 2 = .ok (.invokevirtual 71, 3) := by decide +kernel
theorem dX5_tryAward_5 : decode cX5_tryAward 5 = .ok (.ifCond .ne 5, 3) := by decide +kernel
theorem dX5_tryAward_8 : decode cX5_tryAward 8 = .ok (.iconst (-1), 1) := by decide +kernel
theorem dX5_tryAward_9 : decode cX5_tryAward 9 = .ok (.ireturn, 1) := by decide +kernel
theorem dX5_tryAward_10 : decode cX5_tryAward 10 = .ok (.aload_n 0, 1) := by decide +kernel
theorem dX5_tryAward_11 : decode cX5_tryAward 11 = .ok (.iload_n 1, 1) := by decide +kernel
theorem dX5_tryAward_12 : decode cX5_tryAward 12 = .ok (.invokevirtual 114, 3) := by decide +kernel
theorem dX5_tryAward_15 : decode cX5_tryAward 15 = .ok (.iconst (-1), 1) := by decide +kernel
theorem dX5_tryAward_16 : decode cX5_tryAward 16 = .ok (.if_icmp .ne 12, 3) := by decide +kernel
theorem dX5_tryAward_19 : decode cX5_tryAward 19 = .ok (.aload_n 0, 1) := by decide +kernel
theorem dX5_tryAward_20 : decode cX5_tryAward 20 = .ok (.getfield 61, 3) := by decide +kernel
theorem dX5_tryAward_23 : decode cX5_tryAward 23 = .ok (.bipush 8, 2) := by decide +kernel
theorem dX5_tryAward_25 : decode cX5_tryAward 25 = .ok (.if_icmp .lt 6, 3) := by decide +kernel
theorem dX5_tryAward_28 : decode cX5_tryAward 28 = .ok (.bipush (-3), 2) := by decide +kernel
theorem dX5_tryAward_30 : decode cX5_tryAward 30 = .ok (.ireturn, 1) := by decide +kernel
theorem dX5_tryAward_31 : decode cX5_tryAward 31 = .ok (.aload_n 0, 1) := by decide +kernel
theorem dX5_tryAward_32 : decode cX5_tryAward 32 = .ok (.iload_n 1, 1) := by decide +kernel
theorem dX5_tryAward_33 : decode cX5_tryAward 33 = .ok (.invokevirtual 142, 3) := by decide +kernel
theorem dX5_tryAward_36 : decode cX5_tryAward 36 = .ok (.ifCond .ne 6, 3) := by decide +kernel
theorem dX5_tryAward_39 : decode cX5_tryAward 39 = .ok (.bipush (-4), 2) := by decide +kernel
theorem dX5_tryAward_41 : decode cX5_tryAward 41 = .ok (.ireturn, 1) := by decide +kernel
theorem dX5_tryAward_42 : decode cX5_tryAward 42 = .ok (.aload_n 0, 1) := by decide +kernel
theorem dX5_tryAward_43 : decode cX5_tryAward 43 = .ok (.getfield 64, 3) := by decide +kernel
theorem dX5_tryAward_46 : decode cX5_tryAward 46 = .ok (.aload_n 0, 1) := by decide +kernel
theorem dX5_tryAward_47 : decode cX5_tryAward 47 = .ok (.getfield 61, 3) := by decide +kernel
theorem dX5_tryAward_50 : decode cX5_tryAward 50 = .ok (.iload_n 1, 1) := by decide +kernel
theorem dX5_tryAward_51 : decode cX5_tryAward 51 = .ok (.iastore, 1) := by decide +kernel
theorem dX5_tryAward_52 : decode cX5_tryAward 52 = .ok (.aload_n 0, 1) := by decide +kernel
theorem dX5_tryAward_53 : decode cX5_tryAward 53 = .ok (.dup, 1) := by decide +kernel
theorem dX5_tryAward_54 : decode cX5_tryAward 54 = .ok (.getfield 61, 3) := by decide +kernel
theorem dX5_tryAward_57 : decode cX5_tryAward 57 = .ok (.iconst 1, 1) := by decide +kernel
theorem dX5_tryAward_58 : decode cX5_tryAward 58 = .ok (.iadd, 1) := by decide +kernel
theorem dX5_tryAward_59 : decode cX5_tryAward 59 = .ok (.putfield 61, 3) := by decide +kernel
theorem dX5_tryAward_62 : decode cX5_tryAward 62 = .ok (.aload_n 0, 1) := by decide +kernel
theorem dX5_tryAward_63 : decode cX5_tryAward 63 = .ok (.getfield 61, 3) := by decide +kernel
theorem dX5_tryAward_66 : decode cX5_tryAward 66 = .ok (.ireturn, 1) := by decide +kernel
theorem dX5_tryRevocation_0 : decode cX5_tryRevocation 0 = .ok (.aload_n 0, 1) := by decide +kernel
theorem dX5_tryRevocation_1 : decode cX5_tryRevocation 1 = .ok (.iload_n 1, 1) := by decide +kernel
theorem dX5_tryRevocation_2 : decode cX5_tryRevocation 2 = .ok (.invokevirtual 145, 3) := by decide +kernel
theorem dX5_tryRevocation_5 : decode cX5_tryRevocation 5 = .ok (.ifCond .ne 6, 3) := by decide +kernel
theorem dX5_tryRevocation_8 : decode cX5_tryRevocation 8 = .ok (.bipush (-5), 2) := by decide +kernel
theorem dX5_tryRevocation_10 : decode cX5_tryRevocation 10 = .ok (.ireturn, 1) := by decide +kernel
theorem dX5_tryRevocation_11 : decode cX5_tryRevocation 11 = .ok (.aload_n 0, 1) := by decide +kernel
theorem dX5_tryRevocation_12 : decode cX5_tryRevocation 12 = .ok (.getfield 18, 3) := by decide +kernel
theorem dX5_tryRevocation_15 : decode cX5_tryRevocation 15 = .ok (.iload_n 1, 1) := by decide +kernel
theorem dX5_tryRevocation_16 : decode cX5_tryRevocation 16 = .ok (.invokestatic 78, 3) := by decide +kernel
theorem dX5_tryRevocation_19 : decode cX5_tryRevocation 19 = .ok (.ifCond .eq 6, 3) := by decide +kernel
theorem dX5_tryRevocation_22 : decode cX5_tryRevocation 22 = .ok (.bipush (-3), 2) := by decide +kernel
theorem dX5_tryRevocation_24 : decode cX5_tryRevocation 24 = .ok (.ireturn, 1) := by decide +kernel
theorem dX5_tryRevocation_25 : decode cX5_tryRevocation 25 = .ok (.aload_n 0, 1) := by decide +kernel
theorem dX5_tryRevocation_26 : decode cX5_tryRevocation 26 = .ok (.dup, 1) := by decide +kernel
theorem dX5_tryRevocation_27 : decode cX5_tryRevocation 27 = .ok (.getfield 18, 3) := by decide +kernel
theorem dX5_tryRevocation_30 : decode cX5_tryRevocation 30 = .ok (.iconst 1, 1) := by decide +kernel
theorem dX5_tryRevocation_31 : decode cX5_tryRevocation 31 = .ok (.iload_n 1, 1) := by decide +kernel
theorem dX5_tryRevocation_32 : decode cX5_tryRevocation 32 = .ok (.ishl, 1) := by decide +kernel
theorem dX5_tryRevocation_33 : decode cX5_tryRevocation 33 = .ok (.ior, 1) := by decide +kernel
theorem dX5_tryRevocation_34 : decode cX5_tryRevocation 34 = .ok (.putfield 18, 3) := by decide +kernel
theorem dX5_tryRevocation_37 : decode cX5_tryRevocation 37 = .ok (.aload_n 0, 1) := by decide +kernel
theorem dX5_tryRevocation_38 : decode cX5_tryRevocation 38 = .ok (.getfield 64, 3) := by decide +kernel
theorem dX5_tryRevocation_41 : decode cX5_tryRevocation 41 = .ok (.iload_n 1, 1) := by decide +kernel
theorem dX5_tryRevocation_42 : decode cX5_tryRevocation 42 = .ok (.iconst 1, 1) := by decide +kernel
theorem dX5_tryRevocation_43 : decode cX5_tryRevocation 43 = .ok (.isub, 1) := by decide +kernel
theorem dX5_tryRevocation_44 : decode cX5_tryRevocation 44 = .ok (.iaload, 1) := by decide +kernel
theorem dX5_tryRevocation_45 : decode cX5_tryRevocation 45 = .ok (.ireturn, 1) := by decide +kernel
theorem dX6_init_0 : decode cX6_init 0 = .ok (.aload_n 0, 1) := by decide +kernel
theorem dX6_init_1 : decode cX6_init 1 = .ok (.invokespecial 1, 3) := by decide +kernel
theorem dX6_init_4 : decode cX6_init 4 = .ok (.aload_n 0, 1) := by decide +kernel
theorem dX6_init_5 : decode cX6_init 5 = .ok (.new 7, 3) := by decide +kernel
theorem dX6_init_8 : decode cX6_init 8 = .ok (.dup, 1) := by decide +kernel
theorem dX6_init_9 : decode cX6_init 9 = .ok (.invokespecial 9, 3) := by decide +kernel
theorem dX6_init_12 : decode cX6_init 12 = .ok (.putfield 10, 3) := by decide +kernel
theorem dX6_init_15 : decode cX6_init 15 = .ok (.aload_n 0, 1) := by decide +kernel
theorem dX6_init_16 : decode cX6_init 16 = .ok (.new 7, 3) := by decide +kernel
theorem dX6_init_19 : decode cX6_init 19 = .ok (.dup, 1) := by decide +kernel
theorem dX6_init_20 : decode cX6_init 20 = .ok (.invokespecial 9, 3) := by decide +kernel
theorem dX6_init_23 : decode cX6_init 23 = .ok (.putfield 16, 3) := by decide +kernel
theorem dX6_init_26 : decode cX6_init 26 = .ok (.aload_n 0, 1) := by decide +kernel
theorem dX6_init_27 : decode cX6_init 27 = .ok (.iconst 0, 1) := by decide +kernel
theorem dX6_init_28 : decode cX6_init 28 = .ok (.putfield 19, 3) := by decide +kernel
theorem dX6_init_31 : decode cX6_init 31 = .ok (.aload_n 0, 1) := by decide +kernel
theorem dX6_init_32 : decode cX6_init 32 = .ok (.new 23, 3) := by decide +kernel
theorem dX6_init_35 : decode cX6_init 35 = .ok (.dup, 1) := by decide +kernel
theorem dX6_init_36 : decode cX6_init 36 = .ok (.invokespecial 25, 3) := by decide +kernel
theorem dX6_init_39 : decode cX6_init 39 = .ok (.putfield 26, 3) := by decide +kernel
theorem dX6_init_42 : decode cX6_init 42 = .ok (.aload_n 0, 1) := by decide +kernel
theorem dX6_init_43 : decode cX6_init 43 = .ok (.new 30, 3) := by decide +kernel
theorem dX6_init_46 : decode cX6_init 46 = .ok (.dup, 1) := by decide +kernel
theorem dX6_init_47 : decode cX6_init 47 = .ok (.invokespecial 32, 3) := by decide +kernel
theorem dX6_init_50 : decode cX6_init 50 = .ok (.putfield 33, 3) := by decide +kernel
theorem dX6_init_53 : decode cX6_init 53 = .ok (.aload_n 0, 1) := by decide +kernel
theorem dX6_init_54 : decode cX6_init 54 = .ok (.new 37, 3) := by decide +kernel
theorem dX6_init_57 : decode cX6_init 57 = .ok (.dup, 1) := by decide +kernel
theorem dX6_init_58 : decode cX6_init 58 = .ok (.invokespecial 39, 3) := by decide +kernel
theorem dX6_init_61 : decode cX6_init 61 = .ok (.putfield 40, 3) := by decide +kernel
theorem dX6_init_64 : decode cX6_init 64 = .ok (.aload_n 0, 1) := by decide +kernel
theorem dX6_init_65 : decode cX6_init 65 = .ok (.new 44, 3) := by decide +kernel
theorem dX6_init_68 : decode cX6_init 68 = .ok (.dup, 1) := by decide +kernel
theorem dX6_init_69 : decode cX6_init 69 = .ok (.invokespecial 46, 3) := by decide +kernel
theorem dX6_init_72 : decode cX6_init 72 = .ok (.putfield 47, 3) := by decide +kernel
theorem dX6_init_75 : decode cX6_init 75 = .ok (.aload_n 0, 1) := by decide +kernel
theorem dX6_init_76 : decode cX6_init 76 = .ok (.new 51, 3) := by decide +kernel
theorem dX6_init_79 : decode cX6_init 79 = .ok (.dup, 1) := by decide +kernel
theorem dX6_init_80 : decode cX6_init 80 = .ok (.invokespecial 53, 3) := by decide +kernel
theorem dX6_init_83 : decode cX6_init 83 = .ok (.putfield 54, 3) := by decide +kernel
theorem dX6_init_86 : decode cX6_init 86 = .ok (.aload_n 0, 1) := by decide +kernel
theorem dX6_init_87 : decode cX6_init 87 = .ok (.iconst (-1), 1) := by decide +kernel
theorem dX6_init_88 : decode cX6_init 88 = .ok (.putfield 58, 3) := by decide +kernel
theorem dX6_init_91 : decode cX6_init 91 = .ok (.aload_n 0, 1) := by decide +kernel
theorem dX6_init_92 : decode cX6_init 92 = .ok (.iconst (-1), 1) := by decide +kernel
theorem dX6_init_93 : decode cX6_init 93 = .ok (.putfield 62, 3) := by decide +kernel
theorem dX6_init_96 : decode cX6_init 96 = .ok (.return_, 1) := by decide +kernel
theorem dX6_addDoor_0 : decode cX6_addDoor 0 = .ok (.aload_n 0, 1) := by decide +kernel
theorem dX6_addDoor_1 : decode cX6_addDoor 1 = .ok (.getfield 26, 3) := by decide +kernel
theorem dX6_addDoor_4 : decode cX6_addDoor 4 = .ok (.aload_n 0, 1) := by decide +kernel
theorem dX6_addDoor_5 : decode cX6_addDoor 5 = .ok (.getfield 10, 3) := by decide +kernel
theorem dX6_addDoor_8 : decode cX6_addDoor 8 = .ok (.invokevirtual 65, 3) := by decide +kernel
theorem dX6_addDoor_11 : decode cX6_addDoor 11 = .ok (.aload_n 0, 1) := by decide +kernel
theorem dX6_addDoor_12 : decode cX6_addDoor 12 = .ok (.aload_n 0, 1) := by decide +kernel
theorem dX6_addDoor_13 : decode cX6_addDoor 13 = .ok (.getfield 10, 3) := by decide +kernel
theorem dX6_addDoor_16 : decode cX6_addDoor 16 = .ok (.iload_n 1, 1) := by decide +kernel
theorem dX6_addDoor_17 : decode cX6_addDoor 17 = .ok (.iload_n 2, 1) := by decide +kernel
theorem dX6_addDoor_18 : decode cX6_addDoor 18 = .ok (.invokevirtual 69, 3) := by decide +kernel
theorem dX6_addDoor_21 : decode cX6_addDoor 21 = .ok (.invokevirtual 73, 3) := by decide +kernel
theorem dX6_addDoor_24 : decode cX6_addDoor 24 = .ok (.ireturn, 1) := by decide +kernel
theorem dX6_addExaminer_0 : decode cX6_addExaminer 0 = .ok (.aload_n 0, 1) := by decide +kernel
theorem dX6_addExaminer_1 : decode cX6_addExaminer 1 = .ok (.getfield 26, 3) := by decide +kernel
theorem dX6_addExaminer_4 : decode cX6_addExaminer 4 = .ok (.aload_n 0, 1) := by decide +kernel
theorem dX6_addExaminer_5 : decode cX6_addExaminer 5 = .ok (.getfield 10, 3) := by decide +kernel
theorem dX6_addExaminer_8 : decode cX6_addExaminer 8 = .ok (.invokevirtual 65, 3) := by decide +kernel
theorem dX6_addExaminer_11 : decode cX6_addExaminer 11 = .ok (.aload_n 0, 1) := by decide +kernel
theorem dX6_addExaminer_12 : decode cX6_addExaminer 12 = .ok (.aload_n 0, 1) := by decide +kernel
theorem dX6_addExaminer_13 : decode cX6_addExaminer 13 = .ok (.getfield 10, 3) := by decide +kernel
theorem dX6_addExaminer_16 : decode cX6_addExaminer 16 = .ok (.iload_n 1, 1) := by decide +kernel
theorem dX6_addExaminer_17 : decode cX6_addExaminer 17 = .ok (.iload_n 2, 1) := by decide +kernel
theorem dX6_addExaminer_18 : decode cX6_addExaminer 18 = .ok (.iload_n 3, 1) := by decide +kernel
theorem dX6_addExaminer_19 : decode cX6_addExaminer 19 = .ok (.iload 4, 2) := by decide +kernel
theorem dX6_addExaminer_21 : decode cX6_addExaminer 21 = .ok (.invokevirtual 77, 3) := by decide +kernel
theorem dX6_addExaminer_24 : decode cX6_addExaminer 24 = .ok (.invokevirtual 73, 3) := by decide +kernel
theorem dX6_addExaminer_27 : decode cX6_addExaminer 27 = .ok (.ireturn, 1) := by decide +kernel
theorem dX6_declareConflict_0 : decode cX6_declareConflict 0 = .ok (.aload_n 0, 1) := by decide +kernel
theorem dX6_declareConflict_1 : decode cX6_declareConflict 1 = .ok (.getfield 26, 3) := by decide +kernel
theorem dX6_declareConflict_4 : decode cX6_declareConflict 4 = .ok (.aload_n 0, 1) := by decide +kernel
theorem dX6_declareConflict_5 : decode cX6_declareConflict 5 = .ok (.getfield 10, 3) := by decide +kernel
theorem dX6_declareConflict_8 : decode cX6_declareConflict 8 = .ok (.invokevirtual 65, 3) := by decide +kernel
theorem dX6_declareConflict_11 : decode cX6_declareConflict 11 = .ok (.aload_n 0, 1) := by decide +kernel
theorem dX6_declareConflict_12 : decode cX6_declareConflict 12 = .ok (.aload_n 0, 1) := by decide +kernel
theorem dX6_declareConflict_13 : decode cX6_declareConflict 13 = .ok (.getfield 10, 3) := by decide +kernel
theorem dX6_declareConflict_16 : decode cX6_declareConflict 16 = .ok (.iload_n 1, 1) := by decide +kernel
theorem dX6_declareConflict_17 : decode cX6_declareConflict 17 = .ok (.iload_n 2, 1) := by decide +kernel
theorem dX6_declareConflict_18 : decode cX6_declareConflict 18 = .ok (.invokevirtual 81, 3) := by decide +kernel
theorem dX6_declareConflict_21 : decode cX6_declareConflict 21 = .ok (.invokevirtual 73, 3) := by decide +kernel
theorem dX6_declareConflict_24 : decode cX6_declareConflict 24 = .ok (.ireturn, 1) := by decide +kernel
theorem dX6_assign_0 : decode cX6_assign 0 = .ok (.aload_n 0, 1) := by decide +kernel
theorem dX6_assign_1 : decode cX6_assign 1 = .ok (.getfield 26, 3) := by decide +kernel
theorem dX6_assign_4 : decode cX6_assign 4 = .ok (.aload_n 0, 1) := by decide +kernel
theorem dX6_assign_5 : decode cX6_assign 5 = .ok (.getfield 10, 3) := by decide +kernel
theorem dX6_assign_8 : decode cX6_assign 8 = .ok (.invokevirtual 65, 3) := by decide +kernel
theorem dX6_assign_11 : decode cX6_assign 11 = .ok (.aload_n 0, 1) := by decide +kernel
theorem dX6_assign_12 : decode cX6_assign 12 = .ok (.aload_n 0, 1) := by decide +kernel
theorem dX6_assign_13 : decode cX6_assign 13 = .ok (.getfield 10, 3) := by decide +kernel
theorem dX6_assign_16 : decode cX6_assign 16 = .ok (.iload_n 1, 1) := by decide +kernel
theorem dX6_assign_17 : decode cX6_assign 17 = .ok (.iload_n 2, 1) := by decide +kernel
theorem dX6_assign_18 : decode cX6_assign 18 = .ok (.invokevirtual 85, 3) := by decide +kernel
theorem dX6_assign_21 : decode cX6_assign 21 = .ok (.invokevirtual 73, 3) := by decide +kernel
theorem dX6_assign_24 : decode cX6_assign 24 = .ok (.ireturn, 1) := by decide +kernel
theorem dX6_carryOutPlan_0 : decode cX6_carryOutPlan 0 = .ok (.aload_n 0, 1) := by decide +kernel
theorem dX6_carryOutPlan_1 : decode cX6_carryOutPlan 1 = .ok (.getfield 26, 3) := by decide +kernel
theorem dX6_carryOutPlan_4 : decode cX6_carryOutPlan 4 = .ok (.aload_n 0, 1) := by decide +kernel
theorem dX6_carryOutPlan_5 : decode cX6_carryOutPlan 5 = .ok (.getfield 10, 3) := by decide +kernel
theorem dX6_carryOutPlan_8 : decode cX6_carryOutPlan 8 = .ok (.invokevirtual 65, 3) := by decide +kernel
theorem dX6_carryOutPlan_11 : decode cX6_carryOutPlan 11 = .ok (.aload_n 0, 1) := by decide +kernel
theorem dX6_carryOutPlan_12 : decode cX6_carryOutPlan 12 = .ok (.getfield 33, 3) := by decide +kernel
theorem dX6_carryOutPlan_15 : decode cX6_carryOutPlan 15 = .ok (.aload_n 0, 1) := by decide +kernel
theorem dX6_carryOutPlan_16 : decode cX6_carryOutPlan 16 = .ok (.getfield 10, 3) := by decide +kernel
theorem dX6_carryOutPlan_19 : decode cX6_carryOutPlan 19 = .ok (.invokevirtual 88, 3) := by decide +kernel
theorem dX6_carryOutPlan_22 : decode cX6_carryOutPlan 22 = .ok (.aload_n 0, 1) := by decide +kernel
theorem dX6_carryOutPlan_23 : decode cX6_carryOutPlan 23 = .ok (.aload_n 0, 1) := by decide +kernel
theorem dX6_carryOutPlan_24 : decode cX6_carryOutPlan 24 = .ok (.getfield 10, 3) := by decide +kernel
theorem dX6_carryOutPlan_27 : decode cX6_carryOutPlan 27 = .ok (.aload_n 0, 1) := by decide +kernel
theorem dX6_carryOutPlan_28 : decode cX6_carryOutPlan 28 = .ok (.getfield 33, 3) := by decide +kernel
theorem dX6_carryOutPlan_31 : decode cX6_carryOutPlan 31 = .ok (.getfield 91, 3) := by decide +kernel
theorem dX6_carryOutPlan_34 : decode cX6_carryOutPlan 34 = .ok (.invokevirtual 95, 3) := by decide +kernel
theorem dX6_carryOutPlan_37 : decode cX6_carryOutPlan 37 = .ok (.invokevirtual 73, 3) := by decide +kernel
theorem dX6_carryOutPlan_40 : decode cX6_carryOutPlan 40 = .ok (.ireturn, 1) := by decide +kernel
theorem dX6_grade_0 : decode cX6_grade 0 = .ok (.aload_n 0, 1) := by decide +kernel
theorem dX6_grade_1 : decode cX6_grade 1 = .ok (.getfield 26, 3) := by decide +kernel
theorem dX6_grade_4 : decode cX6_grade 4 = .ok (.aload_n 0, 1) := by decide +kernel
theorem dX6_grade_5 : decode cX6_grade 5 = .ok (.getfield 10, 3) := by decide +kernel
theorem dX6_grade_8 : decode cX6_grade 8 = .ok (.invokevirtual 65, 3) := by decide +kernel
theorem dX6_grade_11 : decode cX6_grade 11 = .ok (.aload_n 0, 1) := by decide +kernel
theorem dX6_grade_12 : decode cX6_grade 12 = .ok (.aload_n 0, 1) := by decide +kernel
theorem dX6_grade_13 : decode cX6_grade 13 = .ok (.getfield 10, 3) := by decide +kernel
theorem dX6_grade_16 : decode cX6_grade 16 = .ok (.iload_n 1, 1) := by decide +kernel
theorem dX6_grade_17 : decode cX6_grade 17 = .ok (.iload_n 2, 1) := by decide +kernel
theorem dX6_grade_18 : decode cX6_grade 18 = .ok (.iload_n 3, 1) := by decide +kernel
theorem dX6_grade_19 : decode cX6_grade 19 = .ok (.invokevirtual 99, 3) := by decide +kernel
theorem dX6_grade_22 : decode cX6_grade 22 = .ok (.invokevirtual 73, 3) := by decide +kernel
theorem dX6_grade_25 : decode cX6_grade 25 = .ok (.ireturn, 1) := by decide +kernel
theorem dX6_setThreshold_0 : decode cX6_setThreshold 0 = .ok (.aload_n 0, 1) := by decide +kernel
theorem dX6_setThreshold_1 : decode cX6_setThreshold 1 = .ok (.getfield 26, 3) := by decide +kernel
theorem dX6_setThreshold_4 : decode cX6_setThreshold 4 = .ok (.aload_n 0, 1) := by decide +kernel
theorem dX6_setThreshold_5 : decode cX6_setThreshold 5 = .ok (.getfield 10, 3) := by decide +kernel
theorem dX6_setThreshold_8 : decode cX6_setThreshold 8 = .ok (.invokevirtual 65, 3) := by decide +kernel
theorem dX6_setThreshold_11 : decode cX6_setThreshold 11 = .ok (.aload_n 0, 1) := by decide +kernel
theorem dX6_setThreshold_12 : decode cX6_setThreshold 12 = .ok (.aload_n 0, 1) := by decide +kernel
theorem dX6_setThreshold_13 : decode cX6_setThreshold 13 = .ok (.getfield 10, 3) := by decide +kernel
theorem dX6_setThreshold_16 : decode cX6_setThreshold 16 = .ok (.iload_n 1, 1) := by decide +kernel
theorem dX6_setThreshold_17 : decode cX6_setThreshold 17 = .ok (.invokevirtual 103, 3) := by decide +kernel
theorem dX6_setThreshold_20 : decode cX6_setThreshold 20 = .ok (.invokevirtual 73, 3) := by decide +kernel
theorem dX6_setThreshold_23 : decode cX6_setThreshold 23 = .ok (.ireturn, 1) := by decide +kernel
theorem dX6_appeal_0 : decode cX6_appeal 0 = .ok (.aload_n 0, 1) := by decide +kernel
theorem dX6_appeal_1 : decode cX6_appeal 1 = .ok (.getfield 26, 3) := by decide +kernel
theorem dX6_appeal_4 : decode cX6_appeal 4 = .ok (.aload_n 0, 1) := by decide +kernel
theorem dX6_appeal_5 : decode cX6_appeal 5 = .ok (.getfield 10, 3) := by decide +kernel
theorem dX6_appeal_8 : decode cX6_appeal 8 = .ok (.invokevirtual 65, 3) := by decide +kernel
theorem dX6_appeal_11 : decode cX6_appeal 11 = .ok (.aload_n 0, 1) := by decide +kernel
theorem dX6_appeal_12 : decode cX6_appeal 12 = .ok (.aload_n 0, 1) := by decide +kernel
theorem dX6_appeal_13 : decode cX6_appeal 13 = .ok (.getfield 40, 3) := by decide +kernel
theorem dX6_appeal_16 : decode cX6_appeal 16 = .ok (.aload_n 0, 1) := by decide +kernel
theorem dX6_appeal_17 : decode cX6_appeal 17 = .ok (.getfield 10, 3) := by decide +kernel
theorem dX6_appeal_20 : decode cX6_appeal 20 = .ok (.iload_n 1, 1) := by decide +kernel
theorem dX6_appeal_21 : decode cX6_appeal 21 = .ok (.invokevirtual 106, 3) := by decide +kernel
theorem dX6_appeal_24 : decode cX6_appeal 24 = .ok (.invokevirtual 73, 3) := by decide +kernel
theorem dX6_appeal_27 : decode cX6_appeal 27 = .ok (.ireturn, 1) := by decide +kernel
theorem dX6_award_0 : decode cX6_award 0 = .ok (.aload_n 0, 1) := by decide +kernel
theorem dX6_award_1 : decode cX6_award 1 = .ok (.getfield 26, 3) := by decide +kernel
theorem dX6_award_4 : decode cX6_award 4 = .ok (.aload_n 0, 1) := by decide +kernel
theorem dX6_award_5 : decode cX6_award 5 = .ok (.getfield 10, 3) := by decide +kernel
theorem dX6_award_8 : decode cX6_award 8 = .ok (.invokevirtual 65, 3) := by decide +kernel
theorem dX6_award_11 : decode cX6_award 11 = .ok (.aload_n 0, 1) := by decide +kernel
theorem dX6_award_12 : decode cX6_award 12 = .ok (.aload_n 0, 1) := by decide +kernel
theorem dX6_award_13 : decode cX6_award 13 = .ok (.getfield 10, 3) := by decide +kernel
theorem dX6_award_16 : decode cX6_award 16 = .ok (.iload_n 1, 1) := by decide +kernel
theorem dX6_award_17 : decode cX6_award 17 = .ok (.invokevirtual 110, 3) := by decide +kernel
theorem dX6_award_20 : decode cX6_award 20 = .ok (.invokevirtual 73, 3) := by decide +kernel
theorem dX6_award_23 : decode cX6_award 23 = .ok (.ireturn, 1) := by decide +kernel
theorem dX6_revoke_0 : decode cX6_revoke 0 = .ok (.aload_n 0, 1) := by decide +kernel
theorem dX6_revoke_1 : decode cX6_revoke 1 = .ok (.getfield 26, 3) := by decide +kernel
theorem dX6_revoke_4 : decode cX6_revoke 4 = .ok (.aload_n 0, 1) := by decide +kernel
theorem dX6_revoke_5 : decode cX6_revoke 5 = .ok (.getfield 10, 3) := by decide +kernel
theorem dX6_revoke_8 : decode cX6_revoke 8 = .ok (.invokevirtual 65, 3) := by decide +kernel
theorem dX6_revoke_11 : decode cX6_revoke 11 = .ok (.aload_n 0, 1) := by decide +kernel
theorem dX6_revoke_12 : decode cX6_revoke 12 = .ok (.aload_n 0, 1) := by decide +kernel
theorem dX6_revoke_13 : decode cX6_revoke 13 = .ok (.getfield 10, 3) := by decide +kernel
theorem dX6_revoke_16 : decode cX6_revoke 16 = .ok (.iload_n 1, 1) := by decide +kernel
theorem dX6_revoke_17 : decode cX6_revoke 17 = .ok (.invokevirtual 113, 3) := by decide +kernel
theorem dX6_revoke_20 : decode cX6_revoke 20 = .ok (.invokevirtual 73, 3) := by decide +kernel
theorem dX6_revoke_23 : decode cX6_revoke 23 = .ok (.ireturn, 1) := by decide +kernel
theorem dX6_doorCount_0 : decode cX6_doorCount 0 = .ok (.aload_n 0, 1) := by decide +kernel
theorem dX6_doorCount_1 : decode cX6_doorCount 1 = .ok (.getfield 10, 3) := by decide +kernel
theorem dX6_doorCount_4 : decode cX6_doorCount 4 = .ok (.getfield 116, 3) := by decide +kernel
theorem dX6_doorCount_7 : decode cX6_doorCount 7 = .ok (.ireturn, 1) := by decide +kernel
theorem dX6_frameOfDoor_0 : decode cX6_frameOfDoor 0 = .ok (.aload_n 0, 1) := by decide +kernel
theorem dX6_frameOfDoor_1 : decode cX6_frameOfDoor 1 = .ok (.iload_n 1, 1) := by decide +kernel
theorem dX6_frameOfDoor_2 : decode cX6_frameOfDoor 2 = .ok (.invokevirtual 119, 3) := by decide +kernel
theorem dX6_frameOfDoor_5 : decode cX6_frameOfDoor 5 = .ok (.aload_n 0, 1) := by decide +kernel
theorem dX6_frameOfDoor_6 : decode cX6_frameOfDoor 6 = .ok (.getfield 10, 3) := by decide +kernel
theorem dX6_frameOfDoor_9 : decode cX6_frameOfDoor 9 = .ok (.getfield 123, 3) := by decide +kernel
theorem dX6_frameOfDoor_12 : decode cX6_frameOfDoor 12 = .ok (.iload_n 1, 1) := by decide +kernel
theorem dX6_frameOfDoor_13 : decode cX6_frameOfDoor 13 = .ok (.caload, 1) := by decide +kernel
theorem dX6_frameOfDoor_14 : decode cX6_frameOfDoor 14 = .ok (.ireturn, 1) := by decide +kernel
theorem dX6_topic_0 : decode cX6_topic 0 = .ok (.aload_n 0, 1) := by decide +kernel
theorem dX6_topic_1 : decode cX6_topic 1 = .ok (.iload_n 1, 1) := by decide +kernel
theorem dX6_topic_2 : decode cX6_topic 2 = .ok (.invokevirtual 119, 3) := by decide +kernel
theorem dX6_topic_5 : decode cX6_topic 5 = .ok (.aload_n 0, 1) := by decide +kernel
theorem dX6_topic_6 : decode cX6_topic 6 = .ok (.getfield 10, 3) := by decide +kernel
theorem dX6_topic_9 : decode cX6_topic 9 = .ok (.getfield 127, 3) := by decide +kernel
theorem dX6_topic_12 : decode cX6_topic 12 = .ok (.iload_n 1, 1) := by decide +kernel
theorem dX6_topic_13 : decode cX6_topic 13 = .ok (.iaload, 1) := by decide +kernel
theorem dX6_topic_14 : decode cX6_topic 14 = .ok (.ireturn, 1) := by decide +kernel
theorem dX6_examinersOf_0 : decode cX6_examinersOf 0 = .ok (.aload_n 0, 1) := by decide +kernel
theorem dX6_examinersOf_1 : decode cX6_examinersOf 1 = .ok (.iload_n 1, 1) := by decide +kernel
theorem dX6_examinersOf_2 : decode cX6_examinersOf 2 = .ok (.invokevirtual 119, 3) := by decide +kernel
theorem dX6_examinersOf_5 : decode cX6_examinersOf 5 = .ok (.aload_n 0, 1) := by decide +kernel
theorem dX6_examinersOf_6 : decode cX6_examinersOf 6 = .ok (.getfield 10, 3) := by decide +kernel
theorem dX6_examinersOf_9 : decode cX6_examinersOf 9 = .ok (.iload_n 1, 1) := by decide +kernel
theorem dX6_examinersOf_10 : decode cX6_examinersOf 10 = .ok (.invokevirtual 130, 3) := by decide +kernel
theorem dX6_examinersOf_13 : decode cX6_examinersOf 13 = .ok (.ireturn, 1) := by decide +kernel
theorem dX6_gradesOf_0 : decode cX6_gradesOf 0 = .ok (.aload_n 0, 1) := by decide +kernel
theorem dX6_gradesOf_1 : decode cX6_gradesOf 1 = .ok (.iload_n 1, 1) := by decide +kernel
theorem dX6_gradesOf_2 : decode cX6_gradesOf 2 = .ok (.invokevirtual 119, 3) := by decide +kernel
theorem dX6_gradesOf_5 : decode cX6_gradesOf 5 = .ok (.aload_n 0, 1) := by decide +kernel
theorem dX6_gradesOf_6 : decode cX6_gradesOf 6 = .ok (.getfield 10, 3) := by decide +kernel
theorem dX6_gradesOf_9 : decode cX6_gradesOf 9 = .ok (.iload_n 1, 1) := by decide +kernel
theorem dX6_gradesOf_10 : decode cX6_gradesOf 10 = .ok (.invokevirtual 133, 3) := by decide +kernel
theorem dX6_gradesOf_13 : decode cX6_gradesOf 13 = .ok (.ireturn, 1) := by decide +kernel
theorem dX6_result_0 : decode cX6_result 0 = .ok (.aload_n 0, 1) := by decide +kernel
theorem dX6_result_1 : decode cX6_result 1 = .ok (.iload_n 1, 1) := by decide +kernel
theorem dX6_result_2 : decode cX6_result 2 = .ok (.invokevirtual 119, 3) := by decide +kernel
theorem dX6_result_5 : decode cX6_result 5 = .ok (.aload_n 0, 1) := by decide +kernel
theorem dX6_result_6 : decode cX6_result 6 = .ok (.getfield 10, 3) := by decide +kernel
theorem dX6_result_9 : decode cX6_result 9 = .ok (.iload_n 1, 1) := by decide +kernel
theorem dX6_result_10 : decode cX6_result 10 = .ok (.invokevirtual 136, 3) := by decide +kernel
theorem dX6_result_13 : decode cX6_result 13 = .ok (.invokestatic 139, 3) := by decide +kernel
theorem dX6_result_16 : decode cX6_result 16 = .ok (.ireturn, 1) := by decide +kernel
theorem dX6_passes_0 : decode cX6_passes 0 = .ok (.aload_n 0, 1) := by decide +kernel
theorem dX6_passes_1 : decode cX6_passes 1 = .ok (.iload_n 1, 1) := by decide +kernel
theorem dX6_passes_2 : decode cX6_passes 2 = .ok (.invokevirtual 119, 3) := by decide +kernel
theorem dX6_passes_5 : decode cX6_passes 5 = .ok (.aload_n 0, 1) := by decide +kernel
theorem dX6_passes_6 : decode cX6_passes 6 = .ok (.getfield 10, 3) := by decide +kernel
theorem dX6_passes_9 : decode cX6_passes 9 = .ok (.iload_n 1, 1) := by decide +kernel
theorem dX6_passes_10 : decode cX6_passes 10 = .ok (.invokevirtual 142, 3) := by decide +kernel
theorem dX6_passes_13 : decode cX6_passes 13 = .ok (.ireturn, 1) := by decide +kernel
theorem dX6_wasGranted_0 : decode cX6_wasGranted 0 = .ok (.aload_n 0, 1) := by decide +kernel
theorem dX6_wasGranted_1 : decode cX6_wasGranted 1 = .ok (.iload_n 1, 1) := by decide +kernel
theorem dX6_wasGranted_2 : decode cX6_wasGranted 2 = .ok (.invokevirtual 119, 3) := by decide +kernel
theorem dX6_wasGranted_5 : decode cX6_wasGranted 5 = .ok (.aload_n 0, 1) := by decide +kernel
theorem dX6_wasGranted_6 : decode cX6_wasGranted 6 = .ok (.getfield 10, 3) := by decide +kernel
theorem dX6_wasGranted_9 : decode cX6_wasGranted 9 = .ok (.getfield 146, 3) := by decide +kernel
theorem dX6_wasGranted_12 : decode cX6_wasGranted 12 = .ok (.iload_n 1, 1) := by decide +kernel
theorem dX6_wasGranted_13 : decode cX6_wasGranted 13 = .ok (.invokestatic 149, 3) := by decide +kernel
theorem dX6_wasGranted_16 : decode cX6_wasGranted 16 = .ok (.ireturn, 1) := by decide +kernel
theorem dX6_isEntitled_0 : decode cX6_isEntitled 0 = .ok (.aload_n 0, 1) := by decide +kernel
theorem dX6_isEntitled_1 : decode cX6_isEntitled 1 = .ok (.iload_n 1, 1) := by decide +kernel
theorem dX6_isEntitled_2 : decode cX6_isEntitled 2 = .ok (.invokevirtual 119, 3) := by decide +kernel
theorem dX6_isEntitled_5 : decode cX6_isEntitled 5 = .ok (.aload_n 0, 1) := by decide +kernel
theorem dX6_isEntitled_6 : decode cX6_isEntitled 6 = .ok (.getfield 10, 3) := by decide +kernel
theorem dX6_isEntitled_9 : decode cX6_isEntitled 9 = .ok (.iload_n 1, 1) := by decide +kernel
theorem dX6_isEntitled_10 : decode cX6_isEntitled 10 = .ok (.invokevirtual 153, 3) := by decide +kernel
theorem dX6_isEntitled_13 : decode cX6_isEntitled 13 = .ok (.ireturn, 1) := by decide +kernel
theorem dX6_doorAtRank_0 : decode cX6_doorAtRank 0 = .ok (.aload_n 0, 1) := by decide +kernel
theorem dX6_doorAtRank_1 : decode cX6_doorAtRank 1 = .ok (.getfield 10, 3) := by decide +kernel
theorem dX6_doorAtRank_4 : decode cX6_doorAtRank 4 = .ok (.iload_n 1, 1) := by decide +kernel
theorem dX6_doorAtRank_5 : decode cX6_doorAtRank 5 = .ok (.invokevirtual 156, 3) := by decide +kernel
theorem dX6_doorAtRank_8 : decode cX6_doorAtRank 8 = .ok (.invokestatic 139, 3) := by decide +kernel
theorem dX6_doorAtRank_11 : decode cX6_doorAtRank 11 = .ok (.ireturn, 1) := by decide +kernel
theorem dX6_examinerCount_0 : decode cX6_examinerCount 0 = .ok (.aload_n 0, 1) := by decide +kernel
theorem dX6_examinerCount_1 : decode cX6_examinerCount 1 = .ok (.getfield 10, 3) := by decide +kernel
theorem dX6_examinerCount_4 : decode cX6_examinerCount 4 = .ok (.getfield 159, 3) := by decide +kernel
theorem dX6_examinerCount_7 : decode cX6_examinerCount 7 = .ok (.ireturn, 1) := by decide +kernel
theorem dX6_frameOfExaminer_0 : decode cX6_frameOfExaminer 0 = .ok (.aload_n 0, 1) := by decide +kernel
theorem dX6_frameOfExaminer_1 : decode cX6_frameOfExaminer 1 = .ok (.iload_n 1, 1) := by decide +kernel
theorem dX6_frameOfExaminer_2 : decode cX6_frameOfExaminer 2 = .ok (.invokevirtual 162, 3) := by decide +kernel
theorem dX6_frameOfExaminer_5 : decode cX6_frameOfExaminer 5 = .ok (.aload_n 0, 1) := by decide +kernel
theorem dX6_frameOfExaminer_6 : decode cX6_frameOfExaminer 6 = .ok (.getfield 10, 3) := by decide +kernel
theorem dX6_frameOfExaminer_9 : decode cX6_frameOfExaminer 9 = .ok (.getfield 165, 3) := by decide +kernel
theorem dX6_frameOfExaminer_12 : decode cX6_frameOfExaminer 12 = .ok (.iload_n 1, 1) := by decide +kernel
theorem dX6_frameOfExaminer_13 : decode cX6_frameOfExaminer 13 = .ok (.caload, 1) := by decide +kernel
theorem dX6_frameOfExaminer_14 : decode cX6_frameOfExaminer 14 = .ok (.ireturn, 1) := by decide +kernel
theorem dX6_load_0 : decode cX6_load 0 = .ok (.aload_n 0, 1) := by decide +kernel
theorem dX6_load_1 : decode cX6_load 1 = .ok (.iload_n 1, 1) := by decide +kernel
theorem dX6_load_2 : decode cX6_load 2 = .ok (.invokevirtual 162, 3) := by decide +kernel
theorem dX6_load_5 : decode cX6_load 5 = .ok (.aload_n 0, 1) := by decide +kernel
theorem dX6_load_6 : decode cX6_load 6 = .ok (.getfield 10, 3) := by decide +kernel
theorem dX6_load_9 : decode cX6_load 9 = .ok (.iload_n 1, 1) := by decide +kernel
theorem dX6_load_10 : decode cX6_load 10 = .ok (.invokevirtual 168, 3) := by decide +kernel
theorem dX6_load_13 : decode cX6_load 13 = .ok (.ireturn, 1) := by decide +kernel
theorem dX6_isNeutral_0 : decode cX6_isNeutral 0 = .ok (.aload_n 0, 1) := by decide +kernel
theorem dX6_isNeutral_1 : decode cX6_isNeutral 1 = .ok (.iload_n 1, 1) := by decide +kernel
theorem dX6_isNeutral_2 : decode cX6_isNeutral 2 = .ok (.iload_n 2, 1) := by decide +kernel
theorem dX6_isNeutral_3 : decode cX6_isNeutral 3 = .ok (.invokevirtual 171, 3) := by decide +kernel
theorem dX6_isNeutral_6 : decode cX6_isNeutral 6 = .ok (.aload_n 0, 1) := by decide +kernel
theorem dX6_isNeutral_7 : decode cX6_isNeutral 7 = .ok (.getfield 10, 3) := by decide +kernel
theorem dX6_isNeutral_10 : decode cX6_isNeutral 10 = .ok (.iload_n 1, 1) := by decide +kernel
theorem dX6_isNeutral_11 : decode cX6_isNeutral 11 = .ok (.iload_n 2, 1) := by decide +kernel
theorem dX6_isNeutral_12 : decode cX6_isNeutral 12 = .ok (.invokevirtual 175, 3) := by decide +kernel
theorem dX6_isNeutral_15 : decode cX6_isNeutral 15 = .ok (.ireturn, 1) := by decide +kernel
theorem dX6_mayJudge_0 : decode cX6_mayJudge 0 = .ok (.aload_n 0, 1) := by decide +kernel
theorem dX6_mayJudge_1 : decode cX6_mayJudge 1 = .ok (.iload_n 1, 1) := by decide +kernel
theorem dX6_mayJudge_2 : decode cX6_mayJudge 2 = .ok (.iload_n 2, 1) := by decide +kernel
theorem dX6_mayJudge_3 : decode cX6_mayJudge 3 = .ok (.invokevirtual 171, 3) := by decide +kernel
theorem dX6_mayJudge_6 : decode cX6_mayJudge 6 = .ok (.aload_n 0, 1) := by decide +kernel
theorem dX6_mayJudge_7 : decode cX6_mayJudge 7 = .ok (.getfield 10, 3) := by decide +kernel
theorem dX6_mayJudge_10 : decode cX6_mayJudge 10 = .ok (.iload_n 1, 1) := by decide +kernel
theorem dX6_mayJudge_11 : decode cX6_mayJudge 11 = .ok (.iload_n 2, 1) := by decide +kernel
theorem dX6_mayJudge_12 : decode cX6_mayJudge 12 = .ok (.invokevirtual 178, 3) := by decide +kernel
theorem dX6_mayJudge_15 : decode cX6_mayJudge 15 = .ok (.ireturn, 1) := by decide +kernel
theorem dX6_isAssigned_0 : decode cX6_isAssigned 0 = .ok (.aload_n 0, 1) := by decide +kernel
theorem dX6_isAssigned_1 : decode cX6_isAssigned 1 = .ok (.iload_n 1, 1) := by decide +kernel
theorem dX6_isAssigned_2 : decode cX6_isAssigned 2 = .ok (.iload_n 2, 1) := by decide +kernel
theorem dX6_isAssigned_3 : decode cX6_isAssigned 3 = .ok (.invokevirtual 171, 3) := by decide +kernel
theorem dX6_isAssigned_6 : decode cX6_isAssigned 6 = .ok (.aload_n 0, 1) := by decide +kernel
theorem dX6_isAssigned_7 : decode cX6_isAssigned 7 = .ok (.getfield 10, 3) := by decide +kernel
theorem dX6_isAssigned_10 : decode cX6_isAssigned 10 = .ok (.iload_n 1, 1) := by decide +kernel
theorem dX6_isAssigned_11 : decode cX6_isAssigned 11 = .ok (.iload_n 2, 1) := by decide +kernel
theorem dX6_isAssigned_12 : decode cX6_isAssigned 12 = .ok (.invokevirtual 181, 3) := by decide +kernel
theorem dX6_isAssigned_15 : decode cX6_isAssigned 15 = .ok (.ireturn, 1) := by decide +kernel
theorem dX6_gradeBy_0 : decode cX6_gradeBy 0 = .ok (.aload_n 0, 1) := by decide +kernel
theorem dX6_gradeBy_1 : decode cX6_gradeBy 1 = .ok (.iload_n 1, 1) := by decide +kernel
theorem dX6_gradeBy_2 : decode cX6_gradeBy 2 = .ok (.iload_n 2, 1) := by decide +kernel
theorem dX6_gradeBy_3 : decode cX6_gradeBy 3 = .ok (.invokevirtual 171, 3) := by decide +kernel
theorem dX6_gradeBy_6 : decode cX6_gradeBy 6 = .ok (.aload_n 0, 1) := by decide +kernel
theorem dX6_gradeBy_7 : decode cX6_gradeBy 7 = .ok (.getfield 10, 3) := by decide +kernel
theorem dX6_gradeBy_10 : decode cX6_gradeBy 10 = .ok (.getfield 184, 3) := by decide +kernel
theorem dX6_gradeBy_13 : decode cX6_gradeBy 13 = .ok (.iload_n 1, 1) := by decide +kernel
theorem dX6_gradeBy_14 : decode cX6_gradeBy 14 = .ok (.aaload, 1) := by decide +kernel
theorem dX6_gradeBy_15 : decode cX6_gradeBy 15 = .ok (.iload_n 2, 1) := by decide +kernel
theorem dX6_gradeBy_16 : decode cX6_gradeBy 16 = .ok (.iaload, 1) := by decide +kernel
theorem dX6_gradeBy_17 : decode cX6_gradeBy 17 = .ok (.invokestatic 139, 3) := by decide +kernel
theorem dX6_gradeBy_20 : decode cX6_gradeBy 20 = .ok (.ireturn, 1) := by decide +kernel
theorem dX6_planSize_0 : decode cX6_planSize 0 = .ok (.aload_n 0, 1) := by decide +kernel
theorem dX6_planSize_1 : decode cX6_planSize 1 = .ok (.getfield 33, 3) := by decide +kernel
theorem dX6_planSize_4 : decode cX6_planSize 4 = .ok (.aload_n 0, 1) := by decide +kernel
theorem dX6_planSize_5 : decode cX6_planSize 5 = .ok (.getfield 10, 3) := by decide +kernel
theorem dX6_planSize_8 : decode cX6_planSize 8 = .ok (.invokevirtual 188, 3) := by decide +kernel
theorem dX6_planSize_11 : decode cX6_planSize 11 = .ok (.ireturn, 1) := by decide +kernel
theorem dX6_planSizeBySets_0 : decode cX6_planSizeBySets 0 = .ok (.aload_n 0, 1) := by decide +kernel
theorem dX6_planSizeBySets_1 : decode cX6_planSizeBySets 1 = .ok (.getfield 33, 3) := by decide +kernel
theorem dX6_planSizeBySets_4 : decode cX6_planSizeBySets 4 = .ok (.aload_n 0, 1) := by decide +kernel
theorem dX6_planSizeBySets_5 : decode cX6_planSizeBySets 5 = .ok (.getfield 10, 3) := by decide +kernel
theorem dX6_planSizeBySets_8 : decode cX6_planSizeBySets 8 = .ok (.invokevirtual 192, 3) := by decide +kernel
theorem dX6_planSizeBySets_11 : decode cX6_planSizeBySets 11 = .ok (.ireturn, 1) := by decide +kernel
theorem dX6_plannedExaminer_0 : decode cX6_plannedExaminer 0 = .ok (.aload_n 0, 1) := by decide +kernel
theorem dX6_plannedExaminer_1 : decode cX6_plannedExaminer 1 = .ok (.iload_n 1, 1) := by decide +kernel
theorem dX6_plannedExaminer_2 : decode cX6_plannedExaminer 2 = .ok (.invokevirtual 119, 3) := by decide +kernel
theorem dX6_plannedExaminer_5 : decode cX6_plannedExaminer 5 = .ok (.aload_n 0, 1) := by decide +kernel
theorem dX6_plannedExaminer_6 : decode cX6_plannedExaminer 6 = .ok (.getfield 33, 3) := by decide +kernel
theorem dX6_plannedExaminer_9 : decode cX6_plannedExaminer 9 = .ok (.aload_n 0, 1) := by decide +kernel
theorem dX6_plannedExaminer_10 : decode cX6_plannedExaminer 10 = .ok (.getfield 10, 3) := by decide +kernel
theorem dX6_plannedExaminer_13 : decode cX6_plannedExaminer 13 = .ok (.invokevirtual 88, 3) := by decide +kernel
theorem dX6_plannedExaminer_16 : decode cX6_plannedExaminer 16 = .ok (.aload_n 0, 1) := by decide +kernel
theorem dX6_plannedExaminer_17 : decode cX6_plannedExaminer 17 = .ok (.getfield 33, 3) := by decide +kernel
theorem dX6_plannedExaminer_20 : decode cX6_plannedExaminer 20 = .ok (.getfield 91, 3) := by decide +kernel
theorem dX6_plannedExaminer_23 : decode cX6_plannedExaminer 23 = .ok (.iload_n 1, 1) := by decide +kernel
theorem dX6_plannedExaminer_24 : decode cX6_plannedExaminer 24 = .ok (.iaload, 1) := by decide +kernel
theorem dX6_plannedExaminer_25 : decode cX6_plannedExaminer 25 = .ok (.invokestatic 139, 3) := by decide +kernel
theorem dX6_plannedExaminer_28 : decode cX6_plannedExaminer 28 = .ok (.ireturn, 1) := by decide +kernel
theorem dX6_panelCount_0 : decode cX6_panelCount 0 = .ok (.aload_n 0, 1) := by decide +kernel
theorem dX6_panelCount_1 : decode cX6_panelCount 1 = .ok (.iload_n 1, 1) := by decide +kernel
theorem dX6_panelCount_2 : decode cX6_panelCount 2 = .ok (.invokevirtual 119, 3) := by decide +kernel
theorem dX6_panelCount_5 : decode cX6_panelCount 5 = .ok (.aload_n 0, 1) := by decide +kernel
theorem dX6_panelCount_6 : decode cX6_panelCount 6 = .ok (.getfield 40, 3) := by decide +kernel
theorem dX6_panelCount_9 : decode cX6_panelCount 9 = .ok (.aload_n 0, 1) := by decide +kernel
theorem dX6_panelCount_10 : decode cX6_panelCount 10 = .ok (.getfield 10, 3) := by decide +kernel
theorem dX6_panelCount_13 : decode cX6_panelCount 13 = .ok (.iload_n 1, 1) := by decide +kernel
theorem dX6_panelCount_14 : decode cX6_panelCount 14 = .ok (.invokevirtual 195, 3) := by decide +kernel
theorem dX6_panelCount_17 : decode cX6_panelCount 17 = .ok (.ireturn, 1) := by decide +kernel
theorem dX6_panelCountByFrames_0 : decode cX6_panelCountByFrames 0 = .ok (.aload_n 0, 1) := by decide +kernel
theorem dX6_panelCountByFrames_1 : decode cX6_panelCountByFrames 1 = .ok (.iload_n 1, 1) := by decide +kernel
theorem dX6_panelCountByFrames_2 : decode cX6_panelCountByFrames 2 = .ok (.invokevirtual 119, 3) := by decide +kernel
theorem dX6_panelCountByFrames_5 : decode cX6_panelCountByFrames 5 = .ok (.aload_n 0, 1) := by decide +kernel
theorem dX6_panelCountByFrames_6 : decode cX6_panelCountByFrames 6 = .ok (.getfield 40, 3) := by decide +kernel
theorem dX6_panelCountByFrames_9 : decode cX6_panelCountByFrames 9 = .ok (.aload_n 0, 1) := by decide +kernel
theorem dX6_panelCountByFrames_10 : decode cX6_panelCountByFrames 10 = .ok (.getfield 10, 3) := by decide +kernel
theorem dX6_panelCountByFrames_13 : decode cX6_panelCountByFrames 13 = .ok (.iload_n 1, 1) := by decide +kernel
theorem dX6_panelCountByFrames_14 : decode cX6_panelCountByFrames 14 = .ok (.invokevirtual 198, 3) := by decide +kernel
theorem dX6_panelCountByFrames_17 : decode cX6_panelCountByFrames 17 = .ok (.ireturn, 1) := by decide +kernel
theorem dX6_panelMember_0 : decode cX6_panelMember 0 = .ok (.aload_n 0, 1) := by decide +kernel
theorem dX6_panelMember_1 : decode cX6_panelMember 1 = .ok (.iload_n 1, 1) := by decide +kernel
theorem dX6_panelMember_2 : decode cX6_panelMember 2 = .ok (.invokevirtual 119, 3) := by decide +kernel
theorem dX6_panelMember_5 : decode cX6_panelMember 5 = .ok (.iload_n 2, 1) := by decide +kernel
theorem dX6_panelMember_6 : decode cX6_panelMember 6 = .ok (.ifCond .lt 8, 3) := by decide +kernel
theorem dX6_panelMember_9 : decode cX6_panelMember 9 = .ok (.iload_n 2, 1) := by decide +kernel
theorem dX6_panelMember_10 : decode cX6_panelMember 10 = .ok (.iconst 3, 1) := by decide +kernel
theorem dX6_panelMember_11 : decode cX6_panelMember 11 = .ok (.if_icmp .lt 11, 3) := by decide +kernel
theorem dX6_panelMember_14 : decode cX6_panelMember 14 = .ok (.new 201, 3) := by decide +kernel
theorem dX6_panelMember_17 : decode cX6_panelMember 17 = .ok (.dup, 1) := by decide +kernel
theorem dX6_panelMember_18 : decode cX6_panelMember 18 = .ok (.invokespecial 203, 3) := by decide +kernel
theorem dX6_panelMember_21 : decode cX6_panelMember 21 = .ok (.athrow, 1) := by decide +kernel
theorem dX6_panelMember_22 : decode cX6_panelMember 22 = .ok (.aload_n 0, 1) := by decide +kernel
theorem dX6_panelMember_23 : decode cX6_panelMember 23 = .ok (.getfield 40, 3) := by decide +kernel
theorem dX6_panelMember_26 : decode cX6_panelMember 26 = .ok (.aload_n 0, 1) := by decide +kernel
theorem dX6_panelMember_27 : decode cX6_panelMember 27 = .ok (.getfield 10, 3) := by decide +kernel
theorem dX6_panelMember_30 : decode cX6_panelMember 30 = .ok (.iload_n 1, 1) := by decide +kernel
theorem dX6_panelMember_31 : decode cX6_panelMember 31 = .ok (.invokevirtual 204, 3) := by decide +kernel
theorem dX6_panelMember_34 : decode cX6_panelMember 34 = .ok (.iload_n 2, 1) := by decide +kernel
theorem dX6_panelMember_35 : decode cX6_panelMember 35 = .ok (.invokestatic 207, 3) := by decide +kernel
theorem dX6_panelMember_38 : decode cX6_panelMember 38 = .ok (.invokestatic 139, 3) := by decide +kernel
theorem dX6_panelMember_41 : decode cX6_panelMember 41 = .ok (.ireturn, 1) := by decide +kernel
theorem dX6_threshold_0 : decode cX6_threshold 0 = .ok (.aload_n 0, 1) := by decide +kernel
theorem dX6_threshold_1 : decode cX6_threshold 1 = .ok (.getfield 10, 3) := by decide +kernel
theorem dX6_threshold_4 : decode cX6_threshold 4 = .ok (.getfield 210, 3) := by decide +kernel
theorem dX6_threshold_7 : decode cX6_threshold 7 = .ok (.ireturn, 1) := by decide +kernel
theorem dX6_entryCount_0 : decode cX6_entryCount 0 = .ok (.aload_n 0, 1) := by decide +kernel
theorem dX6_entryCount_1 : decode cX6_entryCount 1 = .ok (.getfield 10, 3) := by decide +kernel
theorem dX6_entryCount_4 : decode cX6_entryCount 4 = .ok (.getfield 213, 3) := by decide +kernel
theorem dX6_entryCount_7 : decode cX6_entryCount 7 = .ok (.ireturn, 1) := by decide +kernel
theorem dX6_doorOf_0 : decode cX6_doorOf 0 = .ok (.aload_n 0, 1) := by decide +kernel
theorem dX6_doorOf_1 : decode cX6_doorOf 1 = .ok (.iload_n 1, 1) := by decide +kernel
theorem dX6_doorOf_2 : decode cX6_doorOf 2 = .ok (.invokevirtual 216, 3) := by decide +kernel
theorem dX6_doorOf_5 : decode cX6_doorOf 5 = .ok (.aload_n 0, 1) := by decide +kernel
theorem dX6_doorOf_6 : decode cX6_doorOf 6 = .ok (.getfield 10, 3) := by decide +kernel
theorem dX6_doorOf_9 : decode cX6_doorOf 9 = .ok (.getfield 219, 3) := by decide +kernel
theorem dX6_doorOf_12 : decode cX6_doorOf 12 = .ok (.iload_n 1, 1) := by decide +kernel
theorem dX6_doorOf_13 : decode cX6_doorOf 13 = .ok (.iconst 1, 1) := by decide +kernel
theorem dX6_doorOf_14 : decode cX6_doorOf 14 = .ok (.isub, 1) := by decide +kernel
theorem dX6_doorOf_15 : decode cX6_doorOf 15 = .ok (.iaload, 1) := by decide +kernel
theorem dX6_doorOf_16 : decode cX6_doorOf 16 = .ok (.ireturn, 1) := by decide +kernel
theorem dX6_isRevoked_0 : decode cX6_isRevoked 0 = .ok (.aload_n 0, 1) := by decide +kernel
theorem dX6_isRevoked_1 : decode cX6_isRevoked 1 = .ok (.iload_n 1, 1) := by decide +kernel
theorem dX6_isRevoked_2 : decode cX6_isRevoked 2 = .ok (.invokevirtual 216, 3) := by decide +kernel
theorem dX6_isRevoked_5 : decode cX6_isRevoked 5 = .ok (.aload_n 0, 1) := by decide +kernel
theorem dX6_isRevoked_6 : decode cX6_isRevoked 6 = .ok (.getfield 10, 3) := by decide +kernel
theorem dX6_isRevoked_9 : decode cX6_isRevoked 9 = .ok (.getfield 222, 3) := by decide +kernel
theorem dX6_isRevoked_12 : decode cX6_isRevoked 12 = .ok (.iload_n 1, 1) := by decide +kernel
theorem dX6_isRevoked_13 : decode cX6_isRevoked 13 = .ok (.invokestatic 149, 3) := by decide +kernel
theorem dX6_isRevoked_16 : decode cX6_isRevoked 16 = .ok (.ireturn, 1) := by decide +kernel
theorem dX6_assignments_0 : decode cX6_assignments 0 = .ok (.iconst 0, 1) := by decide +kernel
theorem dX6_assignments_1 : decode cX6_assignments 1 = .ok (.istore_n 1, 1) := by decide +kernel
theorem dX6_assignments_2 : decode cX6_assignments 2 = .ok (.iconst 0, 1) := by decide +kernel
theorem dX6_assignments_3 : decode cX6_assignments 3 = .ok (.istore_n 2, 1) := by decide +kernel
theorem dX6_assignments_4 : decode cX6_assignments 4 = .ok (.iload_n 2, 1) := by decide +kernel
theorem dX6_assignments_5 : decode cX6_assignments 5 = .ok (.aload_n 0, 1) := by decide +kernel
theorem dX6_assignments_6 : decode cX6_assignments 6 = .ok (.getfield 10, 3) := by decide +kernel
theorem dX6_assignments_9 : decode cX6_assignments 9 = .ok (.getfield 159, 3) := by decide +kernel
theorem dX6_assignments_12 : decode cX6_assignments 12 = .ok (.if_icmp .ge 20, 3) := by decide +kernel
theorem dX6_assignments_15 : decode cX6_assignments 15 = .ok (.iload_n 1, 1) := by decide +kernel
theorem dX6_assignments_16 : decode cX6_assignments 16 = .ok (.aload_n 0, 1) := by decide +kernel
theorem dX6_assignments_17 : decode cX6_assignments 17 = .ok (.getfield 10, 3) := by decide +kernel
theorem dX6_assignments_20 : decode cX6_assignments 20 = .ok (.iload_n 2, 1) := by decide +kernel
theorem dX6_assignments_21 : decode cX6_assignments 21 = .ok (.invokevirtual 168, 3) := by decide +kernel
theorem dX6_assignments_24 : decode cX6_assignments 24 = .ok (.iadd, 1) := by decide +kernel
theorem dX6_assignments_25 : decode cX6_assignments 25 = .ok (.istore_n 1, 1) := by decide +kernel
theorem dX6_assignments_26 : decode cX6_assignments 26 = .ok (.iinc 2 1, 3) := by decide +kernel
theorem dX6_assignments_29 : decode cX6_assignments 29 = .ok (.goto (-25), 3) := by decide +kernel
theorem dX6_assignments_32 : decode cX6_assignments 32 = .ok (.iload_n 1, 1) := by decide +kernel
theorem dX6_assignments_33 : decode cX6_assignments 33 = .ok (.ireturn, 1) := by decide +kernel
theorem dX6_assignmentsByDoors_0 : decode cX6_assignmentsByDoors 0 = .ok (.iconst 0, 1) := by decide +kernel
theorem dX6_assignmentsByDoors_1 : decode cX6_assignmentsByDoors 1 = .ok (.istore_n 1, 1) := by decide +kernel
theorem dX6_assignmentsByDoors_2 : decode cX6_assignmentsByDoors 2 = .ok (.iconst 0, 1) := by decide +kernel
theorem dX6_assignmentsByDoors_3 : decode cX6_assignmentsByDoors 3 = .ok (.istore_n 2, 1) := by decide +kernel
theorem dX6_assignmentsByDoors_4 : decode cX6_assignmentsByDoors 4 = .ok (.iload_n 2, 1) := by decide +kernel
theorem dX6_assignmentsByDoors_5 : decode cX6_assignmentsByDoors 5 = .ok (.aload_n 0, 1) := by decide +kernel
theorem dX6_assignmentsByDoors_6 : decode cX6_assignmentsByDoors 6 = .ok (.getfield 10, 3) := by decide +kernel
theorem dX6_assignmentsByDoors_9 : decode cX6_assignmentsByDoors 9 = .ok (.getfield 116, 3) := by decide +kernel
theorem dX6_assignmentsByDoors_12 : decode cX6_assignmentsByDoors 12 = .ok (.if_icmp .ge 20, 3) := by decide +kernel
theorem dX6_assignmentsByDoors_15 : decode cX6_assignmentsByDoors 15 = .ok (.iload_n 1, 1) := by decide +kernel
theorem dX6_assignmentsByDoors_16 : decode cX6_assignmentsByDoors 16 = .ok (.aload_n 0, 1) := by decide +kernel
theorem dX6_assignmentsByDoors_17 : decode cX6_assignmentsByDoors 17 = .ok (.getfield 10, 3) := by decide +kernel
theorem dX6_assignmentsByDoors_20 : decode cX6_assignmentsByDoors 20 = .ok (.iload_n 2, 1) := by decide +kernel
theorem dX6_assignmentsByDoors_21 : decode cX6_assignmentsByDoors 21 = .ok (.invokevirtual 130, 3) := by decide +kernel
theorem dX6_assignmentsByDoors_24 : decode cX6_assignmentsByDoors 24 = .ok (.iadd, 1) := by decide +kernel
theorem dX6_assignmentsByDoors_25 : decode cX6_assignmentsByDoors 25 = .ok (.istore_n 1, 1) := by decide +kernel
theorem dX6_assignmentsByDoors_26 : decode cX6_assignmentsByDoors 26 = .ok (.iinc 2 1, 3) := by decide +kernel
theorem dX6_assignmentsByDoors_29 : decode cX6_assignmentsByDoors 29 = .ok (.goto (-25), 3) := by decide +kernel
theorem dX6_assignmentsByDoors_32 : decode cX6_assignmentsByDoors 32 = .ok (.iload_n 1, 1) := by decide +kernel
theorem dX6_assignmentsByDoors_33 : decode cX6_assignmentsByDoors 33 = .ok (.ireturn, 1) := by decide +kernel
theorem dX6_gradeTotal_0 : decode cX6_gradeTotal 0 = .ok (.lconst 0, 1) := by decide +kernel
theorem dX6_gradeTotal_1 : decode cX6_gradeTotal 1 = .ok (.lstore_n 1, 1) := by decide +kernel
theorem dX6_gradeTotal_2 : decode cX6_gradeTotal 2 = .ok (.iconst 0, 1) := by decide +kernel
theorem dX6_gradeTotal_3 : decode cX6_gradeTotal 3 = .ok (.istore_n 3, 1) := by decide +kernel
theorem dX6_gradeTotal_4 : decode cX6_gradeTotal 4 = .ok (.iload_n 3, 1) := by decide +kernel
theorem dX6_gradeTotal_5 : decode cX6_gradeTotal 5 = .ok (.aload_n 0, 1) := by decide +kernel
theorem dX6_gradeTotal_6 : decode cX6_gradeTotal 6 = .ok (.getfield 10, 3) := by decide +kernel
theorem dX6_gradeTotal_9 : decode cX6_gradeTotal 9 = .ok (.getfield 116, 3) := by decide +kernel
theorem dX6_gradeTotal_12 : decode cX6_gradeTotal 12 = .ok (.if_icmp .ge 21, 3) := by decide +kernel
theorem dX6_gradeTotal_15 : decode cX6_gradeTotal 15 = .ok (.lload_n 1, 1) := by decide +kernel
theorem dX6_gradeTotal_16 : decode cX6_gradeTotal 16 = .ok (.aload_n 0, 1) := by decide +kernel
theorem dX6_gradeTotal_17 : decode cX6_gradeTotal 17 = .ok (.getfield 10, 3) := by decide +kernel
theorem dX6_gradeTotal_20 : decode cX6_gradeTotal 20 = .ok (.iload_n 3, 1) := by decide +kernel
theorem dX6_gradeTotal_21 : decode cX6_gradeTotal 21 = .ok (.invokevirtual 225, 3) := by decide +kernel
theorem dX6_gradeTotal_24 : decode cX6_gradeTotal 24 = .ok (.i2l, 1) := by decide +kernel
theorem dX6_gradeTotal_25 : decode cX6_gradeTotal 25 = .ok (.ladd, 1) := by decide +kernel
theorem dX6_gradeTotal_26 : decode cX6_gradeTotal 26 = .ok (.lstore_n 1, 1) := by decide +kernel
theorem dX6_gradeTotal_27 : decode cX6_gradeTotal 27 = .ok (.iinc 3 1, 3) := by decide +kernel
theorem dX6_gradeTotal_30 : decode cX6_gradeTotal 30 = .ok (.goto (-26), 3) := by decide +kernel
theorem dX6_gradeTotal_33 : decode cX6_gradeTotal 33 = .ok (.lload_n 1, 1) := by decide +kernel
theorem dX6_gradeTotal_34 : decode cX6_gradeTotal 34 = .ok (.lreturn, 1) := by decide +kernel
theorem dX6_meanGrade_0 : decode cX6_meanGrade 0 = .ok (.iconst 0, 1) := by decide +kernel
theorem dX6_meanGrade_1 : decode cX6_meanGrade 1 = .ok (.istore_n 1, 1) := by decide +kernel
theorem dX6_meanGrade_2 : decode cX6_meanGrade 2 = .ok (.iconst 0, 1) := by decide +kernel
theorem dX6_meanGrade_3 : decode cX6_meanGrade 3 = .ok (.istore_n 2, 1) := by decide +kernel
theorem dX6_meanGrade_4 : decode cX6_meanGrade 4 = .ok (.iload_n 2, 1) := by decide +kernel
theorem dX6_meanGrade_5 : decode cX6_meanGrade 5 = .ok (.aload_n 0, 1) := by decide +kernel
theorem dX6_meanGrade_6 : decode cX6_meanGrade 6 = .ok (.getfield 10, 3) := by decide +kernel
theorem dX6_meanGrade_9 : decode cX6_meanGrade 9 = .ok (.getfield 116, 3) := by decide +kernel
theorem dX6_meanGrade_12 : decode cX6_meanGrade 12 = .ok (.if_icmp .ge 20, 3) := by decide +kernel
theorem dX6_meanGrade_15 : decode cX6_meanGrade 15 = .ok (.iload_n 1, 1) := by decide +kernel
theorem dX6_meanGrade_16 : decode cX6_meanGrade 16 = .ok (.aload_n 0, 1) := by decide +kernel
theorem dX6_meanGrade_17 : decode cX6_meanGrade 17 = .ok (.getfield 10, 3) := by decide +kernel
theorem dX6_meanGrade_20 : decode cX6_meanGrade 20 = .ok (.iload_n 2, 1) := by decide +kernel
theorem dX6_meanGrade_21 : decode cX6_meanGrade 21 = .ok (.invokevirtual 133, 3) := by decide +kernel
theorem dX6_meanGrade_24 : decode cX6_meanGrade 24 = .ok (.iadd, 1) := by decide +kernel
theorem dX6_meanGrade_25 : decode cX6_meanGrade 25 = .ok (.istore_n 1, 1) := by decide +kernel
theorem dX6_meanGrade_26 : decode cX6_meanGrade 26 = .ok (.iinc 2 1, 3) := by decide +kernel
theorem dX6_meanGrade_29 : decode cX6_meanGrade 29 = .ok (.goto (-25), 3) := by decide +kernel
theorem dX6_meanGrade_32 : decode cX6_meanGrade 32 = .ok (.iload_n 1, 1) := by decide +kernel
theorem dX6_meanGrade_33 : decode cX6_meanGrade 33 = .ok (.ifCond .ne 11, 3) := by decide +kernel
theorem dX6_meanGrade_36 : decode cX6_meanGrade 36 = .ok (.new 228, 3) := by decide +kernel
theorem dX6_meanGrade_39 : decode cX6_meanGrade 39 = .ok (.dup, 1) := by decide +kernel
theorem dX6_meanGrade_40 : decode cX6_meanGrade 40 = .ok (.invokespecial 230, 3) := by decide +kernel
theorem dX6_meanGrade_43 : decode cX6_meanGrade 43 = .ok (.athrow, 1) := by decide +kernel
theorem dX6_meanGrade_44 : decode cX6_meanGrade 44 = .ok (.aload_n 0, 1) := by decide +kernel
theorem dX6_meanGrade_45 : decode cX6_meanGrade 45 = .ok (.invokevirtual 231, 3) := by decide +kernel
theorem dX6_meanGrade_48 : decode cX6_meanGrade 48 = .ok (.l2d, 1) := by decide +kernel
theorem dX6_meanGrade_49 : decode cX6_meanGrade 49 = .ok (.iload_n 1, 1) := by decide +kernel
theorem dX6_meanGrade_50 : decode cX6_meanGrade 50 = .ok (.i2d, 1) := by decide +kernel
theorem dX6_meanGrade_51 : decode cX6_meanGrade 51 = .ok (.ddiv, 1) := by decide +kernel
theorem dX6_meanGrade_52 : decode cX6_meanGrade 52 = .ok (.dreturn, 1) := by decide +kernel
theorem dX6_passShare_0 : decode cX6_passShare 0 = .ok (.iconst 0, 1) := by decide +kernel
theorem dX6_passShare_1 : decode cX6_passShare 1 = .ok (.istore_n 1, 1) := by decide +kernel
theorem dX6_passShare_2 : decode cX6_passShare 2 = .ok (.iconst 0, 1) := by decide +kernel
theorem dX6_passShare_3 : decode cX6_passShare 3 = .ok (.istore_n 2, 1) := by decide +kernel
theorem dX6_passShare_4 : decode cX6_passShare 4 = .ok (.iconst 0, 1) := by decide +kernel
theorem dX6_passShare_5 : decode cX6_passShare 5 = .ok (.istore_n 3, 1) := by decide +kernel
theorem dX6_passShare_6 : decode cX6_passShare 6 = .ok (.iload_n 3, 1) := by decide +kernel
theorem dX6_passShare_7 : decode cX6_passShare 7 = .ok (.aload_n 0, 1) := by decide +kernel
theorem dX6_passShare_8 : decode cX6_passShare 8 = .ok (.getfield 10, 3) := by decide +kernel
theorem dX6_passShare_11 : decode cX6_passShare 11 = .ok (.getfield 116, 3) := by decide +kernel
theorem dX6_passShare_14 : decode cX6_passShare 14 = .ok (.if_icmp .ge 38, 3) := by decide +kernel
theorem dX6_passShare_17 : decode cX6_passShare 17 = .ok (.aload_n 0, 1) := by decide +kernel
theorem dX6_passShare_18 : decode cX6_passShare 18 = .ok (.getfield 10, 3) := by decide +kernel
theorem dX6_passShare_21 : decode cX6_passShare 21 = .ok (.iload_n 3, 1) := by decide +kernel
theorem dX6_passShare_22 : decode cX6_passShare 22 = .ok (.invokevirtual 136, 3) := by decide +kernel
theorem dX6_passShare_25 : decode cX6_passShare 25 = .ok (.iconst (-1), 1) := by decide +kernel
theorem dX6_passShare_26 : decode cX6_passShare 26 = .ok (.if_icmp .eq 6, 3) := by decide +kernel
theorem dX6_passShare_29 : decode cX6_passShare 29 = .ok (.iinc 2 1, 3) := by decide +kernel
theorem dX6_passShare_32 : decode cX6_passShare 32 = .ok (.aload_n 0, 1) := by decide +kernel
theorem dX6_passShare_33 : decode cX6_passShare 33 = .ok (.getfield 10, 3) := by decide +kernel
theorem dX6_passShare_36 : decode cX6_passShare 36 = .ok (.iload_n 3, 1) := by decide +kernel
theorem dX6_passShare_37 : decode cX6_passShare 37 = .ok (.invokevirtual 142, 3) := by decide +kernel
theorem dX6_passShare_40 : decode cX6_passShare 40 = .ok (.ifCond .eq 6, 3) := by decide +kernel
theorem dX6_passShare_43 : decode cX6_passShare 43 = .ok (.iinc 1 1, 3) := by decide +kernel
theorem dX6_passShare_46 : decode cX6_passShare 46 = .ok (.iinc 3 1, 3) := by decide +kernel
theorem dX6_passShare_49 : decode cX6_passShare 49 = .ok (.goto (-43), 3) := by decide +kernel
theorem dX6_passShare_52 : decode cX6_passShare 52 = .ok (.iload_n 2, 1) := by decide +kernel
theorem dX6_passShare_53 : decode cX6_passShare 53 = .ok (.ifCond .ne 11, 3) := by decide +kernel
theorem dX6_passShare_56 : decode cX6_passShare 56 = .ok (.new 228, 3) := by decide +kernel
theorem dX6_passShare_59 : decode cX6_passShare 59 = .ok (.dup, 1) := by decide +kernel
theorem dX6_passShare_60 : decode cX6_passShare 60 = .ok (.invokespecial 230, 3) := by decide +kernel
theorem dX6_passShare_63 : decode cX6_passShare 63 = .ok (.athrow, 1) := by decide +kernel
theorem dX6_passShare_64 : decode cX6_passShare 64 = .ok (.iload_n 1, 1) := by decide +kernel
theorem dX6_passShare_65 : decode cX6_passShare 65 = .ok (.i2f, 1) := by decide +kernel
theorem dX6_passShare_66 : decode cX6_passShare 66 = .ok (.iload_n 2, 1) := by decide +kernel
theorem dX6_passShare_67 : decode cX6_passShare 67 = .ok (.i2f, 1) := by decide +kernel
theorem dX6_passShare_68 : decode cX6_passShare 68 = .ok (.fdiv, 1) := by decide +kernel
theorem dX6_passShare_69 : decode cX6_passShare 69 = .ok (.freturn, 1) := by decide +kernel
theorem dX6_isConsistent_0 : decode cX6_isConsistent 0 = .ok (.aload_n 0, 1) := by decide +kernel
theorem dX6_isConsistent_1 : decode cX6_isConsistent 1 = .ok (.invokevirtual 235, 3) := by decide +kernel
theorem dX6_isConsistent_4 : decode cX6_isConsistent 4 = .ok (.aload_n 0, 1) := by decide +kernel
theorem dX6_isConsistent_5 : decode cX6_isConsistent 5 = .ok (.invokevirtual 239, 3) := by decide +kernel
theorem dX6_isConsistent_8 : decode cX6_isConsistent 8 = .ok (.if_icmp .ne 46, 3) := by decide +kernel
theorem dX6_isConsistent_11 : decode cX6_isConsistent 11 = .ok (.aload_n 0, 1) := by decide +kernel
theorem dX6_isConsistent_12 : decode cX6_isConsistent 12 = .ok (.getfield 33, 3) := by decide +kernel
theorem dX6_isConsistent_15 : decode cX6_isConsistent 15 = .ok (.aload_n 0, 1) := by decide +kernel
theorem dX6_isConsistent_16 : decode cX6_isConsistent 16 = .ok (.getfield 10, 3) := by decide +kernel
theorem dX6_isConsistent_19 : decode cX6_isConsistent 19 = .ok (.invokevirtual 188, 3) := by decide +kernel
theorem dX6_isConsistent_22 : decode cX6_isConsistent 22 = .ok (.aload_n 0, 1) := by decide +kernel
theorem dX6_isConsistent_23 : decode cX6_isConsistent 23 = .ok (.getfield 33, 3) := by decide +kernel
theorem dX6_isConsistent_26 : decode cX6_isConsistent 26 = .ok (.aload_n 0, 1) := by decide +kernel
theorem dX6_isConsistent_27 : decode cX6_isConsistent 27 = .ok (.getfield 10, 3) := by decide +kernel
theorem dX6_isConsistent_30 : decode cX6_isConsistent 30 = .ok (.invokevirtual 192, 3) := by decide +kernel
theorem dX6_isConsistent_33 : decode cX6_isConsistent 33 = .ok (.if_icmp .ne 21, 3) := by decide +kernel
theorem dX6_isConsistent_36 : decode cX6_isConsistent 36 = .ok (.aload_n 0, 1) := by decide +kernel
theorem dX6_isConsistent_37 : decode cX6_isConsistent 37 = .ok (.invokevirtual 242, 3) := by decide +kernel
theorem dX6_isConsistent_40 : decode cX6_isConsistent 40 = .ok (.ifCond .eq 14, 3) := by decide +kernel
theorem dX6_isConsistent_43 : decode cX6_isConsistent 43 = .ok (.aload_n 0, 1) := by decide +kernel
theorem dX6_isConsistent_44 : decode cX6_isConsistent 44 = .ok (.invokevirtual 246, 3) := by decide +kernel
theorem dX6_isConsistent_47 : decode cX6_isConsistent 47 = .ok (.ifCond .eq 7, 3) := by decide +kernel
theorem dX6_isConsistent_50 : decode cX6_isConsistent 50 = .ok (.iconst 1, 1) := by decide +kernel
theorem dX6_isConsistent_51 : decode cX6_isConsistent 51 = .ok (.goto 4, 3) := by decide +kernel
theorem dX6_isConsistent_54 : decode cX6_isConsistent 54 = .ok (.iconst 0, 1) := by decide +kernel
theorem dX6_isConsistent_55 : decode cX6_isConsistent 55 = .ok (.ireturn, 1) := by decide +kernel
theorem dX6_append_0 : decode cX6_append 0 = .ok (.aload_n 0, 1) := by decide +kernel
theorem dX6_append_1 : decode cX6_append 1 = .ok (.getfield 47, 3) := by decide +kernel
theorem dX6_append_4 : decode cX6_append 4 = .ok (.invokevirtual 249, 3) := by decide +kernel
theorem dX6_append_7 : decode cX6_append 7 = .ok (.ifCond .eq 11, 3) := by decide +kernel
theorem dX6_append_10 : decode cX6_append 10 = .ok (.new 252, 3) := by decide +kernel
theorem dX6_append_13 : decode cX6_append 13 = .ok (.dup, 1) := by decide +kernel
theorem dX6_append_14 : decode cX6_append 14 = .ok (.invokespecial 254, 3) := by decide +kernel
theorem dX6_append_17 : decode cX6_append 17 = .ok (.athrow, 1) := by decide +kernel
theorem dX6_append_18 : decode cX6_append 18 = .ok (.aload_n 0, 1) := by decide +kernel
theorem dX6_append_19 : decode cX6_append 19 = .ok (.getfield 47, 3) := by decide +kernel
theorem dX6_append_22 : decode cX6_append 22 = .ok (.iload_n 1, 1) := by decide +kernel
theorem dX6_append_23 : decode cX6_append 23 = .ok (.invokevirtual 255, 3) := by decide +kernel
theorem dX6_append_26 : decode cX6_append 26 = .ok (.aload_n 0, 1) := by decide +kernel
theorem dX6_append_27 : decode cX6_append 27 = .ok (.getfield 47, 3) := by decide +kernel
theorem dX6_append_30 : decode cX6_append 30 = .ok (.getfield 259, 3) := by decide +kernel
theorem dX6_append_33 : decode cX6_append 33 = .ok (.ireturn, 1) := by decide +kernel
theorem dX6_run_0 : decode cX6_run 0 = .ok (.aload_n 0, 1) := by decide +kernel
theorem dX6_run_1 : decode cX6_run 1 = .ok (.getfield 47, 3) := by decide +kernel
theorem dX6_run_4 : decode cX6_run 4 = .ok (.invokevirtual 262, 3) := by decide +kernel
theorem dX6_run_7 : decode cX6_run 7 = .ok (.istore_n 1, 1) := by decide +kernel
theorem dX6_run_8 : decode cX6_run 8 = .ok (.aload_n 0, 1) := by decide +kernel
theorem dX6_run_9 : decode cX6_run 9 = .ok (.getfield 47, 3) := by decide +kernel
theorem dX6_run_12 : decode cX6_run 12 = .ok (.invokevirtual 265, 3) := by decide +kernel
theorem dX6_run_15 : decode cX6_run 15 = .ok (.iload_n 1, 1) := by decide +kernel
theorem dX6_run_16 : decode cX6_run 16 = .ok (.iconst (-1), 1) := by decide +kernel
theorem dX6_run_17 : decode cX6_run 17 = .ok (.if_icmp .eq 16, 3) := by decide +kernel
theorem dX6_run_20 : decode cX6_run 20 = .ok (.aload_n 0, 1) := by decide +kernel
theorem dX6_run_21 : decode cX6_run 21 = .ok (.iload_n 1, 1) := by decide +kernel
theorem dX6_run_22 : decode cX6_run 22 = .ok (.putfield 58, 3) := by decide +kernel
theorem dX6_run_25 : decode cX6_run 25 = .ok (.new 201, 3) := by decide +kernel
theorem dX6_run_28 : decode cX6_run 28 = .ok (.dup, 1) := by decide +kernel
theorem dX6_run_29 : decode cX6_run 29 = .ok (.invokespecial 203, 3) := by decide +kernel
theorem dX6_run_32 : decode cX6_run 32 = .ok (.athrow, 1) := by decide +kernel
theorem dX6_run_33 : decode cX6_run 33 = .ok (.aload_n 0, 1) := by decide +kernel
theorem dX6_run_34 : decode cX6_run 34 = .ok (.getfield 26, 3) := by decide +kernel
theorem dX6_run_37 : decode cX6_run 37 = .ok (.aload_n 0, 1) := by decide +kernel
theorem dX6_run_38 : decode cX6_run 38 = .ok (.getfield 10, 3) := by decide +kernel
theorem dX6_run_41 : decode cX6_run 41 = .ok (.invokevirtual 65, 3) := by decide +kernel
theorem dX6_run_44 : decode cX6_run 44 = .ok (.iconst 0, 1) := by decide +kernel
theorem dX6_run_45 : decode cX6_run 45 = .ok (.istore_n 2, 1) := by decide +kernel
theorem dX6_run_46 : decode cX6_run 46 = .ok (.iload_n 2, 1) := by decide +kernel
theorem dX6_run_47 : decode cX6_run 47 = .ok (.aload_n 0, 1) := by decide +kernel
theorem dX6_run_48 : decode cX6_run 48 = .ok (.getfield 47, 3) := by decide +kernel
theorem dX6_run_51 : decode cX6_run 51 = .ok (.getfield 268, 3) := by decide +kernel
theorem dX6_run_54 : decode cX6_run 54 = .ok (.if_icmp .ge 58, 3) := by decide +kernel
theorem dX6_run_57 : decode cX6_run 57 = .ok (.aload_n 0, 1) := by decide +kernel
theorem dX6_run_58 : decode cX6_run 58 = .ok (.aload_n 0, 1) := by decide +kernel
theorem dX6_run_59 : decode cX6_run 59 = .ok (.getfield 47, 3) := by decide +kernel
theorem dX6_run_62 : decode cX6_run 62 = .ok (.getfield 271, 3) := by decide +kernel
theorem dX6_run_65 : decode cX6_run 65 = .ok (.iload_n 2, 1) := by decide +kernel
theorem dX6_run_66 : decode cX6_run 66 = .ok (.iaload, 1) := by decide +kernel
theorem dX6_run_67 : decode cX6_run 67 = .ok (.aload_n 0, 1) := by decide +kernel
theorem dX6_run_68 : decode cX6_run 68 = .ok (.getfield 47, 3) := by decide +kernel
theorem dX6_run_71 : decode cX6_run 71 = .ok (.getfield 274, 3) := by decide +kernel
theorem dX6_run_74 : decode cX6_run 74 = .ok (.iload_n 2, 1) := by decide +kernel
theorem dX6_run_75 : decode cX6_run 75 = .ok (.aaload, 1) := by decide +kernel
theorem dX6_run_76 : decode cX6_run 76 = .ok (.invokevirtual 277, 3) := by decide +kernel
theorem dX6_run_79 : decode cX6_run 79 = .ok (.ifCond .ge 27, 3) := by decide +kernel
theorem dX6_run_82 : decode cX6_run 82 = .ok (.aload_n 0, 1) := by decide +kernel
theorem dX6_run_83 : decode cX6_run 83 = .ok (.getfield 26, 3) := by decide +kernel
theorem dX6_run_86 : decode cX6_run 86 = .ok (.aload_n 0, 1) := by decide +kernel
theorem dX6_run_87 : decode cX6_run 87 = .ok (.getfield 10, 3) := by decide +kernel
theorem dX6_run_90 : decode cX6_run 90 = .ok (.invokevirtual 281, 3) := by decide +kernel
theorem dX6_run_93 : decode cX6_run 93 = .ok (.aload_n 0, 1) := by decide +kernel
theorem dX6_run_94 : decode cX6_run 94 = .ok (.iload_n 2, 1) := by decide +kernel
theorem dX6_run_95 : decode cX6_run 95 = .ok (.putfield 62, 3) := by decide +kernel
theorem dX6_run_98 : decode cX6_run 98 = .ok (.new 284, 3) := by decide +kernel
theorem dX6_run_101 : decode cX6_run 101 = .ok (.dup, 1) := by decide +kernel
theorem dX6_run_102 : decode cX6_run 102 = .ok (.invokespecial 286, 3) := by decide +kernel
theorem dX6_run_105 : decode cX6_run 105 = .ok (.athrow, 1) := by decide +kernel
theorem dX6_run_106 : decode cX6_run 106 = .ok (.iinc 2 1, 3) := by decide +kernel
theorem dX6_run_109 : decode cX6_run 109 = .ok (.goto (-63), 3) := by decide +kernel
theorem dX6_run_112 : decode cX6_run 112 = .ok (.aload_n 0, 1) := by decide +kernel
theorem dX6_run_113 : decode cX6_run 113 = .ok (.getfield 26, 3) := by decide +kernel
theorem dX6_run_116 : decode cX6_run 116 = .ok (.invokevirtual 287, 3) := by decide +kernel
theorem dX6_run_119 : decode cX6_run 119 = .ok (.aload_n 0, 1) := by decide +kernel
theorem dX6_run_120 : decode cX6_run 120 = .ok (.getfield 47, 3) := by decide +kernel
theorem dX6_run_123 : decode cX6_run 123 = .ok (.getfield 268, 3) := by decide +kernel
theorem dX6_run_126 : decode cX6_run 126 = .ok (.ireturn, 1) := by decide +kernel
theorem dX6_writeDoor_0 : decode cX6_writeDoor 0 = .ok (.aload_n 0, 1) := by decide +kernel
theorem dX6_writeDoor_1 : decode cX6_writeDoor 1 = .ok (.iload_n 1, 1) := by decide +kernel
theorem dX6_writeDoor_2 : decode cX6_writeDoor 2 = .ok (.invokevirtual 119, 3) := by decide +kernel
theorem dX6_writeDoor_5 : decode cX6_writeDoor 5 = .ok (.aload_n 0, 1) := by decide +kernel
theorem dX6_writeDoor_6 : decode cX6_writeDoor 6 = .ok (.getfield 54, 3) := by decide +kernel
theorem dX6_writeDoor_9 : decode cX6_writeDoor 9 = .ok (.aload_n 0, 1) := by decide +kernel
theorem dX6_writeDoor_10 : decode cX6_writeDoor 10 = .ok (.getfield 10, 3) := by decide +kernel
theorem dX6_writeDoor_13 : decode cX6_writeDoor 13 = .ok (.iload_n 1, 1) := by decide +kernel
theorem dX6_writeDoor_14 : decode cX6_writeDoor 14 = .ok (.invokevirtual 290, 3) := by decide +kernel
theorem dX6_writeDoor_17 : decode cX6_writeDoor 17 = .ok (.aload_n 0, 1) := by decide +kernel
theorem dX6_writeDoor_18 : decode cX6_writeDoor 18 = .ok (.getfield 54, 3) := by decide +kernel
theorem dX6_writeDoor_21 : decode cX6_writeDoor 21 = .ok (.getfield 294, 3) := by decide +kernel
theorem dX6_writeDoor_24 : decode cX6_writeDoor 24 = .ok (.ireturn, 1) := by decide +kernel
theorem dX6_writeExaminer_0 : decode cX6_writeExaminer 0 = .ok (.aload_n 0, 1) := by decide +kernel
theorem dX6_writeExaminer_1 : decode cX6_writeExaminer 1 = .ok (.iload_n 1, 1) := by decide +kernel
theorem dX6_writeExaminer_2 : decode cX6_writeExaminer 2 = .ok (.invokevirtual 162, 3) := by decide +kernel
theorem dX6_writeExaminer_5 : decode cX6_writeExaminer 5 = .ok (.aload_n 0, 1) := by decide +kernel
theorem dX6_writeExaminer_6 : decode cX6_writeExaminer 6 = .ok (.getfield 54, 3) := by decide +kernel
theorem dX6_writeExaminer_9 : decode cX6_writeExaminer 9 = .ok (.aload_n 0, 1) := by decide +kernel
theorem dX6_writeExaminer_10 : decode cX6_writeExaminer 10 = .ok (.getfield 10, 3) := by decide +kernel
theorem dX6_writeExaminer_13 : decode cX6_writeExaminer 13 = .ok (.iload_n 1, 1) := by decide +kernel
theorem dX6_writeExaminer_14 : decode cX6_writeExaminer 14 = .ok (.invokevirtual 295, 3) := by decide +kernel
theorem dX6_writeExaminer_17 : decode cX6_writeExaminer 17 = .ok (.aload_n 0, 1) := by decide +kernel
theorem dX6_writeExaminer_18 : decode cX6_writeExaminer 18 = .ok (.getfield 54, 3) := by decide +kernel
theorem dX6_writeExaminer_21 : decode cX6_writeExaminer 21 = .ok (.getfield 294, 3) := by decide +kernel
theorem dX6_writeExaminer_24 : decode cX6_writeExaminer 24 = .ok (.ireturn, 1) := by decide +kernel
theorem dX6_outputAt_0 : decode cX6_outputAt 0 = .ok (.iload_n 1, 1) := by decide +kernel
theorem dX6_outputAt_1 : decode cX6_outputAt 1 = .ok (.ifCond .lt 14, 3) := by decide +kernel
theorem dX6_outputAt_4 : decode cX6_outputAt 4 = .ok (.iload_n 1, 1) := by decide +kernel
theorem dX6_outputAt_5 : decode cX6_outputAt 5 = .ok (.aload_n 0, 1) := by decide +kernel
theorem dX6_outputAt_6 : decode cX6_outputAt 6 = .ok (.getfield 54, 3) := by decide +kernel
theorem dX6_outputAt_9 : decode cX6_outputAt 9 = .ok (.getfield 294, 3) := by decide +kernel
theorem dX6_outputAt_12 : decode cX6_outputAt 12 = .ok (.if_icmp .lt 11, 3) := by decide +kernel
theorem dX6_outputAt_15 : decode cX6_outputAt 15 = .ok (.new 298, 3) := by decide +kernel
theorem dX6_outputAt_18 : decode cX6_outputAt 18 = .ok (.dup, 1) := by decide +kernel
theorem dX6_outputAt_19 : decode cX6_outputAt 19 = .ok (.invokespecial 300, 3) := by decide +kernel
theorem dX6_outputAt_22 : decode cX6_outputAt 22 = .ok (.athrow, 1) := by decide +kernel
theorem dX6_outputAt_23 : decode cX6_outputAt 23 = .ok (.aload_n 0, 1) := by decide +kernel
theorem dX6_outputAt_24 : decode cX6_outputAt 24 = .ok (.getfield 54, 3) := by decide +kernel
theorem dX6_outputAt_27 : decode cX6_outputAt 27 = .ok (.getfield 301, 3) := by decide +kernel
theorem dX6_outputAt_30 : decode cX6_outputAt 30 = .ok (.iload_n 1, 1) := by decide +kernel
theorem dX6_outputAt_31 : decode cX6_outputAt 31 = .ok (.caload, 1) := by decide +kernel
theorem dX6_outputAt_32 : decode cX6_outputAt 32 = .ok (.ireturn, 1) := by decide +kernel
theorem dX6_undo_0 : decode cX6_undo 0 = .ok (.aload_n 0, 1) := by decide +kernel
theorem dX6_undo_1 : decode cX6_undo 1 = .ok (.getfield 26, 3) := by decide +kernel
theorem dX6_undo_4 : decode cX6_undo 4 = .ok (.getfield 304, 3) := by decide +kernel
theorem dX6_undo_7 : decode cX6_undo 7 = .ok (.ifCond .ne 11, 3) := by decide +kernel
theorem dX6_undo_10 : decode cX6_undo 10 = .ok (.new 252, 3) := by decide +kernel
theorem dX6_undo_13 : decode cX6_undo 13 = .ok (.dup, 1) := by decide +kernel
theorem dX6_undo_14 : decode cX6_undo 14 = .ok (.invokespecial 254, 3) := by decide +kernel
theorem dX6_undo_17 : decode cX6_undo 17 = .ok (.athrow, 1) := by decide +kernel
theorem dX6_undo_18 : decode cX6_undo 18 = .ok (.aload_n 0, 1) := by decide +kernel
theorem dX6_undo_19 : decode cX6_undo 19 = .ok (.getfield 26, 3) := by decide +kernel
theorem dX6_undo_22 : decode cX6_undo 22 = .ok (.aload_n 0, 1) := by decide +kernel
theorem dX6_undo_23 : decode cX6_undo 23 = .ok (.getfield 10, 3) := by decide +kernel
theorem dX6_undo_26 : decode cX6_undo 26 = .ok (.invokevirtual 307, 3) := by decide +kernel
theorem dX6_undo_29 : decode cX6_undo 29 = .ok (.aload_n 0, 1) := by decide +kernel
theorem dX6_undo_30 : decode cX6_undo 30 = .ok (.getfield 26, 3) := by decide +kernel
theorem dX6_undo_33 : decode cX6_undo 33 = .ok (.getfield 304, 3) := by decide +kernel
theorem dX6_undo_36 : decode cX6_undo 36 = .ok (.ireturn, 1) := by decide +kernel
theorem dX6_conclude_0 : decode cX6_conclude 0 = .ok (.iload_n 1, 1) := by decide +kernel
theorem dX6_conclude_1 : decode cX6_conclude 1 = .ok (.ifCond .ge 7, 3) := by decide +kernel
theorem dX6_conclude_4 : decode cX6_conclude 4 = .ok (.iload_n 1, 1) := by decide +kernel
theorem dX6_conclude_5 : decode cX6_conclude 5 = .ok (.invokestatic 316, 3) := by decide +kernel
theorem dX6_conclude_8 : decode cX6_conclude 8 = .ok (.aload_n 0, 1) := by decide +kernel
theorem dX6_conclude_9 : decode cX6_conclude 9 = .ok (.getfield 26, 3) := by decide +kernel
theorem dX6_conclude_12 : decode cX6_conclude 12 = .ok (.invokevirtual 287, 3) := by decide +kernel
theorem dX6_conclude_15 : decode cX6_conclude 15 = .ok (.iload_n 1, 1) := by decide +kernel
theorem dX6_conclude_16 : decode cX6_conclude 16 = .ok (.ireturn, 1) := by decide +kernel
theorem dX6_refuse_0 : decode cX6_refuse 0 = .ok (.iload_n 0, 1) := by decide +kernel
theorem dX6_refuse_1 : decode cX6_refuse 1 = .ok (.tableswitch 63 (-4) (-1) #[55, 47, 39, 31], 31) := by decide +kernel
theorem dX6_refuse_32 : decode cX6_refuse 32 = .ok (.new 298, 3) := by decide +kernel
theorem dX6_refuse_35 : decode cX6_refuse 35 = .ok (.dup, 1) := by decide +kernel
theorem dX6_refuse_36 : decode cX6_refuse 36 = .ok (.invokespecial 300, 3) := by decide +kernel
theorem dX6_refuse_39 : decode cX6_refuse 39 = .ok (.athrow, 1) := by decide +kernel
theorem dX6_refuse_40 : decode cX6_refuse 40 = .ok (.new 201, 3) := by decide +kernel
theorem dX6_refuse_43 : decode cX6_refuse 43 = .ok (.dup, 1) := by decide +kernel
theorem dX6_refuse_44 : decode cX6_refuse 44 = .ok (.invokespecial 203, 3) := by decide +kernel
theorem dX6_refuse_47 : decode cX6_refuse 47 = .ok (.athrow, 1) := by decide +kernel
theorem dX6_refuse_48 : decode cX6_refuse 48 = .ok (.new 252, 3) := by decide +kernel
theorem dX6_refuse_51 : decode cX6_refuse 51 = .ok (.dup, 1) := by decide +kernel
theorem dX6_refuse_52 : decode cX6_refuse 52 = .ok (.invokespecial 254, 3) := by decide +kernel
theorem dX6_refuse_55 : decode cX6_refuse 55 = .ok (.athrow, 1) := by decide +kernel
theorem dX6_refuse_56 : decode cX6_refuse 56 = .ok (.new 284, 3) := by decide +kernel
theorem dX6_refuse_59 : decode cX6_refuse 59 = .ok (.dup, 1) := by decide +kernel
theorem dX6_refuse_60 : decode cX6_refuse 60 = .ok (.invokespecial 286, 3) := by decide +kernel
theorem dX6_refuse_63 : decode cX6_refuse 63 = .ok (.athrow, 1) := by decide +kernel
theorem dX6_refuse_64 : decode cX6_refuse 64 = .ok (.new 319, 3) := by decide +kernel
theorem dX6_refuse_67 : decode cX6_refuse 67 = .ok (.dup, 1) := by decide +kernel
theorem dX6_refuse_68 : decode cX6_refuse 68 = .ok (.invokespecial 321, 3) := by decide +kernel
theorem dX6_refuse_71 : decode cX6_refuse 71 = .ok (.athrow, 1) := by decide +kernel
theorem dX6_requireDoor_0 : decode cX6_requireDoor 0 = .ok (.aload_n 0, 1) := by decide +kernel
theorem dX6_requireDoor_1 : decode cX6_requireDoor 1 = .ok (.getfield 10, 3) := by decide +kernel
theorem dX6_requireDoor_4 : decode cX6_requireDoor 4 = .ok (.iload_n 1, 1) := by decide +kernel
theorem dX6_requireDoor_5 : decode cX6_requireDoor 5 = .ok (.invokevirtual 322, 3) := by decide +kernel
theorem dX6_requireDoor_8 : decode cX6_requireDoor 8 = .ok (.ifCond .ne 11, 3) := by decide +kernel
theorem dX6_requireDoor_11 : decode cX6_requireDoor 11 = .ok (.new 298, 3) := by decide +kernel
theorem dX6_requireDoor_14 : decode cX6_requireDoor 14 = .ok (.dup, 1) := by decide +kernel
theorem dX6_requireDoor_15 : decode cX6_requireDoor 15 = .ok (.invokespecial 300, 3) := by decide +kernel
theorem dX6_requireDoor_18 : decode cX6_requireDoor 18 = .ok (.athrow, 1) := by decide +kernel
theorem dX6_requireDoor_19 : decode cX6_requireDoor 19 = .ok (.return_, 1) := by decide +kernel
theorem dX6_requireExaminer_0 : decode cX6_requireExaminer 0 = .ok (.aload_n 0, 1) := by decide +kernel
theorem dX6_requireExaminer_1 : decode cX6_requireExaminer 1 = .ok (.getfield 10, 3) := by decide +kernel
theorem dX6_requireExaminer_4 : decode cX6_requireExaminer 4 = .ok (.iload_n 1, 1) := by decide +kernel
theorem dX6_requireExaminer_5 : decode cX6_requireExaminer 5 = .ok (.invokevirtual 325, 3) := by decide +kernel
theorem dX6_requireExaminer_8 : decode cX6_requireExaminer 8 = .ok (.ifCond .ne 11, 3) := by decide +kernel
theorem dX6_requireExaminer_11 : decode cX6_requireExaminer 11 = .ok (.new 298, 3) := by decide +kernel
theorem dX6_requireExaminer_14 : decode cX6_requireExaminer 14 = .ok (.dup, 1) := by decide +kernel
theorem dX6_requireExaminer_15 : decode cX6_requireExaminer 15 = .ok (.invokespecial 300, 3) := by decide +kernel
theorem dX6_requireExaminer_18 : decode cX6_requireExaminer 18 = .ok (.athrow, 1) := by decide +kernel
theorem dX6_requireExaminer_19 : decode cX6_requireExaminer 19 = .ok (.return_, 1) := by decide +kernel
theorem dX6_requirePair_0 : decode cX6_requirePair 0 = .ok (.aload_n 0, 1) := by decide +kernel
theorem dX6_requirePair_1 : decode cX6_requirePair 1 = .ok (.iload_n 1, 1) := by decide +kernel
theorem dX6_requirePair_2 : decode cX6_requirePair 2 = .ok (.invokevirtual 162, 3) := by decide +kernel
theorem dX6_requirePair_5 : decode cX6_requirePair 5 = .ok (.aload_n 0, 1) := by decide +kernel
theorem dX6_requirePair_6 : decode cX6_requirePair 6 = .ok (.iload_n 2, 1) := by decide +kernel
theorem dX6_requirePair_7 : decode cX6_requirePair 7 = .ok (.invokevirtual 119, 3) := by decide +kernel
theorem dX6_requirePair_10 : decode cX6_requirePair 10 = .ok (.return_, 1) := by decide +kernel
theorem dX6_requireEntry_0 : decode cX6_requireEntry 0 = .ok (.aload_n 0, 1) := by decide +kernel
theorem dX6_requireEntry_1 : decode cX6_requireEntry 1 = .ok (.getfield 10, 3) := by decide +kernel
theorem dX6_requireEntry_4 : decode cX6_requireEntry 4 = .ok (.iload_n 1, 1) := by decide +kernel
theorem dX6_requireEntry_5 : decode cX6_requireEntry 5 = .ok (.invokevirtual 328, 3) := by decide +kernel
theorem dX6_requireEntry_8 : decode cX6_requireEntry 8 = .ok (.ifCond .ne 11, 3) := by decide +kernel
theorem dX6_requireEntry_11 : decode cX6_requireEntry 11 = .ok (.new 319, 3) := by decide +kernel
theorem dX6_requireEntry_14 : decode cX6_requireEntry 14 = .ok (.dup, 1) := by decide +kernel
theorem dX6_requireEntry_15 : decode cX6_requireEntry 15 = .ok (.invokespecial 321, 3) := by decide +kernel
theorem dX6_requireEntry_18 : decode cX6_requireEntry 18 = .ok (.athrow, 1) := by decide +kernel
theorem dX6_requireEntry_19 : decode cX6_requireEntry 19 = .ok (.return_, 1) := by decide +kernel
theorem dX6_requireThere_0 : decode cX6_requireThere 0 = .ok (.iload_n 0, 1) := by decide +kernel
theorem dX6_requireThere_1 : decode cX6_requireThere 1 = .ok (.iconst (-1), 1) := by decide +kernel
theorem dX6_requireThere_2 : decode cX6_requireThere 2 = .ok (.if_icmp .ne 11, 3) := by decide +kernel
theorem dX6_requireThere_5 : decode cX6_requireThere 5 = .ok (.new 319, 3) := by decide +kernel
theorem dX6_requireThere_8 : decode cX6_requireThere 8 = .ok (.dup, 1) := by decide +kernel
theorem dX6_requireThere_9 : decode cX6_requireThere 9 = .ok (.invokespecial 321, 3) := by decide +kernel
theorem dX6_requireThere_12 : decode cX6_requireThere 12 = .ok (.athrow, 1) := by decide +kernel
theorem dX6_requireThere_13 : decode cX6_requireThere 13 = .ok (.iload_n 0, 1) := by decide +kernel
theorem dX6_requireThere_14 : decode cX6_requireThere 14 = .ok (.ireturn, 1) := by decide +kernel
theorem dX6_panelCountsAgree_0 : decode cX6_panelCountsAgree 0 = .ok (.iconst 0, 1) := by decide +kernel
theorem dX6_panelCountsAgree_1 : decode cX6_panelCountsAgree 1 = .ok (.istore_n 1, 1) := by decide +kernel
theorem dX6_panelCountsAgree_2 : decode cX6_panelCountsAgree 2 = .ok (.iload_n 1, 1) := by decide +kernel
theorem dX6_panelCountsAgree_3 : decode cX6_panelCountsAgree 3 = .ok (.aload_n 0, 1) := by decide +kernel
theorem dX6_panelCountsAgree_4 : decode cX6_panelCountsAgree 4 = .ok (.getfield 10, 3) := by decide +kernel
theorem dX6_panelCountsAgree_7 : decode cX6_panelCountsAgree 7 = .ok (.getfield 116, 3) := by decide +kernel
theorem dX6_panelCountsAgree_10 : decode cX6_panelCountsAgree 10 = .ok (.if_icmp .ge 38, 3) := by decide +kernel
theorem dX6_panelCountsAgree_13 : decode cX6_panelCountsAgree 13 = .ok (.aload_n 0, 1) := by decide +kernel
theorem dX6_panelCountsAgree_14 : decode cX6_panelCountsAgree 14 = .ok (.getfield 40, 3) := by decide +kernel
theorem dX6_panelCountsAgree_17 : decode cX6_panelCountsAgree 17 = .ok (.aload_n 0, 1) := by decide +kernel
theorem dX6_panelCountsAgree_18 : decode cX6_panelCountsAgree 18 = .ok (.getfield 10, 3) := by decide +kernel
theorem dX6_panelCountsAgree_21 : decode cX6_panelCountsAgree 21 = .ok (.iload_n 1, 1) := by decide +kernel
theorem dX6_panelCountsAgree_22 : decode cX6_panelCountsAgree 22 = .ok (.invokevirtual 195, 3) := by decide +kernel
theorem dX6_panelCountsAgree_25 : decode cX6_panelCountsAgree 25 = .ok (.aload_n 0, 1) := by decide +kernel
theorem dX6_panelCountsAgree_26 : decode cX6_panelCountsAgree 26 = .ok (.getfield 40, 3) := by decide +kernel
theorem dX6_panelCountsAgree_29 : decode cX6_panelCountsAgree 29 = .ok (.aload_n 0, 1) := by decide +kernel
theorem dX6_panelCountsAgree_30 : decode cX6_panelCountsAgree 30 = .ok (.getfield 10, 3) := by decide +kernel
theorem dX6_panelCountsAgree_33 : decode cX6_panelCountsAgree 33 = .ok (.iload_n 1, 1) := by decide +kernel
theorem dX6_panelCountsAgree_34 : decode cX6_panelCountsAgree 34 = .ok (.invokevirtual 198, 3) := by decide +kernel
theorem dX6_panelCountsAgree_37 : decode cX6_panelCountsAgree 37 = .ok (.if_icmp .eq 5, 3) := by decide +kernel
theorem dX6_panelCountsAgree_40 : decode cX6_panelCountsAgree 40 = .ok (.iconst 0, 1) := by decide +kernel
theorem dX6_panelCountsAgree_41 : decode cX6_panelCountsAgree 41 = .ok (.ireturn, 1) := by decide +kernel
theorem dX6_panelCountsAgree_42 : decode cX6_panelCountsAgree 42 = .ok (.iinc 1 1, 3) := by decide +kernel
theorem dX6_panelCountsAgree_45 : decode cX6_panelCountsAgree 45 = .ok (.goto (-43), 3) := by decide +kernel
theorem dX6_panelCountsAgree_48 : decode cX6_panelCountsAgree 48 = .ok (.iconst 1, 1) := by decide +kernel
theorem dX6_panelCountsAgree_49 : decode cX6_panelCountsAgree 49 = .ok (.ireturn, 1) := by decide +kernel
theorem dX6_framesDiffer_0 : decode cX6_framesDiffer 0 = .ok (.iconst 0, 1) := by decide +kernel
theorem dX6_framesDiffer_1 : decode cX6_framesDiffer 1 = .ok (.istore_n 1, 1) := by decide +kernel
theorem dX6_framesDiffer_2 : decode cX6_framesDiffer 2 = .ok (.iload_n 1, 1) := by decide +kernel
theorem dX6_framesDiffer_3 : decode cX6_framesDiffer 3 = .ok (.aload_n 0, 1) := by decide +kernel
theorem dX6_framesDiffer_4 : decode cX6_framesDiffer 4 = .ok (.getfield 10, 3) := by decide +kernel
theorem dX6_framesDiffer_7 : decode cX6_framesDiffer 7 = .ok (.getfield 159, 3) := by decide +kernel
theorem dX6_framesDiffer_10 : decode cX6_framesDiffer 10 = .ok (.if_icmp .ge 63, 3) := by decide +kernel
theorem dX6_framesDiffer_13 : decode cX6_framesDiffer 13 = .ok (.iconst 0, 1) := by decide +kernel
theorem dX6_framesDiffer_14 : decode cX6_framesDiffer 14 = .ok (.istore_n 2, 1) := by decide +kernel
theorem dX6_framesDiffer_15 : decode cX6_framesDiffer 15 = .ok (.iload_n 2, 1) := by decide +kernel
theorem dX6_framesDiffer_16 : decode cX6_framesDiffer 16 = .ok (.aload_n 0, 1) := by decide +kernel
theorem dX6_framesDiffer_17 : decode cX6_framesDiffer 17 = .ok (.getfield 10, 3) := by decide +kernel
theorem dX6_framesDiffer_20 : decode cX6_framesDiffer 20 = .ok (.getfield 116, 3) := by decide +kernel
theorem dX6_framesDiffer_23 : decode cX6_framesDiffer 23 = .ok (.if_icmp .ge 44, 3) := by decide +kernel
theorem dX6_framesDiffer_26 : decode cX6_framesDiffer 26 = .ok (.aload_n 0, 1) := by decide +kernel
theorem dX6_framesDiffer_27 : decode cX6_framesDiffer 27 = .ok (.getfield 10, 3) := by decide +kernel
theorem dX6_framesDiffer_30 : decode cX6_framesDiffer 30 = .ok (.iload_n 1, 1) := by decide +kernel
theorem dX6_framesDiffer_31 : decode cX6_framesDiffer 31 = .ok (.iload_n 2, 1) := by decide +kernel
theorem dX6_framesDiffer_32 : decode cX6_framesDiffer 32 = .ok (.invokevirtual 181, 3) := by decide +kernel
theorem dX6_framesDiffer_35 : decode cX6_framesDiffer 35 = .ok (.ifCond .eq 26, 3) := by decide +kernel
theorem dX6_framesDiffer_38 : decode cX6_framesDiffer 38 = .ok (.aload_n 0, 1) := by decide +kernel
theorem dX6_framesDiffer_39 : decode cX6_framesDiffer 39 = .ok (.getfield 10, 3) := by decide +kernel
theorem dX6_framesDiffer_42 : decode cX6_framesDiffer 42 = .ok (.getfield 165, 3) := by decide +kernel
theorem dX6_framesDiffer_45 : decode cX6_framesDiffer 45 = .ok (.iload_n 1, 1) := by decide +kernel
theorem dX6_framesDiffer_46 : decode cX6_framesDiffer 46 = .ok (.caload, 1) := by decide +kernel
theorem dX6_framesDiffer_47 : decode cX6_framesDiffer 47 = .ok (.aload_n 0, 1) := by decide +kernel
theorem dX6_framesDiffer_48 : decode cX6_framesDiffer 48 = .ok (.getfield 10, 3) := by decide +kernel
theorem dX6_framesDiffer_51 : decode cX6_framesDiffer 51 = .ok (.getfield 123, 3) := by decide +kernel
theorem dX6_framesDiffer_54 : decode cX6_framesDiffer 54 = .ok (.iload_n 2, 1) := by decide +kernel
theorem dX6_framesDiffer_55 : decode cX6_framesDiffer 55 = .ok (.caload, 1) := by decide +kernel
theorem dX6_framesDiffer_56 : decode cX6_framesDiffer 56 = .ok (.if_icmp .ne 5, 3) := by decide +kernel
theorem dX6_framesDiffer_59 : decode cX6_framesDiffer 59 = .ok (.iconst 0, 1) := by decide +kernel
theorem dX6_framesDiffer_60 : decode cX6_framesDiffer 60 = .ok (.ireturn, 1) := by decide +kernel
theorem dX6_framesDiffer_61 : decode cX6_framesDiffer 61 = .ok (.iinc 2 1, 3) := by decide +kernel
theorem dX6_framesDiffer_64 : decode cX6_framesDiffer 64 = .ok (.goto (-49), 3) := by decide +kernel
theorem dX6_framesDiffer_67 : decode cX6_framesDiffer 67 = .ok (.iinc 1 1, 3) := by decide +kernel
theorem dX6_framesDiffer_70 : decode cX6_framesDiffer 70 = .ok (.goto (-68), 3) := by decide +kernel
theorem dX6_framesDiffer_73 : decode cX6_framesDiffer 73 = .ok (.iconst 1, 1) := by decide +kernel
theorem dX6_framesDiffer_74 : decode cX6_framesDiffer 74 = .ok (.ireturn, 1) := by decide +kernel
theorem dX6_perform_0 : decode cX6_perform 0 = .ok (.aload_n 2, 1) := by decide +kernel
theorem dX6_perform_1 : decode cX6_perform 1 = .ok (.iconst 0, 1) := by decide +kernel
theorem dX6_perform_2 : decode cX6_perform 2 = .ok (.iaload, 1) := by decide +kernel
theorem dX6_perform_3 : decode cX6_perform 3 = .ok (.istore_n 3, 1) := by decide +kernel
theorem dX6_perform_4 : decode cX6_perform 4 = .ok (.aload_n 2, 1) := by decide +kernel
theorem dX6_perform_5 : decode cX6_perform 5 = .ok (.iconst 1, 1) := by decide +kernel
theorem dX6_perform_6 : decode cX6_perform 6 = .ok (.iaload, 1) := by decide +kernel
theorem dX6_perform_7 : decode cX6_perform 7 = .ok (.istore 4, 2) := by decide +kernel
theorem dX6_perform_9 : decode cX6_perform 9 = .ok (.aload_n 2, 1) := by decide +kernel
theorem dX6_perform_10 : decode cX6_perform 10 = .ok (.iconst 2, 1) := by decide +kernel
theorem dX6_perform_11 : decode cX6_perform 11 = .ok (.iaload, 1) := by decide +kernel
theorem dX6_perform_12 : decode cX6_perform 12 = .ok (.istore 5, 2) := by decide +kernel
theorem dX6_perform_14 : decode cX6_perform 14 = .ok (.iload_n 1, 1) := by decide +kernel
theorem dX6_perform_15 : decode cX6_perform 15 = .ok (.tableswitch 170 0 8 #[49, 61, 78, 89, 100, 126, 139, 148, 161], 49) := by decide +kernel
theorem dX6_perform_64 : decode cX6_perform 64 = .ok (.aload_n 0, 1) := by decide +kernel
theorem dX6_perform_65 : decode cX6_perform 65 = .ok (.getfield 10, 3) := by decide +kernel
theorem dX6_perform_68 : decode cX6_perform 68 = .ok (.iload_n 3, 1) := by decide +kernel
theorem dX6_perform_69 : decode cX6_perform 69 = .ok (.i2c, 1) := by decide +kernel
theorem dX6_perform_70 : decode cX6_perform 70 = .ok (.iload 4, 2) := by decide +kernel
theorem dX6_perform_72 : decode cX6_perform 72 = .ok (.invokevirtual 69, 3) := by decide +kernel
theorem dX6_perform_75 : decode cX6_perform 75 = .ok (.ireturn, 1) := by decide +kernel
theorem dX6_perform_76 : decode cX6_perform 76 = .ok (.aload_n 0, 1) := by decide +kernel
theorem dX6_perform_77 : decode cX6_perform 77 = .ok (.getfield 10, 3) := by decide +kernel
theorem dX6_perform_80 : decode cX6_perform 80 = .ok (.iload_n 3, 1) := by decide +kernel
theorem dX6_perform_81 : decode cX6_perform 81 = .ok (.i2c, 1) := by decide +kernel
theorem dX6_perform_82 : decode cX6_perform 82 = .ok (.iload 4, 2) := by decide +kernel
theorem dX6_perform_84 : decode cX6_perform 84 = .ok (.iload 5, 2) := by decide +kernel
theorem dX6_perform_86 : decode cX6_perform 86 = .ok (.aload_n 2, 1) := by decide +kernel
theorem dX6_perform_87 : decode cX6_perform 87 = .ok (.iconst 3, 1) := by decide +kernel
theorem dX6_perform_88 : decode cX6_perform 88 = .ok (.iaload, 1) := by decide +kernel
theorem dX6_perform_89 : decode cX6_perform 89 = .ok (.invokevirtual 77, 3) := by decide +kernel
theorem dX6_perform_92 : decode cX6_perform 92 = .ok (.ireturn, 1) := by decide +kernel
theorem dX6_perform_93 : decode cX6_perform 93 = .ok (.aload_n 0, 1) := by decide +kernel
theorem dX6_perform_94 : decode cX6_perform 94 = .ok (.getfield 10, 3) := by decide +kernel
theorem dX6_perform_97 : decode cX6_perform 97 = .ok (.iload_n 3, 1) := by decide +kernel
theorem dX6_perform_98 : decode cX6_perform 98 = .ok (.iload 4, 2) := by decide +kernel
theorem dX6_perform_100 : decode cX6_perform 100 = .ok (.invokevirtual 81, 3) := by decide +kernel
theorem dX6_perform_103 : decode cX6_perform 103 = .ok (.ireturn, 1) := by decide +kernel
theorem dX6_perform_104 : decode cX6_perform 104 = .ok (.aload_n 0, 1) := by decide +kernel
theorem dX6_perform_105 : decode cX6_perform 105 = .ok (.getfield 10, 3) := by decide +kernel
theorem dX6_perform_108 : decode cX6_perform 108 = .ok (.iload_n 3, 1) := by decide +kernel
theorem dX6_perform_109 : decode cX6_perform 109 = .ok (.iload 4, 2) := by decide +kernel
theorem dX6_perform_111 : decode cX6_perform 111 = .ok (.invokevirtual 85, 3) := by decide +kernel
theorem dX6_perform_114 : decode cX6_perform 114 = .ok (.ireturn, 1) := by decide +kernel
theorem dX6_perform_115 : decode cX6_perform 115 = .ok (.aload_n 0, 1) := by decide +kernel
theorem dX6_perform_116 : decode cX6_perform 116 = .ok (.getfield 33, 3) := by decide +kernel
