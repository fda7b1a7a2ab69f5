theorem dX6_requireEntry_11 : decode cX6_requireEntry 11 = .ok (.new 319, 3) := by decide +kernel
theorem dX6_requireEntry_14 : decode cX6_requireEntry 14 = .ok (.dup, 1) := by decide +kernel
theorem dX6_requireEntry_15 : decode cX6_requireEntry 15 = .ok (.invokespecial 321, 3) := by decide +kernel
theorem dX6_requireEntry_18 : decode cX6_requireEntry 18 = .ok (.athrow, 1) := by decide +kernel
theorem dX6_requireEntry_19 : decode cX6_requireEntry 19 = .ok (.return_, 1) := by decide +kernel
theorem dX6_requireThere_0 : decode cX6_requireThere 0 = .ok (.iload_n 0, 1) := by decide +kernel
theorem dX6_requireThere_1 : decode cX6_requireThere 1 = .ok (.iconst (-1), 1) := by decide +kernel
theorem dX6_requireThere_2 : decode cX6_requireThere 2 = .ok (.if_icmp .ne 11, 3) := by decide +kernel
theorem dX6_requireThere_5 : decode cX6_requireThere 5 = .ok (.new 319, 3) := by decide +kernel
theorem dX6_requireThere_8 : decode cX6_requireThere 8 = .ok (.dup, 1) := by decide +kernel
theorem dX6_requireThere_9 : decode cX6_requireThere 9 = .ok (.invokespecial 321, 3) := by decide +kernel
theorem dX6_requireThere_12 : decode cX6_requireThere 12 = .ok (.athrow, 1) := by decide +kernel
theorem dX6_requireThere_13 : decode cX6_requireThere 13 = .ok (.iload_n 0, 1) := by decide +kernel
theorem dX6_requireThere_14 : decode cX6_requireThere 14 = .ok (.ireturn, 1) := by decide +kernel
theorem dX6_panelCountsAgree_0 : decode cX6_panelCountsAgree 0 = .ok (.iconst 0, 1) := by decide +kernel
theorem dX6_panelCountsAgree_1 : decode cX6_panelCountsAgree 1 = .ok (.istore_n 1, 1) := by decide +kernel
theorem dX6_panelCountsAgree_2 : decode cX6_panelCountsAgree 2 = .ok (.iload_n 1, 1) := by decide +kernel
theorem dX6_panelCountsAgree_3 : decode cX6_panelCountsAgree 3 = .ok (.aload_n 0, 1) := by decide +kernel
theorem dX6_panelCountsAgree_4 : decode cX6_panelCountsAgree 4 = .ok (.getfield 10, 3) := by decide +kernel
theorem dX6_panelCountsAgree_7 : decode cX6_panelCountsAgree 7 = .ok (.getfield 116, 3) := by decide +kernel
theorem dX6_panelCountsAgree_10 : decode cX6_panelCountsAgree 10 = .ok (.if_icmp .ge 38, 3) := by decide +kernel
theorem dX6_panelCountsAgree_13 : decode cX6_panelCountsAgree 13 = .ok (.aload_n 0, 1) := by decide +kernel
theorem dX6_panelCountsAgree_14 : decode cX6_panelCountsAgree 14 = .ok (.getfield 40, 3) := by decide +kernel
theorem dX6_panelCountsAgree_17 : decode cX6_panelCountsAgree 17 = .ok (.aload_n 0, 1) := by decide +kernel
theorem dX6_panelCountsAgree_18 : decode cX6_panelCountsAgree 18 = .ok (.getfield 10, 3) := by decide +kernel
theorem dX6_panelCountsAgree_21 : decode cX6_panelCountsAgree 21 = .ok (.iload_n 1, 1) := by decide +kernel
theorem dX6_panelCountsAgree_22 : decode cX6_panelCountsAgree 22 = .ok (.invokevirtual 195, 3) := by decide +kernel
theorem dX6_panelCountsAgree_25 : decode cX6_panelCountsAgree 25 = .ok (.aload_n 0, 1) := by decide +kernel
theorem dX6_panelCountsAgree_26 : decode cX6_panelCountsAgree 26 = .ok (.getfield 40, 3) := by decide +kernel
theorem dX6_panelCountsAgree_29 : decode cX6_panelCountsAgree 29 = .ok (.aload_n 0, 1) := by decide +kernel
theorem dX6_panelCountsAgree_30 : decode cX6_panelCountsAgree 30 = .ok (.getfield 10, 3) := by decide +kernel
theorem dX6_panelCountsAgree_33 : decode cX6_panelCountsAgree 33 = .ok (.iload_n 1, 1) := by decide +kernel
theorem dX6_panelCountsAgree_34 : decode cX6_panelCountsAgree 34 = .ok (.invokevirtual 198, 3) := by decide +kernel
theorem dX6_panelCountsAgree_37 : decode cX6_panelCountsAgree 37 = .ok (.if_icmp .eq 5, 3) := by decide +kernel
theorem dX6_panelCountsAgree_40 : decode cX6_panelCountsAgree 40 = .ok (.iconst 0, 1) := by decide +kernel
theorem dX6_panelCountsAgree_41 : decode cX6_panelCountsAgree 41 = .ok (.ireturn, 1) := by decide +kernel
theorem dX6_panelCountsAgree_42 : decode cX6_panelCountsAgree 42 = .ok (.iinc 1 1, 3) := by decide +kernel
theorem dX6_panelCountsAgree_45 : decode cX6_panelCountsAgree 45 = .ok (.goto (-43), 3) := by decide +kernel
theorem dX6_panelCountsAgree_48 : decode cX6_panelCountsAgree 48 = .ok (.iconst 1, 1) := by decide +kernel
theorem dX6_panelCountsAgree_49 : decode cX6_panelCountsAgree 49 = .ok (.ireturn, 1) := by decide +kernel
theorem dX6_framesDiffer_0 : decode cX6_framesDiffer 0 = .ok (.iconst 0, 1) := by decide +kernel
theorem dX6_framesDiffer_1 : decode cX6_framesDiffer 1 = .ok (.istore_n 1, 1) := by decide +kernel
theorem dX6_framesDiffer_2 : decode cX6_framesDiffer 2 = .ok (.iload_n 1, 1) := by decide +kernel
theorem dX6_framesDiffer_3 : decode cX6_framesDiffer 3 = .ok (.aload_n 0, 1) := by decide +kernel
theorem dX6_framesDiffer_4 : decode cX6_framesDiffer 4 = .ok (.getfield 10, 3) := by decide +kernel
theorem dX6_framesDiffer_7 : decode cX6_framesDiffer 7 = .ok (.getfield 159, 3) := by decide +kernel
theorem dX6_framesDiffer_10 : decode cX6_framesDiffer 10 = .ok (.if_icmp .ge 63, 3) := by decide +kernel
theorem dX6_framesDiffer_13 : decode cX6_framesDiffer 13 = .ok (.iconst 0, 1) := by decide +kernel
theorem dX6_framesDiffer_14 : decode cX6_framesDiffer 14 = .ok (.istore_n 2, 1) := by decide +kernel
theorem dX6_framesDiffer_15 : decode cX6_framesDiffer 15 = .ok (.iload_n 2, 1) := by decide +kernel
theorem dX6_framesDiffer_16 : decode cX6_framesDiffer 16 = .ok (.aload_n 0, 1) := by decide +kernel
theorem dX6_framesDiffer_17 : decode cX6_framesDiffer 17 = .ok (.getfield 10, 3) := by decide +kernel
theorem dX6_framesDiffer_20 : decode cX6_framesDiffer 20 = .ok (.getfield 116, 3) := by decide +kernel
theorem dX6_framesDiffer_23 : decode cX6_framesDiffer 23 = .ok (.if_icmp .ge 44, 3) := by decide +kernel
theorem dX6_framesDiffer_26 : decode cX6_framesDiffer 26 = .ok (.aload_n 0, 1) := by decide +kernel
theorem dX6_framesDiffer_27 : decode cX6_framesDiffer 27 = .ok (.getfield 10, 3) := by decide +kernel
theorem dX6_framesDiffer_30 : decode cX6_framesDiffer 30 = .ok (.iload_n 1, 1) := by decide +kernel
theorem dX6_framesDiffer_31 : decode cX6_framesDiffer 31 = .ok (.iload_n 2, 1) := by decide +kernel
theorem dX6_framesDiffer_32 : decode cX6_framesDiffer 32 = .ok (.invokevirtual 181, 3) := by decide +kernel
theorem dX6_framesDiffer_35 : decode cX6_framesDiffer 35 = .ok (.ifCond .eq 26, 3) := by decide +kernel
theorem dX6_framesDiffer_38 : decode cX6_framesDiffer 38 = .ok (.aload_n 0, 1) := by decide +kernel
theorem dX6_framesDiffer_39 : decode cX6_framesDiffer 39 = .ok (.getfield 10, 3) := by decide +kernel
theorem dX6_framesDiffer_42 : decode cX6_framesDiffer 42 = .ok (.getfield 165, 3) := by decide +kernel
theorem dX6_framesDiffer_45 : decode cX6_framesDiffer 45 = .ok (.iload_n 1, 1) := by decide +kernel
theorem dX6_framesDiffer_46 : decode cX6_framesDiffer 46 = .ok (.caload, 1) := by decide +kernel
theorem dX6_framesDiffer_47 : decode cX6_framesDiffer 47 = .ok (.aload_n 0, 1) := by decide +kernel
theorem dX6_framesDiffer_48 : decode cX6_framesDiffer 48 = .ok (.getfield 10, 3) := by decide +kernel
theorem dX6_framesDiffer_51 : decode cX6_framesDiffer 51 = .ok (.getfield 123, 3) := by decide +kernel
theorem dX6_framesDiffer_54 : decode cX6_framesDiffer 54 = .ok (.iload_n 2, 1) := by decide +kernel
theorem dX6_framesDiffer_55 : decode cX6_framesDiffer 55 = .ok (.caload, 1) := by decide +kernel
theorem dX6_framesDiffer_56 : decode cX6_framesDiffer 56 = .ok (.if_icmp .ne 5, 3) := by decide +kernel
theorem dX6_framesDiffer_59 : decode cX6_framesDiffer 59 = .ok (.iconst 0, 1) := by decide +kernel
theorem dX6_framesDiffer_60 : decode cX6_framesDiffer 60 = .ok (.ireturn, 1) := by decide +kernel
theorem dX6_framesDiffer_61 : decode cX6_framesDiffer 61 = .ok (.iinc 2 1, 3) := by decide +kernel
theorem dX6_framesDiffer_64 : decode cX6_framesDiffer 64 = .ok (.goto (-49), 3) := by decide +kernel
theorem dX6_framesDiffer_67 : decode cX6_framesDiffer 67 = .ok (.iinc 1 1, 3) := by decide +kernel
theorem dX6_framesDiffer_70 : decode cX6_framesDiffer 70 = .ok (.goto (-68), 3) := by decide +kernel
theorem dX6_framesDiffer_73 : decode cX6_framesDiffer 73 = .ok (.iconst 1, 1) := by decide +kernel
theorem dX6_framesDiffer_74 : decode cX6_framesDiffer 74 = .ok (.ireturn, 1) := by decide +kernel
theorem dX6_perform_0 : decode cX6_perform 0 = .ok (.aload_n 2, 1) := by decide +kernel
theorem dX6_perform_1 : decode cX6_perform 1 = .ok (.iconst 0, 1) := by decide +kernel
theorem dX6_perform_2 : decode cX6_perform 2 = .ok (.iaload, 1) := by decide +kernel
theorem dX6_perform_3 : decode cX6_perform 3 = .ok (.istore_n 3, 1) := by decide +kernel
theorem dX6_perform_4 : decode cX6_perform 4 = .ok (.aload_n 2, 1) := by decide +kernel
theorem dX6_perform_5 : decode cX6_perform 5 = .ok (.iconst 1, 1) := by decide +kernel
theorem dX6_perform_6 : decode cX6_perform 6 = .ok (.iaload, 1) := by decide +kernel
theorem dX6_perform_7 : decode cX6_perform 7 = .ok (.istore 4, 2) := by decide +kernel
theorem dX6_perform_9 : decode cX6_perform 9 = .ok (.aload_n 2, 1) := by decide +kernel
theorem dX6_perform_10 : decode cX6_perform 10 = .ok (.iconst 2, 1) := by decide +kernel
theorem dX6_perform_11 : decode cX6_perform 11 = .ok (.iaload, 1) := by decide +kernel
theorem dX6_perform_12 : decode cX6_perform 12 = .ok (.istore 5, 2) := by decide +kernel
theorem dX6_perform_14 : decode cX6_perform 14 = .ok (.iload_n 1, 1) := by decide +kernel
theorem dX6_perform_15 : decode cX6_perform 15 = .ok (.tableswitch 170 0 8 #[49, 61, 78, 89, 100, 126, 139, 148, 161], 49) := by decide +kernel
theorem dX6_perform_64 : decode cX6_perform 64 = .ok (.aload_n 0, 1) := by decide +kernel
theorem dX6_perform_65 : decode cX6_perform 65 = .ok (.getfield 10, 3) := by decide +kernel
theorem dX6_perform_68 : decode cX6_perform 68 = .ok (.iload_n 3, 1) := by decide +kernel
theorem dX6_perform_69 : decode cX6_perform 69 = .ok (.i2c, 1) := by decide +kernel
theorem dX6_perform_70 : decode cX6_perform 70 = .ok (.iload 4, 2) := by decide +kernel
theorem dX6_perform_72 : decode cX6_perform 72 = .ok (.invokevirtual 69, 3) := by decide +kernel
theorem dX6_perform_75 : decode cX6_perform 75 = .ok (.ireturn, 1) := by decide +kernel
theorem dX6_perform_76 : decode cX6_perform 76 = .ok (.aload_n 0, 1) := by decide +kernel
theorem dX6_perform_77 : decode cX6_perform 77 = .ok (.getfield 10, 3) := by decide +kernel
theorem dX6_perform_80 : decode cX6_perform 80 = .ok (.iload_n 3, 1) := by decide +kernel
theorem dX6_perform_81 : decode cX6_perform 81 = .ok (.i2c, 1) := by decide +kernel
theorem dX6_perform_82 : decode cX6_perform 82 = .ok (.iload 4, 2) := by decide +kernel
theorem dX6_perform_84 : decode cX6_perform 84 = .ok (.iload 5, 2) := by decide +kernel
theorem dX6_perform_86 : decode cX6_perform 86 = .ok (.aload_n 2, 1) := by decide +kernel
theorem dX6_perform_87 : decode cX6_perform 87 = .ok (.iconst 3, 1) := by decide +kernel
theorem dX6_perform_88 : decode cX6_perform 88 = .ok (.iaload, 1) := by decide +kernel
theorem dX6_perform_89 : decode cX6_perform 89 = .ok (.invokevirtual 77, 3) := by decide +kernel
theorem dX6_perform_92 : decode cX6_perform 92 = .ok (.ireturn, 1) := by decide +kernel
theorem dX6_perform_93 : decode cX6_perform 93 = .ok (.aload_n 0, 1) := by decide +kernel
theorem dX6_perform_94 : decode cX6_perform 94 = .ok (.getfield 10, 3) := by decide +kernel
theorem dX6_perform_97 : decode cX6_perform 97 = .ok (.iload_n 3, 1) := by decide +kernel
theorem dX6_perform_98 : decode cX6_perform 98 = .ok (.iload 4, 2) := by decide +kernel
theorem dX6_perform_100 : decode cX6_perform 100 = .ok (.invokevirtual 81, 3) := by decide +kernel
theorem dX6_perform_103 : decode cX6_perform 103 = .ok (.ireturn, 1) := by decide +kernel
theorem dX6_perform_104 : decode cX6_perform 104 = .ok (.aload_n 0, 1) := by decide +kernel
theorem dX6_perform_105 : decode cX6_perform 105 = .ok (.getfield 10, 3) := by decide +kernel
theorem dX6_perform_108 : decode cX6_perform 108 = .ok (.iload_n 3, 1) := by decide +kernel
theorem dX6_perform_109 : decode cX6_perform 109 = .ok (.iload 4, 2) := by decide +kernel
theorem dX6_perform_111 : decode cX6_perform 111 = .ok (.invokevirtual 85, 3) := by decide +kernel
theorem dX6_perform_114 : decode cX6_perform 114 = .ok (.ireturn, 1) := by decide +kernel
theorem dX6_perform_115 : decode cX6_perform 115 = .ok (.aload_n 0, 1) := by decide +kernel
theorem dX6_perform_116 : decode cX6_perform 116 = .ok (.getfield 33, 3) := by decide +kernel
theorem dX6_perform_119 : decode cX6_perform 119 = .ok (.aload_n 0, 1) := by decide +kernel
theorem dX6_perform_120 : decode cX6_perform 120 = .ok (.getfield 10, 3) := by decide +kernel
theorem dX6_perform_123 : decode cX6_perform 123 = .ok (.invokevirtual 88, 3) := by decide +kernel
theorem dX6_perform_126 : decode cX6_perform 126 = .ok (.aload_n 0, 1) := by decide +kernel
theorem dX6_perform_127 : decode cX6_perform 127 = .ok (.getfield 10, 3) := by decide +kernel
theorem dX6_perform_130 : decode cX6_perform 130 = .ok (.aload_n 0, 1) := by decide +kernel
theorem dX6_perform_131 : decode cX6_perform 131 = .ok (.getfield 33, 3) := by decide +kernel
theorem dX6_perform_134 : decode cX6_perform 134 = .ok (.getfield 91, 3) := by decide +kernel
theorem dX6_perform_137 : decode cX6_perform 137 = .ok (.invokevirtual 95, 3) := by decide +kernel
theorem dX6_perform_140 : decode cX6_perform 140 = .ok (.ireturn, 1) := by decide +kernel
theorem dX6_perform_141 : decode cX6_perform 141 = .ok (.aload_n 0, 1) := by decide +kernel
theorem dX6_perform_142 : decode cX6_perform 142 = .ok (.getfield 10, 3) := by decide +kernel
theorem dX6_perform_145 : decode cX6_perform 145 = .ok (.iload_n 3, 1) := by decide +kernel
theorem dX6_perform_146 : decode cX6_perform 146 = .ok (.iload 4, 2) := by decide +kernel
theorem dX6_perform_148 : decode cX6_perform 148 = .ok (.iload 5, 2) := by decide +kernel
theorem dX6_perform_150 : decode cX6_perform 150 = .ok (.invokevirtual 99, 3) := by decide +kernel
theorem dX6_perform_153 : decode cX6_perform 153 = .ok (.ireturn, 1) := by decide +kernel
theorem dX6_perform_154 : decode cX6_perform 154 = .ok (.aload_n 0, 1) := by decide +kernel
theorem dX6_perform_155 : decode cX6_perform 155 = .ok (.getfield 10, 3) := by decide +kernel
theorem dX6_perform_158 : decode cX6_perform 158 = .ok (.iload_n 3, 1) := by decide +kernel
theorem dX6_perform_159 : decode cX6_perform 159 = .ok (.invokevirtual 103, 3) := by decide +kernel
theorem dX6_perform_162 : decode cX6_perform 162 = .ok (.ireturn, 1) := by decide +kernel
theorem dX6_perform_163 : decode cX6_perform 163 = .ok (.aload_n 0, 1) := by decide +kernel
theorem dX6_perform_164 : decode cX6_perform 164 = .ok (.getfield 40, 3) := by decide +kernel
theorem dX6_perform_167 : decode cX6_perform 167 = .ok (.aload_n 0, 1) := by decide +kernel
theorem dX6_perform_168 : decode cX6_perform 168 = .ok (.getfield 10, 3) := by decide +kernel
theorem dX6_perform_171 : decode cX6_perform 171 = .ok (.iload_n 3, 1) := by decide +kernel
theorem dX6_perform_172 : decode cX6_perform 172 = .ok (.invokevirtual 106, 3) := by decide +kernel
theorem dX6_perform_175 : decode cX6_perform 175 = .ok (.ireturn, 1) := by decide +kernel
theorem dX6_perform_176 : decode cX6_perform 176 = .ok (.aload_n 0, 1) := by decide +kernel
theorem dX6_perform_177 : decode cX6_perform 177 = .ok (.getfield 10, 3) := by decide +kernel
theorem dX6_perform_180 : decode cX6_perform 180 = .ok (.iload_n 3, 1) := by decide +kernel
theorem dX6_perform_181 : decode cX6_perform 181 = .ok (.invokevirtual 110, 3) := by decide +kernel
theorem dX6_perform_184 : decode cX6_perform 184 = .ok (.ireturn, 1) := by decide +kernel
theorem dX6_perform_185 : decode cX6_perform 185 = .ok (.aload_n 0, 1) := by decide +kernel
theorem dX6_perform_186 : decode cX6_perform 186 = .ok (.getfield 10, 3) := by decide +kernel
theorem dX6_perform_189 : decode cX6_perform 189 = .ok (.iload_n 3, 1) := by decide +kernel
theorem dX6_perform_190 : decode cX6_perform 190 = .ok (.invokevirtual 113, 3) := by decide +kernel
theorem dX6_perform_193 : decode cX6_perform 193 = .ok (.ireturn, 1) := by decide +kernel
theorem dX6_isFrame_0 : decode cX6_isFrame 0 = .ok (.iload_n 0, 1) := by decide +kernel
theorem dX6_isFrame_1 : decode cX6_isFrame 1 = .ok (.bipush 97, 2) := by decide +kernel
theorem dX6_isFrame_3 : decode cX6_isFrame 3 = .ok (.if_icmp .lt 13, 3) := by decide +kernel
theorem dX6_isFrame_6 : decode cX6_isFrame 6 = .ok (.iload_n 0, 1) := by decide +kernel
theorem dX6_isFrame_7 : decode cX6_isFrame 7 = .ok (.bipush 102, 2) := by decide +kernel
theorem dX6_isFrame_9 : decode cX6_isFrame 9 = .ok (.if_icmp .gt 7, 3) := by decide +kernel
theorem dX6_isFrame_12 : decode cX6_isFrame 12 = .ok (.iconst 1, 1) := by decide +kernel
theorem dX6_isFrame_13 : decode cX6_isFrame 13 = .ok (.goto 4, 3) := by decide +kernel
theorem dX6_isFrame_16 : decode cX6_isFrame 16 = .ok (.iconst 0, 1) := by decide +kernel
theorem dX6_isFrame_17 : decode cX6_isFrame 17 = .ok (.ireturn, 1) := by decide +kernel
theorem dX6_contains_0 : decode cX6_contains 0 = .ok (.iload_n 0, 1) := by decide +kernel
theorem dX6_contains_1 : decode cX6_contains 1 = .ok (.iload_n 1, 1) := by decide +kernel
theorem dX6_contains_2 : decode cX6_contains 2 = .ok (.ishr, 1) := by decide +kernel
theorem dX6_contains_3 : decode cX6_contains 3 = .ok (.iconst 1, 1) := by decide +kernel
theorem dX6_contains_4 : decode cX6_contains 4 = .ok (.iand, 1) := by decide +kernel
theorem dX6_contains_5 : decode cX6_contains 5 = .ok (.iconst 1, 1) := by decide +kernel
theorem dX6_contains_6 : decode cX6_contains 6 = .ok (.if_icmp .ne 7, 3) := by decide +kernel
theorem dX6_contains_9 : decode cX6_contains 9 = .ok (.iconst 1, 1) := by decide +kernel
theorem dX6_contains_10 : decode cX6_contains 10 = .ok (.goto 4, 3) := by decide +kernel
theorem dX6_contains_13 : decode cX6_contains 13 = .ok (.iconst 0, 1) := by decide +kernel
theorem dX6_contains_14 : decode cX6_contains 14 = .ok (.ireturn, 1) := by decide +kernel
theorem dX6_memberAt_0 : decode cX6_memberAt 0 = .ok (.iconst 0, 1) := by decide +kernel
theorem dX6_memberAt_1 : decode cX6_memberAt 1 = .ok (.istore_n 2, 1) := by decide +kernel
theorem dX6_memberAt_2 : decode cX6_memberAt 2 = .ok (.iconst 0, 1) := by decide +kernel
theorem dX6_memberAt_3 : decode cX6_memberAt 3 = .ok (.istore_n 3, 1) := by decide +kernel
theorem dX6_memberAt_4 : decode cX6_memberAt 4 = .ok (.iload_n 3, 1) := by decide +kernel
theorem dX6_memberAt_5 : decode cX6_memberAt 5 = .ok (.bipush 6, 2) := by decide +kernel
theorem dX6_memberAt_7 : decode cX6_memberAt 7 = .ok (.if_icmp .ge 27, 3) := by decide +kernel
theorem dX6_memberAt_10 : decode cX6_memberAt 10 = .ok (.iload_n 0, 1) := by decide +kernel
theorem dX6_memberAt_11 : decode cX6_memberAt 11 = .ok (.iload_n 3, 1) := by decide +kernel
theorem dX6_memberAt_12 : decode cX6_memberAt 12 = .ok (.invokestatic 149, 3) := by decide +kernel
theorem dX6_memberAt_15 : decode cX6_memberAt 15 = .ok (.ifCond .eq 13, 3) := by decide +kernel
theorem dX6_memberAt_18 : decode cX6_memberAt 18 = .ok (.iload_n 2, 1) := by decide +kernel
theorem dX6_memberAt_19 : decode cX6_memberAt 19 = .ok (.iload_n 1, 1) := by decide +kernel
theorem dX6_memberAt_20 : decode cX6_memberAt 20 = .ok (.if_icmp .ne 5, 3) := by decide +kernel
theorem dX6_memberAt_23 : decode cX6_memberAt 23 = .ok (.iload_n 3, 1) := by decide +kernel
theorem dX6_memberAt_24 : decode cX6_memberAt 24 = .ok (.ireturn, 1) := by decide +kernel
theorem dX6_memberAt_25 : decode cX6_memberAt 25 = .ok (.iinc 2 1, 3) := by decide +kernel
theorem dX6_memberAt_28 : decode cX6_memberAt 28 = .ok (.iinc 3 1, 3) := by decide +kernel
theorem dX6_memberAt_31 : decode cX6_memberAt 31 = .ok (.goto (-27), 3) := by decide +kernel
theorem dX6_memberAt_34 : decode cX6_memberAt 34 = .ok (.iconst (-1), 1) := by decide +kernel
theorem dX6_memberAt_35 : decode cX6_memberAt 35 = .ok (.ireturn, 1) := by decide +kernel
theorem dX7_init_0 : decode cX7_init 0 = .ok (.aload_n 0, 1) := by decide +kernel
theorem dX7_init_1 : decode cX7_init 1 = .ok (.invokespecial 3, 3) := by decide +kernel
theorem dX7_init_4 : decode cX7_init 4 = .ok (.aload_n 0, 1) := by decide +kernel
theorem dX7_init_5 : decode cX7_init 5 = .ok (.sipush 228, 3) := by decide +kernel
theorem dX7_init_8 : decode cX7_init 8 = .ok (.newarray .int, 2) := by decide +kernel
theorem dX7_init_10 : decode cX7_init 10 = .ok (.putfield 9, 3) := by decide +kernel
theorem dX7_init_13 : decode cX7_init 13 = .ok (.aload_n 0, 1) := by decide +kernel
theorem dX7_init_14 : decode cX7_init 14 = .ok (.sipush 228, 3) := by decide +kernel
theorem dX7_init_17 : decode cX7_init 17 = .ok (.newarray .int, 2) := by decide +kernel
theorem dX7_init_19 : decode cX7_init 19 = .ok (.putfield 13, 3) := by decide +kernel
theorem dX7_init_22 : decode cX7_init 22 = .ok (.aload_n 0, 1) := by decide +kernel
theorem dX7_init_23 : decode cX7_init 23 = .ok (.sipush 228, 3) := by decide +kernel
theorem dX7_init_26 : decode cX7_init 26 = .ok (.newarray .int, 2) := by decide +kernel
theorem dX7_init_28 : decode cX7_init 28 = .ok (.putfield 16, 3) := by decide +kernel
theorem dX7_init_31 : decode cX7_init 31 = .ok (.aload_n 0, 1) := by decide +kernel
theorem dX7_init_32 : decode cX7_init 32 = .ok (.sipush 1824, 3) := by decide +kernel
theorem dX7_init_35 : decode cX7_init 35 = .ok (.newarray .int, 2) := by decide +kernel
theorem dX7_init_37 : decode cX7_init 37 = .ok (.putfield 19, 3) := by decide +kernel
theorem dX7_init_40 : decode cX7_init 40 = .ok (.aload_n 0, 1) := by decide +kernel
theorem dX7_init_41 : decode cX7_init 41 = .ok (.bipush 6, 2) := by decide +kernel
theorem dX7_init_43 : decode cX7_init 43 = .ok (.newarray .int, 2) := by decide +kernel
theorem dX7_init_45 : decode cX7_init 45 = .ok (.putfield 22, 3) := by decide +kernel
theorem dX7_init_48 : decode cX7_init 48 = .ok (.aload_n 0, 1) := by decide +kernel
theorem dX7_init_49 : decode cX7_init 49 = .ok (.bipush 24, 2) := by decide +kernel
theorem dX7_init_51 : decode cX7_init 51 = .ok (.newarray .int, 2) := by decide +kernel
theorem dX7_init_53 : decode cX7_init 53 = .ok (.putfield 25, 3) := by decide +kernel
theorem dX7_init_56 : decode cX7_init 56 = .ok (.aload_n 0, 1) := by decide +kernel
theorem dX7_init_57 : decode cX7_init 57 = .ok (.bipush 6, 2) := by decide +kernel
theorem dX7_init_59 : decode cX7_init 59 = .ok (.newarray .boolean, 2) := by decide +kernel
theorem dX7_init_61 : decode cX7_init 61 = .ok (.putfield 28, 3) := by decide +kernel
theorem dX7_init_64 : decode cX7_init 64 = .ok (.aload_n 0, 1) := by decide +kernel
theorem dX7_init_65 : decode cX7_init 65 = .ok (.bipush 8, 2) := by decide +kernel
theorem dX7_init_67 : decode cX7_init 67 = .ok (.newarray .int, 2) := by decide +kernel
theorem dX7_init_69 : decode cX7_init 69 = .ok (.putfield 32, 3) := by decide +kernel
theorem dX7_init_72 : decode cX7_init 72 = .ok (.aload_n 0, 1) := by decide +kernel
theorem dX7_init_73 : decode cX7_init 73 = .ok (.iconst 3, 1) := by decide +kernel
theorem dX7_init_74 : decode cX7_init 74 = .ok (.newarray .int, 2) := by decide +kernel
theorem dX7_init_76 : decode cX7_init 76 = .ok (.putfield 35, 3) := by decide +kernel
theorem dX7_init_79 : decode cX7_init 79 = .ok (.aload_n 0, 1) := by decide +kernel
theorem dX7_init_80 : decode cX7_init 80 = .ok (.bipush 60, 2) := by decide +kernel
theorem dX7_init_82 : decode cX7_init 82 = .ok (.newarray .char, 2) := by decide +kernel
theorem dX7_init_84 : decode cX7_init 84 = .ok (.putfield 38, 3) := by decide +kernel
theorem dX7_init_87 : decode cX7_init 87 = .ok (.aload_n 0, 1) := by decide +kernel
theorem dX7_init_88 : decode cX7_init 88 = .ok (.iconst (-1), 1) := by decide +kernel
theorem dX7_init_89 : decode cX7_init 89 = .ok (.putfield 42, 3) := by decide +kernel
theorem dX7_init_92 : decode cX7_init 92 = .ok (.aload_n 0, 1) := by decide +kernel
theorem dX7_init_93 : decode cX7_init 93 = .ok (.iconst (-1), 1) := by decide +kernel
theorem dX7_init_94 : decode cX7_init 94 = .ok (.putfield 46, 3) := by decide +kernel
theorem dX7_init_97 : decode cX7_init 97 = .ok (.aload_n 0, 1) := by decide +kernel
theorem dX7_init_98 : decode cX7_init 98 = .ok (.sipush 300, 3) := by decide +kernel
theorem dX7_init_101 : decode cX7_init 101 = .ok (.newarray .int, 2) := by decide +kernel
theorem dX7_init_103 : decode cX7_init 103 = .ok (.putfield 49, 3) := by decide +kernel
theorem dX7_init_106 : decode cX7_init 106 = .ok (.aload_n 0, 1) := by decide +kernel
theorem dX7_init_107 : decode cX7_init 107 = .ok (.bipush 40, 2) := by decide +kernel
theorem dX7_init_109 : decode cX7_init 109 = .ok (.newarray .char, 2) := by decide +kernel
theorem dX7_init_111 : decode cX7_init 111 = .ok (.putfield 52, 3) := by decide +kernel
theorem dX7_init_114 : decode cX7_init 114 = .ok (.aload_n 0, 1) := by decide +kernel
theorem dX7_init_115 : decode cX7_init 115 = .ok (.getfield 9, 3) := by decide +kernel
theorem dX7_init_118 : decode cX7_init 118 = .ok (.iconst 2, 1) := by decide +kernel
theorem dX7_init_119 : decode cX7_init 119 = .ok (.bipush 10, 2) := by decide +kernel
theorem dX7_init_121 : decode cX7_init 121 = .ok (.iastore, 1) := by decide +kernel
theorem dX7_init_122 : decode cX7_init 122 = .ok (.return_, 1) := by decide +kernel
theorem dX7_thrown_0 : decode cX7_thrown 0 = .ok (.aload_n 0, 1) := by decide +kernel
theorem dX7_thrown_1 : decode cX7_thrown 1 = .ok (.getfield 55, 3) := by decide +kernel
theorem dX7_thrown_4 : decode cX7_thrown 4 = .ok (.ireturn, 1) := by decide +kernel
theorem dX7_in_0 : decode cX7_in 0 = .ok (.iload_n 0, 1) := by decide +kernel
theorem dX7_in_1 : decode cX7_in 1 = .ok (.iload_n 1, 1) := by decide +kernel
theorem dX7_in_2 : decode cX7_in 2 = .ok (.if_icmp .lt 12, 3) := by decide +kernel
theorem dX7_in_5 : decode cX7_in 5 = .ok (.iload_n 0, 1) := by decide +kernel
theorem dX7_in_6 : decode cX7_in 6 = .ok (.iload_n 2, 1) := by decide +kernel
theorem dX7_in_7 : decode cX7_in 7 = .ok (.if_icmp .gt 7, 3) := by decide +kernel
theorem dX7_in_10 : decode cX7_in 10 = .ok (.iconst 1, 1) := by decide +kernel
theorem dX7_in_11 : decode cX7_in 11 = .ok (.goto 4, 3) := by decide +kernel
theorem dX7_in_14 : decode cX7_in 14 = .ok (.iconst 0, 1) := by decide +kernel
theorem dX7_in_15 : decode cX7_in 15 = .ok (.ireturn, 1) := by decide +kernel
theorem dX7_keep_0 : decode cX7_keep 0 = .ok (.aload_n 0, 1) := by decide +kernel
theorem dX7_keep_1 : decode cX7_keep 1 = .ok (.iconst 0, 1) := by decide +kernel
theorem dX7_keep_2 : decode cX7_keep 2 = .ok (.putfield 55, 3) := by decide +kernel
theorem dX7_keep_5 : decode cX7_keep 5 = .ok (.aload_n 0, 1) := by decide +kernel
theorem dX7_keep_6 : decode cX7_keep 6 = .ok (.getfield 9, 3) := by decide +kernel
theorem dX7_keep_9 : decode cX7_keep 9 = .ok (.iconst 0, 1) := by decide +kernel
theorem dX7_keep_10 : decode cX7_keep 10 = .ok (.aload_n 0, 1) := by decide +kernel
theorem dX7_keep_11 : decode cX7_keep 11 = .ok (.getfield 13, 3) := by decide +kernel
theorem dX7_keep_14 : decode cX7_keep 14 = .ok (.iconst 0, 1) := by decide +kernel
theorem dX7_keep_15 : decode cX7_keep 15 = .ok (.sipush 228, 3) := by decide +kernel
theorem dX7_keep_18 : decode cX7_keep 18 = .ok (.invokestatic 58, 3) := by decide +kernel
theorem dX7_keep_21 : decode cX7_keep 21 = .ok (.return_, 1) := by decide +kernel
theorem dX7_ends_0 : decode cX7_ends 0 = .ok (.aload_n 0, 1) := by decide +kernel
theorem dX7_ends_1 : decode cX7_ends 1 = .ok (.getfield 55, 3) := by decide +kernel
theorem dX7_ends_4 : decode cX7_ends 4 = .ok (.ifCond .le 21, 3) := by decide +kernel
theorem dX7_ends_7 : decode cX7_ends 7 = .ok (.aload_n 0, 1) := by decide +kernel
theorem dX7_ends_8 : decode cX7_ends 8 = .ok (.getfield 13, 3) := by decide +kernel
theorem dX7_ends_11 : decode cX7_ends 11 = .ok (.iconst 0, 1) := by decide +kernel
theorem dX7_ends_12 : decode cX7_ends 12 = .ok (.aload_n 0, 1) := by decide +kernel
theorem dX7_ends_13 : decode cX7_ends 13 = .ok (.getfield 9, 3) := by decide +kernel
theorem dX7_ends_16 : decode cX7_ends 16 = .ok (.iconst 0, 1) := by decide +kernel
theorem dX7_ends_17 : decode cX7_ends 17 = .ok (.sipush 228, 3) := by decide +kernel
theorem dX7_ends_20 : decode cX7_ends 20 = .ok (.invokestatic 58, 3) := by decide +kernel
theorem dX7_ends_23 : decode cX7_ends 23 = .ok (.iconst 0, 1) := by decide +kernel
theorem dX7_ends_24 : decode cX7_ends 24 = .ok (.ireturn, 1) := by decide +kernel
theorem dX7_ends_25 : decode cX7_ends 25 = .ok (.aload_n 0, 1) := by decide +kernel
theorem dX7_ends_26 : decode cX7_ends 26 = .ok (.getfield 64, 3) := by decide +kernel
theorem dX7_ends_29 : decode cX7_ends 29 = .ok (.bipush 8, 2) := by decide +kernel
theorem dX7_ends_31 : decode cX7_ends 31 = .ok (.if_icmp .ne 31, 3) := by decide +kernel
theorem dX7_ends_34 : decode cX7_ends 34 = .ok (.aload_n 0, 1) := by decide +kernel
theorem dX7_ends_35 : decode cX7_ends 35 = .ok (.getfield 19, 3) := by decide +kernel
theorem dX7_ends_38 : decode cX7_ends 38 = .ok (.sipush 228, 3) := by decide +kernel
theorem dX7_ends_41 : decode cX7_ends 41 = .ok (.aload_n 0, 1) := by decide +kernel
theorem dX7_ends_42 : decode cX7_ends 42 = .ok (.getfield 19, 3) := by decide +kernel
theorem dX7_ends_45 : decode cX7_ends 45 = .ok (.iconst 0, 1) := by decide +kernel
theorem dX7_ends_46 : decode cX7_ends 46 = .ok (.sipush 1596, 3) := by decide +kernel
theorem dX7_ends_49 : decode cX7_ends 49 = .ok (.invokestatic 58, 3) := by decide +kernel
theorem dX7_ends_52 : decode cX7_ends 52 = .ok (.aload_n 0, 1) := by decide +kernel
theorem dX7_ends_53 : decode cX7_ends 53 = .ok (.dup, 1) := by decide +kernel
theorem dX7_ends_54 : decode cX7_ends 54 = .ok (.getfield 64, 3) := by decide +kernel
theorem dX7_ends_57 : decode cX7_ends 57 = .ok (.iconst 1, 1) := by decide +kernel
theorem dX7_ends_58 : decode cX7_ends 58 = .ok (.isub, 1) := by decide +kernel
theorem dX7_ends_59 : decode cX7_ends 59 = .ok (.putfield 64, 3) := by decide +kernel
theorem dX7_ends_62 : decode cX7_ends 62 = .ok (.aload_n 0, 1) := by decide +kernel
theorem dX7_ends_63 : decode cX7_ends 63 = .ok (.getfield 13, 3) := by decide +kernel
theorem dX7_ends_66 : decode cX7_ends 66 = .ok (.iconst 0, 1) := by decide +kernel
theorem dX7_ends_67 : decode cX7_ends 67 = .ok (.aload_n 0, 1) := by decide +kernel
theorem dX7_ends_68 : decode cX7_ends 68 = .ok (.getfield 19, 3) := by decide +kernel
theorem dX7_ends_71 : decode cX7_ends 71 = .ok (.sipush 228, 3) := by decide +kernel
theorem dX7_ends_74 : decode cX7_ends 74 = .ok (.aload_n 0, 1) := by decide +kernel
theorem dX7_ends_75 : decode cX7_ends 75 = .ok (.getfield 64, 3) := by decide +kernel
theorem dX7_ends_78 : decode cX7_ends 78 = .ok (.imul, 1) := by decide +kernel
theorem dX7_ends_79 : decode cX7_ends 79 = .ok (.sipush 228, 3) := by decide +kernel
theorem dX7_ends_82 : decode cX7_ends 82 = .ok (.invokestatic 58, 3) := by decide +kernel
theorem dX7_ends_85 : decode cX7_ends 85 = .ok (.aload_n 0, 1) := by decide +kernel
theorem dX7_ends_86 : decode cX7_ends 86 = .ok (.dup, 1) := by decide +kernel
theorem dX7_ends_87 : decode cX7_ends 87 = .ok (.getfield 64, 3) := by decide +kernel
theorem dX7_ends_90 : decode cX7_ends 90 = .ok (.iconst 1, 1) := by decide +kernel
theorem dX7_ends_91 : decode cX7_ends 91 = .ok (.iadd, 1) := by decide +kernel
theorem dX7_ends_92 : decode cX7_ends 92 = .ok (.putfield 64, 3) := by decide +kernel
theorem dX7_ends_95 : decode cX7_ends 95 = .ok (.iload_n 1, 1) := by decide +kernel
theorem dX7_ends_96 : decode cX7_ends 96 = .ok (.ireturn, 1) := by decide +kernel
theorem dX7_fails_0 : decode cX7_fails 0 = .ok (.aload_n 0, 1) := by decide +kernel
theorem dX7_fails_1 : decode cX7_fails 1 = .ok (.iload_n 1, 1) := by decide +kernel
theorem dX7_fails_2 : decode cX7_fails 2 = .ok (.putfield 55, 3) := by decide +kernel
theorem dX7_fails_5 : decode cX7_fails 5 = .ok (.iconst 0, 1) := by decide +kernel
theorem dX7_fails_6 : decode cX7_fails 6 = .ok (.ireturn, 1) := by decide +kernel
theorem dX7_isThere_0 : decode cX7_isThere 0 = .ok (.aload_n 0, 1) := by decide +kernel
theorem dX7_isThere_1 : decode cX7_isThere 1 = .ok (.iload_n 1, 1) := by decide +kernel
theorem dX7_isThere_2 : decode cX7_isThere 2 = .ok (.ifCond .eq 7, 3) := by decide +kernel
theorem dX7_isThere_5 : decode cX7_isThere 5 = .ok (.iconst 0, 1) := by decide +kernel
theorem dX7_isThere_6 : decode cX7_isThere 6 = .ok (.goto 4, 3) := by decide +kernel
theorem dX7_isThere_9 : decode cX7_isThere 9 = .ok (.iconst 1, 1) := by decide +kernel
theorem dX7_isThere_10 : decode cX7_isThere 10 = .ok (.putfield 55, 3) := by decide +kernel
theorem dX7_isThere_13 : decode cX7_isThere 13 = .ok (.iload_n 1, 1) := by decide +kernel
theorem dX7_isThere_14 : decode cX7_isThere 14 = .ok (.ireturn, 1) := by decide +kernel
theorem dX7_isDoor_0 : decode cX7_isDoor 0 = .ok (.iload_n 1, 1) := by decide +kernel
theorem dX7_isDoor_1 : decode cX7_isDoor 1 = .ok (.iconst 0, 1) := by decide +kernel
theorem dX7_isDoor_2 : decode cX7_isDoor 2 = .ok (.aload_n 0, 1) := by decide +kernel
theorem dX7_isDoor_3 : decode cX7_isDoor 3 = .ok (.getfield 9, 3) := by decide +kernel
theorem dX7_isDoor_6 : decode cX7_isDoor 6 = .ok (.iconst 0, 1) := by decide +kernel
theorem dX7_isDoor_7 : decode cX7_isDoor 7 = .ok (.iaload, 1) := by decide +kernel
theorem dX7_isDoor_8 : decode cX7_isDoor 8 = .ok (.iconst 1, 1) := by decide +kernel
theorem dX7_isDoor_9 : decode cX7_isDoor 9 = .ok (.isub, 1) := by decide +kernel
theorem dX7_isDoor_10 : decode cX7_isDoor 10 = .ok (.invokestatic 67, 3) := by decide +kernel
theorem dX7_isDoor_13 : decode cX7_isDoor 13 = .ok (.ireturn, 1) := by decide +kernel
theorem dX7_isExaminer_0 : decode cX7_isExaminer 0 = .ok (.iload_n 1, 1) := by decide +kernel
theorem dX7_isExaminer_1 : decode cX7_isExaminer 1 = .ok (.iconst 0, 1) := by decide +kernel
theorem dX7_isExaminer_2 : decode cX7_isExaminer 2 = .ok (.aload_n 0, 1) := by decide +kernel
theorem dX7_isExaminer_3 : decode cX7_isExaminer 3 = .ok (.getfield 9, 3) := by decide +kernel
theorem dX7_isExaminer_6 : decode cX7_isExaminer 6 = .ok (.iconst 1, 1) := by decide +kernel
theorem dX7_isExaminer_7 : decode cX7_isExaminer 7 = .ok (.iaload, 1) := by decide +kernel
theorem dX7_isExaminer_8 : decode cX7_isExaminer 8 = .ok (.iconst 1, 1) := by decide +kernel
theorem dX7_isExaminer_9 : decode cX7_isExaminer 9 = .ok (.isub, 1) := by decide +kernel
theorem dX7_isExaminer_10 : decode cX7_isExaminer 10 = .ok (.invokestatic 67, 3) := by decide +kernel
theorem dX7_isExaminer_13 : decode cX7_isExaminer 13 = .ok (.ireturn, 1) := by decide +kernel
theorem dX7_arePair_0 : decode cX7_arePair 0 = .ok (.aload_n 0, 1) := by decide +kernel
theorem dX7_arePair_1 : decode cX7_arePair 1 = .ok (.iload_n 1, 1) := by decide +kernel
theorem dX7_arePair_2 : decode cX7_arePair 2 = .ok (.invokevirtual 71, 3) := by decide +kernel
theorem dX7_arePair_5 : decode cX7_arePair 5 = .ok (.ifCond .eq 15, 3) := by decide +kernel
theorem dX7_arePair_8 : decode cX7_arePair 8 = .ok (.aload_n 0, 1) := by decide +kernel
theorem dX7_arePair_9 : decode cX7_arePair 9 = .ok (.iload_n 2, 1) := by decide +kernel
theorem dX7_arePair_10 : decode cX7_arePair 10 = .ok (.invokevirtual 75, 3) := by decide +kernel
theorem dX7_arePair_13 : decode cX7_arePair 13 = .ok (.ifCond .eq 7, 3) := by decide +kernel
theorem dX7_arePair_16 : decode cX7_arePair 16 = .ok (.iconst 1, 1) := by decide +kernel
theorem dX7_arePair_17 : decode cX7_arePair 17 = .ok (.goto 4, 3) := by decide +kernel
theorem dX7_arePair_20 : decode cX7_arePair 20 = .ok (.iconst 0, 1) := by decide +kernel
theorem dX7_arePair_21 : decode cX7_arePair 21 = .ok (.ireturn, 1) := by decide +kernel
theorem dX7_door_0 : decode cX7_door 0 = .ok (.aload_n 0, 1) := by decide +kernel
theorem dX7_door_1 : decode cX7_door 1 = .ok (.getfield 9, 3) := by decide +kernel
theorem dX7_door_4 : decode cX7_door 4 = .ok (.iconst 4, 1) := by decide +kernel
theorem dX7_door_5 : decode cX7_door 5 = .ok (.iconst 5, 1) := by decide +kernel
theorem dX7_door_6 : decode cX7_door 6 = .ok (.iload_n 1, 1) := by decide +kernel
theorem dX7_door_7 : decode cX7_door 7 = .ok (.imul, 1) := by decide +kernel
theorem dX7_door_8 : decode cX7_door 8 = .ok (.iadd, 1) := by decide +kernel
theorem dX7_door_9 : decode cX7_door 9 = .ok (.iload_n 2, 1) := by decide +kernel
theorem dX7_door_10 : decode cX7_door 10 = .ok (.iadd, 1) := by decide +kernel
theorem dX7_door_11 : decode cX7_door 11 = .ok (.iaload, 1) := by decide +kernel
theorem dX7_door_12 : decode cX7_door 12 = .ok (.ireturn, 1) := by decide +kernel
theorem dX7_examiner_0 : decode cX7_examiner 0 = .ok (.aload_n 0, 1) := by decide +kernel
theorem dX7_examiner_1 : decode cX7_examiner 1 = .ok (.getfield 9, 3) := by decide +kernel
theorem dX7_examiner_4 : decode cX7_examiner 4 = .ok (.bipush 44, 2) := by decide +kernel
theorem dX7_examiner_6 : decode cX7_examiner 6 = .ok (.iconst 4, 1) := by decide +kernel
theorem dX7_examiner_7 : decode cX7_examiner 7 = .ok (.iload_n 1, 1) := by decide +kernel
theorem dX7_examiner_8 : decode cX7_examiner 8 = .ok (.imul, 1) := by decide +kernel
theorem dX7_examiner_9 : decode cX7_examiner 9 = .ok (.iadd, 1) := by decide +kernel
theorem dX7_examiner_10 : decode cX7_examiner 10 = .ok (.iload_n 2, 1) := by decide +kernel
theorem dX7_examiner_11 : decode cX7_examiner 11 = .ok (.iadd, 1) := by decide +kernel
theorem dX7_examiner_12 : decode cX7_examiner 12 = .ok (.iaload, 1) := by decide +kernel
theorem dX7_examiner_13 : decode cX7_examiner 13 = .ok (.ireturn, 1) := by decide +kernel
theorem dX7_pair_0 : decode cX7_pair 0 = .ok (.aload_n 0, 1) := by decide +kernel
theorem dX7_pair_1 : decode cX7_pair 1 = .ok (.getfield 9, 3) := by decide +kernel
theorem dX7_pair_4 : decode cX7_pair 4 = .ok (.bipush 68, 2) := by decide +kernel
theorem dX7_pair_6 : decode cX7_pair 6 = .ok (.iconst 3, 1) := by decide +kernel
theorem dX7_pair_7 : decode cX7_pair 7 = .ok (.bipush 8, 2) := by decide +kernel
theorem dX7_pair_9 : decode cX7_pair 9 = .ok (.iload_n 1, 1) := by decide +kernel
theorem dX7_pair_10 : decode cX7_pair 10 = .ok (.imul, 1) := by decide +kernel
theorem dX7_pair_11 : decode cX7_pair 11 = .ok (.iload_n 2, 1) := by decide +kernel
theorem dX7_pair_12 : decode cX7_pair 12 = .ok (.iadd, 1) := by decide +kernel
theorem dX7_pair_13 : decode cX7_pair 13 = .ok (.imul, 1) := by decide +kernel
theorem dX7_pair_14 : decode cX7_pair 14 = .ok (.iadd, 1) := by decide +kernel
theorem dX7_pair_15 : decode cX7_pair 15 = .ok (.iload_n 3, 1) := by decide +kernel
theorem dX7_pair_16 : decode cX7_pair 16 = .ok (.iadd, 1) := by decide +kernel
theorem dX7_pair_17 : decode cX7_pair 17 = .ok (.iaload, 1) := by decide +kernel
theorem dX7_pair_18 : decode cX7_pair 18 = .ok (.ireturn, 1) := by decide +kernel
theorem dX7_setsPair_0 : decode cX7_setsPair 0 = .ok (.aload_n 0, 1) := by decide +kernel
theorem dX7_setsPair_1 : decode cX7_setsPair 1 = .ok (.getfield 9, 3) := by decide +kernel
theorem dX7_setsPair_4 : decode cX7_setsPair 4 = .ok (.bipush 68, 2) := by decide +kernel
theorem dX7_setsPair_6 : decode cX7_setsPair 6 = .ok (.iconst 3, 1) := by decide +kernel
theorem dX7_setsPair_7 : decode cX7_setsPair 7 = .ok (.bipush 8, 2) := by decide +kernel
theorem dX7_setsPair_9 : decode cX7_setsPair 9 = .ok (.iload_n 1, 1) := by decide +kernel
theorem dX7_setsPair_10 : decode cX7_setsPair 10 = .ok (.imul, 1) := by decide +kernel
theorem dX7_setsPair_11 : decode cX7_setsPair 11 = .ok (.iload_n 2, 1) := by decide +kernel
theorem dX7_setsPair_12 : decode cX7_setsPair 12 = .ok (.iadd, 1) := by decide +kernel
theorem dX7_setsPair_13 : decode cX7_setsPair 13 = .ok (.imul, 1) := by decide +kernel
theorem dX7_setsPair_14 : decode cX7_setsPair 14 = .ok (.iadd, 1) := by decide +kernel
theorem dX7_setsPair_15 : decode cX7_setsPair 15 = .ok (.iload_n 3, 1) := by decide +kernel
theorem dX7_setsPair_16 : decode cX7_setsPair 16 = .ok (.iadd, 1) := by decide +kernel
theorem dX7_setsPair_17 : decode cX7_setsPair 17 = .ok (.iload 4, 2) := by decide +kernel
theorem dX7_setsPair_19 : decode cX7_setsPair 19 = .ok (.iastore, 1) := by decide +kernel
theorem dX7_setsPair_20 : decode cX7_setsPair 20 = .ok (.return_, 1) := by decide +kernel
theorem dX7_neutral_0 : decode cX7_neutral 0 = .ok (.aload_n 0, 1) := by decide +kernel
theorem dX7_neutral_1 : decode cX7_neutral 1 = .ok (.iload_n 1, 1) := by decide +kernel
theorem dX7_neutral_2 : decode cX7_neutral 2 = .ok (.iconst 0, 1) := by decide +kernel
theorem dX7_neutral_3 : decode cX7_neutral 3 = .ok (.invokevirtual 78, 3) := by decide +kernel
theorem dX7_neutral_6 : decode cX7_neutral 6 = .ok (.aload_n 0, 1) := by decide +kernel
theorem dX7_neutral_7 : decode cX7_neutral 7 = .ok (.iload_n 2, 1) := by decide +kernel
theorem dX7_neutral_8 : decode cX7_neutral 8 = .ok (.iconst 0, 1) := by decide +kernel
theorem dX7_neutral_9 : decode cX7_neutral 9 = .ok (.invokevirtual 82, 3) := by decide +kernel
theorem dX7_neutral_12 : decode cX7_neutral 12 = .ok (.if_icmp .eq 17, 3) := by decide +kernel
theorem dX7_neutral_15 : decode cX7_neutral 15 = .ok (.aload_n 0, 1) := by decide +kernel
theorem dX7_neutral_16 : decode cX7_neutral 16 = .ok (.iload_n 1, 1) := by decide +kernel
theorem dX7_neutral_17 : decode cX7_neutral 17 = .ok (.iload_n 2, 1) := by decide +kernel
theorem dX7_neutral_18 : decode cX7_neutral 18 = .ok (.iconst 0, 1) := by decide +kernel
theorem dX7_neutral_19 : decode cX7_neutral 19 = .ok (.invokevirtual 85, 3) := by decide +kernel
theorem dX7_neutral_22 : decode cX7_neutral 22 = .ok (.ifCond .ne 7, 3) := by decide +kernel
theorem dX7_neutral_25 : decode cX7_neutral 25 = .ok (.iconst 1, 1) := by decide +kernel
theorem dX7_neutral_26 : decode cX7_neutral 26 = .ok (.goto 4, 3) := by decide +kernel
theorem dX7_neutral_29 : decode cX7_neutral 29 = .ok (.iconst 0, 1) := by decide +kernel
theorem dX7_neutral_30 : decode cX7_neutral 30 = .ok (.ireturn, 1) := by decide +kernel
theorem dX7_judges_0 : decode cX7_judges 0 = .ok (.aload_n 0, 1) := by decide +kernel
theorem dX7_judges_1 : decode cX7_judges 1 = .ok (.iload_n 1, 1) := by decide +kernel
theorem dX7_judges_2 : decode cX7_judges 2 = .ok (.iload_n 2, 1) := by decide +kernel
theorem dX7_judges_3 : decode cX7_judges 3 = .ok (.invokevirtual 89, 3) := by decide +kernel
theorem dX7_judges_6 : decode cX7_judges 6 = .ok (.ifCond .eq 26, 3) := by decide +kernel
theorem dX7_judges_9 : decode cX7_judges 9 = .ok (.aload_n 0, 1) := by decide +kernel
theorem dX7_judges_10 : decode cX7_judges 10 = .ok (.iload_n 1, 1) := by decide +kernel
theorem dX7_judges_11 : decode cX7_judges 11 = .ok (.iconst 1, 1) := by decide +kernel
theorem dX7_judges_12 : decode cX7_judges 12 = .ok (.invokevirtual 78, 3) := by decide +kernel
theorem dX7_judges_15 : decode cX7_judges 15 = .ok (.aload_n 0, 1) := by decide +kernel
theorem dX7_judges_16 : decode cX7_judges 16 = .ok (.iload_n 2, 1) := by decide +kernel
theorem dX7_judges_17 : decode cX7_judges 17 = .ok (.iconst 1, 1) := by decide +kernel
theorem dX7_judges_18 : decode cX7_judges 18 = .ok (.invokevirtual 82, 3) := by decide +kernel
theorem dX7_judges_21 : decode cX7_judges 21 = .ok (.ishr, 1) := by decide +kernel
theorem dX7_judges_22 : decode cX7_judges 22 = .ok (.iconst 1, 1) := by decide +kernel
theorem dX7_judges_23 : decode cX7_judges 23 = .ok (.iand, 1) := by decide +kernel
theorem dX7_judges_24 : decode cX7_judges 24 = .ok (.iconst 1, 1) := by decide +kernel
theorem dX7_judges_25 : decode cX7_judges 25 = .ok (.if_icmp .ne 7, 3) := by decide +kernel
theorem dX7_judges_28 : decode cX7_judges 28 = .ok (.iconst 1, 1) := by decide +kernel
theorem dX7_judges_29 : decode cX7_judges 29 = .ok (.goto 4, 3) := by decide +kernel
theorem dX7_judges_32 : decode cX7_judges 32 = .ok (.iconst 0, 1) := by decide +kernel
theorem dX7_judges_33 : decode cX7_judges 33 = .ok (.ireturn, 1) := by decide +kernel
theorem dX7_assigned_0 : decode cX7_assigned 0 = .ok (.aload_n 0, 1) := by decide +kernel
theorem dX7_assigned_1 : decode cX7_assigned 1 = .ok (.iload_n 1, 1) := by decide +kernel
theorem dX7_assigned_2 : decode cX7_assigned 2 = .ok (.iload_n 2, 1) := by decide +kernel
theorem dX7_assigned_3 : decode cX7_assigned 3 = .ok (.iconst 1, 1) := by decide +kernel
theorem dX7_assigned_4 : decode cX7_assigned 4 = .ok (.invokevirtual 85, 3) := by decide +kernel
theorem dX7_assigned_7 : decode cX7_assigned 7 = .ok (.iconst 1, 1) := by decide +kernel
theorem dX7_assigned_8 : decode cX7_assigned 8 = .ok (.if_icmp .ne 7, 3) := by decide +kernel
theorem dX7_assigned_11 : decode cX7_assigned 11 = .ok (.iconst 1, 1) := by decide +kernel
theorem dX7_assigned_12 : decode cX7_assigned 12 = .ok (.goto 4, 3) := by decide +kernel
theorem dX7_assigned_15 : decode cX7_assigned 15 = .ok (.iconst 0, 1) := by decide +kernel
theorem dX7_assigned_16 : decode cX7_assigned 16 = .ok (.ireturn, 1) := by decide +kernel
theorem dX7_loadOf_0 : decode cX7_loadOf 0 = .ok (.iconst 0, 1) := by decide +kernel
theorem dX7_loadOf_1 : decode cX7_loadOf 1 = .ok (.istore_n 2, 1) := by decide +kernel
theorem dX7_loadOf_2 : decode cX7_loadOf 2 = .ok (.iconst 0, 1) := by decide +kernel
theorem dX7_loadOf_3 : decode cX7_loadOf 3 = .ok (.istore_n 3, 1) := by decide +kernel
theorem dX7_loadOf_4 : decode cX7_loadOf 4 = .ok (.iload_n 3, 1) := by decide +kernel
theorem dX7_loadOf_5 : decode cX7_loadOf 5 = .ok (.aload_n 0, 1) := by decide +kernel
theorem dX7_loadOf_6 : decode cX7_loadOf 6 = .ok (.getfield 9, 3) := by decide +kernel
theorem dX7_loadOf_9 : decode cX7_loadOf 9 = .ok (.iconst 0, 1) := by decide +kernel
theorem dX7_loadOf_10 : decode cX7_loadOf 10 = .ok (.iaload, 1) := by decide +kernel
theorem dX7_loadOf_11 : decode cX7_loadOf 11 = .ok (.if_icmp .ge 19, 3) := by decide +kernel
theorem dX7_loadOf_14 : decode cX7_loadOf 14 = .ok (.iload_n 2, 1) := by decide +kernel
theorem dX7_loadOf_15 : decode cX7_loadOf 15 = .ok (.aload_n 0, 1) := by decide +kernel
theorem dX7_loadOf_16 : decode cX7_loadOf 16 = .ok (.iload_n 1, 1) := by decide +kernel
theorem dX7_loadOf_17 : decode cX7_loadOf 17 = .ok (.iload_n 3, 1) := by decide +kernel
theorem dX7_loadOf_18 : decode cX7_loadOf 18 = .ok (.iconst 1, 1) := by decide +kernel
theorem dX7_loadOf_19 : decode cX7_loadOf 19 = .ok (.invokevirtual 85, 3) := by decide +kernel
theorem dX7_loadOf_22 : decode cX7_loadOf 22 = .ok (.iadd, 1) := by decide +kernel
theorem dX7_loadOf_23 : decode cX7_loadOf 23 = .ok (.istore_n 2, 1) := by decide +kernel
theorem dX7_loadOf_24 : decode cX7_loadOf 24 = .ok (.iinc 3 1, 3) := by decide +kernel
theorem dX7_loadOf_27 : decode cX7_loadOf 27 = .ok (.goto (-23), 3) := by decide +kernel
theorem dX7_loadOf_30 : decode cX7_loadOf 30 = .ok (.iload_n 2, 1) := by decide +kernel
theorem dX7_loadOf_31 : decode cX7_loadOf 31 = .ok (.ireturn, 1) := by decide +kernel
theorem dX7_examinersAt_0 : decode cX7_examinersAt 0 = .ok (.iconst 0, 1) := by decide +kernel
theorem dX7_examinersAt_1 : decode cX7_examinersAt 1 = .ok (.istore_n 2, 1) := by decide +kernel
theorem dX7_examinersAt_2 : decode cX7_examinersAt 2 = .ok (.iconst 0, 1) := by decide +kernel
theorem dX7_examinersAt_3 : decode cX7_examinersAt 3 = .ok (.istore_n 3, 1) := by decide +kernel
theorem dX7_examinersAt_4 : decode cX7_examinersAt 4 = .ok (.iload_n 3, 1) := by decide +kernel
theorem dX7_examinersAt_5 : decode cX7_examinersAt 5 = .ok (.aload_n 0, 1) := by decide +kernel
theorem dX7_examinersAt_6 : decode cX7_examinersAt 6 = .ok (.getfield 9, 3) := by decide +kernel
theorem dX7_examinersAt_9 : decode cX7_examinersAt 9 = .ok (.iconst 1, 1) := by decide +kernel
theorem dX7_examinersAt_10 : decode cX7_examinersAt 10 = .ok (.iaload, 1) := by decide +kernel
theorem dX7_examinersAt_11 : decode cX7_examinersAt 11 = .ok (.if_icmp .ge 19, 3) := by decide +kernel
theorem dX7_examinersAt_14 : decode cX7_examinersAt 14 = .ok (.iload_n 2, 1) := by decide +kernel
theorem dX7_examinersAt_15 : decode cX7_examinersAt 15 = .ok (.aload_n 0, 1) := by decide +kernel
theorem dX7_examinersAt_16 : decode cX7_examinersAt 16 = .ok (.iload_n 3, 1) := by decide +kernel
theorem dX7_examinersAt_17 : decode cX7_examinersAt 17 = .ok (.iload_n 1, 1) := by decide +kernel
theorem dX7_examinersAt_18 : decode cX7_examinersAt 18 = .ok (.iconst 1, 1) := by decide +kernel
theorem dX7_examinersAt_19 : decode cX7_examinersAt 19 = .ok (.invokevirtual 85, 3) := by decide +kernel
theorem dX7_examinersAt_22 : decode cX7_examinersAt 22 = .ok (.iadd, 1) := by decide +kernel
theorem dX7_examinersAt_23 : decode cX7_examinersAt 23 = .ok (.istore_n 2, 1) := by decide +kernel
theorem dX7_examinersAt_24 : decode cX7_examinersAt 24 = .ok (.iinc 3 1, 3) := by decide +kernel
theorem dX7_examinersAt_27 : decode cX7_examinersAt 27 = .ok (.goto (-23), 3) := by decide +kernel
theorem dX7_examinersAt_30 : decode cX7_examinersAt 30 = .ok (.iload_n 2, 1) := by decide +kernel
theorem dX7_examinersAt_31 : decode cX7_examinersAt 31 = .ok (.ireturn, 1) := by decide +kernel
theorem dX7_gradesAt_0 : decode cX7_gradesAt 0 = .ok (.iconst 0, 1) := by decide +kernel
theorem dX7_gradesAt_1 : decode cX7_gradesAt 1 = .ok (.istore_n 2, 1) := by decide +kernel
theorem dX7_gradesAt_2 : decode cX7_gradesAt 2 = .ok (.iconst 0, 1) := by decide +kernel
theorem dX7_gradesAt_3 : decode cX7_gradesAt 3 = .ok (.istore_n 3, 1) := by decide +kernel
theorem dX7_gradesAt_4 : decode cX7_gradesAt 4 = .ok (.iload_n 3, 1) := by decide +kernel
theorem dX7_gradesAt_5 : decode cX7_gradesAt 5 = .ok (.aload_n 0, 1) := by decide +kernel
theorem dX7_gradesAt_6 : decode cX7_gradesAt 6 = .ok (.getfield 9, 3) := by decide +kernel
theorem dX7_gradesAt_9 : decode cX7_gradesAt 9 = .ok (.iconst 1, 1) := by decide +kernel
theorem dX7_gradesAt_10 : decode cX7_gradesAt 10 = .ok (.iaload, 1) := by decide +kernel
theorem dX7_gradesAt_11 : decode cX7_gradesAt 11 = .ok (.if_icmp .ge 27, 3) := by decide +kernel
theorem dX7_gradesAt_14 : decode cX7_gradesAt 14 = .ok (.iload_n 2, 1) := by decide +kernel
theorem dX7_gradesAt_15 : decode cX7_gradesAt 15 = .ok (.aload_n 0, 1) := by decide +kernel
theorem dX7_gradesAt_16 : decode cX7_gradesAt 16 = .ok (.iload_n 3, 1) := by decide +kernel
theorem dX7_gradesAt_17 : decode cX7_gradesAt 17 = .ok (.iload_n 1, 1) := by decide +kernel
theorem dX7_gradesAt_18 : decode cX7_gradesAt 18 = .ok (.iconst 2, 1) := by decide +kernel
theorem dX7_gradesAt_19 : decode cX7_gradesAt 19 = .ok (.invokevirtual 85, 3) := by decide +kernel
theorem dX7_gradesAt_22 : decode cX7_gradesAt 22 = .ok (.ifCond .le 7, 3) := by decide +kernel
theorem dX7_gradesAt_25 : decode cX7_gradesAt 25 = .ok (.iconst 1, 1) := by decide +kernel
theorem dX7_gradesAt_26 : decode cX7_gradesAt 26 = .ok (.goto 4, 3) := by decide +kernel
theorem dX7_gradesAt_29 : decode cX7_gradesAt 29 = .ok (.iconst 0, 1) := by decide +kernel
theorem dX7_gradesAt_30 : decode cX7_gradesAt 30 = .ok (.iadd, 1) := by decide +kernel
theorem dX7_gradesAt_31 : decode cX7_gradesAt 31 = .ok (.istore_n 2, 1) := by decide +kernel
theorem dX7_gradesAt_32 : decode cX7_gradesAt 32 = .ok (.iinc 3 1, 3) := by decide +kernel
theorem dX7_gradesAt_35 : decode cX7_gradesAt 35 = .ok (.goto (-31), 3) := by decide +kernel
theorem dX7_gradesAt_38 : decode cX7_gradesAt 38 = .ok (.iload_n 2, 1) := by decide +kernel
theorem dX7_gradesAt_39 : decode cX7_gradesAt 39 = .ok (.ireturn, 1) := by decide +kernel
theorem dX7_resultOf_0 : decode cX7_resultOf 0 = .ok (.iconst 0, 1) := by decide +kernel
theorem dX7_resultOf_1 : decode cX7_resultOf 1 = .ok (.istore_n 2, 1) := by decide +kernel
theorem dX7_resultOf_2 : decode cX7_resultOf 2 = .ok (.bipush 20, 2) := by decide +kernel
theorem dX7_resultOf_4 : decode cX7_resultOf 4 = .ok (.istore_n 3, 1) := by decide +kernel
theorem dX7_resultOf_5 : decode cX7_resultOf 5 = .ok (.iconst 0, 1) := by decide +kernel
theorem dX7_resultOf_6 : decode cX7_resultOf 6 = .ok (.istore 4, 2) := by decide +kernel
theorem dX7_resultOf_8 : decode cX7_resultOf 8 = .ok (.iconst 0, 1) := by decide +kernel
theorem dX7_resultOf_9 : decode cX7_resultOf 9 = .ok (.istore 5, 2) := by decide +kernel
theorem dX7_resultOf_11 : decode cX7_resultOf 11 = .ok (.iload 5, 2) := by decide +kernel
theorem dX7_resultOf_13 : decode cX7_resultOf 13 = .ok (.aload_n 0, 1) := by decide +kernel
theorem dX7_resultOf_14 : decode cX7_resultOf 14 = .ok (.getfield 9, 3) := by decide +kernel
theorem dX7_resultOf_17 : decode cX7_resultOf 17 = .ok (.iconst 1, 1) := by decide +kernel
theorem dX7_resultOf_18 : decode cX7_resultOf 18 = .ok (.iaload, 1) := by decide +kernel
theorem dX7_resultOf_19 : decode cX7_resultOf 19 = .ok (.if_icmp .ge 55, 3) := by decide +kernel
theorem dX7_resultOf_22 : decode cX7_resultOf 22 = .ok (.aload_n 0, 1) := by decide +kernel
theorem dX7_resultOf_23 : decode cX7_resultOf 23 = .ok (.iload 5, 2) := by decide +kernel
theorem dX7_resultOf_25 : decode cX7_resultOf 25 = .ok (.iload_n 1, 1) := by decide +kernel
theorem dX7_resultOf_26 : decode cX7_resultOf 26 = .ok (.iconst 2, 1) := by decide +kernel
theorem dX7_resultOf_27 : decode cX7_resultOf 27 = .ok (.invokevirtual 85, 3) := by decide +kernel
theorem dX7_resultOf_30 : decode cX7_resultOf 30 = .ok (.iconst 1, 1) := by decide +kernel
theorem dX7_resultOf_31 : decode cX7_resultOf 31 = .ok (.isub, 1) := by decide +kernel
theorem dX7_resultOf_32 : decode cX7_resultOf 32 = .ok (.istore 6, 2) := by decide +kernel
theorem dX7_resultOf_34 : decode cX7_resultOf 34 = .ok (.iload_n 2, 1) := by decide +kernel
theorem dX7_resultOf_35 : decode cX7_resultOf 35 = .ok (.iconst 0, 1) := by decide +kernel
theorem dX7_resultOf_36 : decode cX7_resultOf 36 = .ok (.iload 6, 2) := by decide +kernel
theorem dX7_resultOf_38 : decode cX7_resultOf 38 = .ok (.invokestatic 93, 3) := by decide +kernel
theorem dX7_resultOf_41 : decode cX7_resultOf 41 = .ok (.iadd, 1) := by decide +kernel
theorem dX7_resultOf_42 : decode cX7_resultOf 42 = .ok (.istore_n 2, 1) := by decide +kernel
theorem dX7_resultOf_43 : decode cX7_resultOf 43 = .ok (.iload 6, 2) := by decide +kernel
theorem dX7_resultOf_45 : decode cX7_resultOf 45 = .ok (.ifCond .lt 12, 3) := by decide +kernel
theorem dX7_resultOf_48 : decode cX7_resultOf 48 = .ok (.iload_n 3, 1) := by decide +kernel
theorem dX7_resultOf_49 : decode cX7_resultOf 49 = .ok (.iload 6, 2) := by decide +kernel
theorem dX7_resultOf_51 : decode cX7_resultOf 51 = .ok (.invokestatic 98, 3) := by decide +kernel
theorem dX7_resultOf_54 : decode cX7_resultOf 54 = .ok (.goto 4, 3) := by decide +kernel
theorem dX7_resultOf_57 : decode cX7_resultOf 57 = .ok (.iload_n 3, 1) := by decide +kernel
theorem dX7_resultOf_58 : decode cX7_resultOf 58 = .ok (.istore_n 3, 1) := by decide +kernel
theorem dX7_resultOf_59 : decode cX7_resultOf 59 = .ok (.iload 4, 2) := by decide +kernel
theorem dX7_resultOf_61 : decode cX7_resultOf 61 = .ok (.iload 6, 2) := by decide +kernel
theorem dX7_resultOf_63 : decode cX7_resultOf 63 = .ok (.invokestatic 93, 3) := by decide +kernel
theorem dX7_resultOf_66 : decode cX7_resultOf 66 = .ok (.istore 4, 2) := by decide +kernel
theorem dX7_resultOf_68 : decode cX7_resultOf 68 = .ok (.iinc 5 1, 3) := by decide +kernel
theorem dX7_resultOf_71 : decode cX7_resultOf 71 = .ok (.goto (-60), 3) := by decide +kernel
theorem dX7_resultOf_74 : decode cX7_resultOf 74 = .ok (.aload_n 0, 1) := by decide +kernel
theorem dX7_resultOf_75 : decode cX7_resultOf 75 = .ok (.iload_n 1, 1) := by decide +kernel
theorem dX7_resultOf_76 : decode cX7_resultOf 76 = .ok (.invokevirtual 101, 3) := by decide +kernel
theorem dX7_resultOf_79 : decode cX7_resultOf 79 = .ok (.istore 5, 2) := by decide +kernel
theorem dX7_resultOf_81 : decode cX7_resultOf 81 = .ok (.iload 5, 2) := by decide +kernel
theorem dX7_resultOf_83 : decode cX7_resultOf 83 = .ok (.iconst 2, 1) := by decide +kernel
theorem dX7_resultOf_84 : decode cX7_resultOf 84 = .ok (.if_icmp .ge 7, 3) := by decide +kernel
theorem dX7_resultOf_87 : decode cX7_resultOf 87 = .ok (.iconst (-1), 1) := by decide +kernel
theorem dX7_resultOf_88 : decode cX7_resultOf 88 = .ok (.goto 21, 3) := by decide +kernel
theorem dX7_resultOf_91 : decode cX7_resultOf 91 = .ok (.iload 5, 2) := by decide +kernel
theorem dX7_resultOf_93 : decode cX7_resultOf 93 = .ok (.iconst 2, 1) := by decide +kernel
theorem dX7_resultOf_94 : decode cX7_resultOf 94 = .ok (.if_icmp .ne 9, 3) := by decide +kernel
theorem dX7_resultOf_97 : decode cX7_resultOf 97 = .ok (.iload_n 2, 1) := by decide +kernel
theorem dX7_resultOf_98 : decode cX7_resultOf 98 = .ok (.iconst 2, 1) := by decide +kernel
theorem dX7_resultOf_99 : decode cX7_resultOf 99 = .ok (.idiv, 1) := by decide +kernel
theorem dX7_resultOf_100 : decode cX7_resultOf 100 = .ok (.goto 9, 3) := by decide +kernel
theorem dX7_resultOf_103 : decode cX7_resultOf 103 = .ok (.iload_n 2, 1) := by decide +kernel
theorem dX7_resultOf_104 : decode cX7_resultOf 104 = .ok (.iload_n 3, 1) := by decide +kernel
theorem dX7_resultOf_105 : decode cX7_resultOf 105 = .ok (.isub, 1) := by decide +kernel
theorem dX7_resultOf_106 : decode cX7_resultOf 106 = .ok (.iload 4, 2) := by decide +kernel
theorem dX7_resultOf_108 : decode cX7_resultOf 108 = .ok (.isub, 1) := by decide +kernel
theorem dX7_resultOf_109 : decode cX7_resultOf 109 = .ok (.ireturn, 1) := by decide +kernel
theorem dX7_hasPassed_0 : decode cX7_hasPassed 0 = .ok (.aload_n 0, 1) := by decide +kernel
theorem dX7_hasPassed_1 : decode cX7_hasPassed 1 = .ok (.iload_n 1, 1) := by decide +kernel
theorem dX7_hasPassed_2 : decode cX7_hasPassed 2 = .ok (.invokevirtual 105, 3) := by decide +kernel
theorem dX7_hasPassed_5 : decode cX7_hasPassed 5 = .ok (.istore_n 2, 1) := by decide +kernel
theorem dX7_hasPassed_6 : decode cX7_hasPassed 6 = .ok (.iload_n 2, 1) := by decide +kernel
theorem dX7_hasPassed_7 : decode cX7_hasPassed 7 = .ok (.ifCond .lt 17, 3) := by decide +kernel
theorem dX7_hasPassed_10 : decode cX7_hasPassed 10 = .ok (.iload_n 2, 1) := by decide +kernel
theorem dX7_hasPassed_11 : decode cX7_hasPassed 11 = .ok (.aload_n 0, 1) := by decide +kernel
theorem dX7_hasPassed_12 : decode cX7_hasPassed 12 = .ok (.getfield 9, 3) := by decide +kernel
theorem dX7_hasPassed_15 : decode cX7_hasPassed 15 = .ok (.iconst 2, 1) := by decide +kernel
theorem dX7_hasPassed_16 : decode cX7_hasPassed 16 = .ok (.iaload, 1) := by decide +kernel
theorem dX7_hasPassed_17 : decode cX7_hasPassed 17 = .ok (.if_icmp .lt 7, 3) := by decide +kernel
theorem dX7_hasPassed_20 : decode cX7_hasPassed 20 = .ok (.iconst 1, 1) := by decide +kernel
theorem dX7_hasPassed_21 : decode cX7_hasPassed 21 = .ok (.goto 4, 3) := by decide +kernel
theorem dX7_hasPassed_24 : decode cX7_hasPassed 24 = .ok (.iconst 0, 1) := by decide +kernel
theorem dX7_hasPassed_25 : decode cX7_hasPassed 25 = .ok (.ireturn, 1) := by decide +kernel
theorem dX7_entitled_0 : decode cX7_entitled 0 = .ok (.aload_n 0, 1) := by decide +kernel
theorem dX7_entitled_1 : decode cX7_entitled 1 = .ok (.iload_n 1, 1) := by decide +kernel
theorem dX7_entitled_2 : decode cX7_entitled 2 = .ok (.invokevirtual 108, 3) := by decide +kernel
theorem dX7_entitled_5 : decode cX7_entitled 5 = .ok (.ifCond .ne 13, 3) := by decide +kernel
theorem dX7_entitled_8 : decode cX7_entitled 8 = .ok (.aload_n 0, 1) := by decide +kernel
theorem dX7_entitled_9 : decode cX7_entitled 9 = .ok (.iload_n 1, 1) := by decide +kernel
theorem dX7_entitled_10 : decode cX7_entitled 10 = .ok (.iconst 3, 1) := by decide +kernel
theorem dX7_entitled_11 : decode cX7_entitled 11 = .ok (.invokevirtual 82, 3) := by decide +kernel
theorem dX7_entitled_14 : decode cX7_entitled 14 = .ok (.iconst 1, 1) := by decide +kernel
theorem dX7_entitled_15 : decode cX7_entitled 15 = .ok (.if_icmp .ne 7, 3) := by decide +kernel
theorem dX7_entitled_18 : decode cX7_entitled 18 = .ok (.iconst 1, 1) := by decide +kernel
theorem dX7_entitled_19 : decode cX7_entitled 19 = .ok (.goto 4, 3) := by decide +kernel
theorem dX7_entitled_22 : decode cX7_entitled 22 = .ok (.iconst 0, 1) := by decide +kernel
theorem dX7_entitled_23 : decode cX7_entitled 23 = .ok (.ireturn, 1) := by decide +kernel
theorem dX7_isFrame_0 : decode cX7_isFrame 0 = .ok (.iload_n 0, 1) := by decide +kernel
theorem dX7_isFrame_1 : decode cX7_isFrame 1 = .ok (.bipush 97, 2) := by decide +kernel
theorem dX7_isFrame_3 : decode cX7_isFrame 3 = .ok (.bipush 102, 2) := by decide +kernel
theorem dX7_isFrame_5 : decode cX7_isFrame 5 = .ok (.invokestatic 67, 3) := by decide +kernel
theorem dX7_isFrame_8 : decode cX7_isFrame 8 = .ok (.ireturn, 1) := by decide +kernel
theorem dX7_doAddDoor_0 : decode cX7_doAddDoor 0 = .ok (.aload_n 0, 1) := by decide +kernel
theorem dX7_doAddDoor_1 : decode cX7_doAddDoor 1 = .ok (.getfield 9, 3) := by decide +kernel
theorem dX7_doAddDoor_4 : decode cX7_doAddDoor 4 = .ok (.iconst 0, 1) := by decide +kernel
theorem dX7_doAddDoor_5 : decode cX7_doAddDoor 5 = .ok (.iaload, 1) := by decide +kernel
theorem dX7_doAddDoor_6 : decode cX7_doAddDoor 6 = .ok (.istore_n 3, 1) := by decide +kernel
theorem dX7_doAddDoor_7 : decode cX7_doAddDoor 7 = .ok (.iload_n 1, 1) := by decide +kernel
theorem dX7_doAddDoor_8 : decode cX7_doAddDoor 8 = .ok (.invokestatic 111, 3) := by decide +kernel
theorem dX7_doAddDoor_11 : decode cX7_doAddDoor 11 = .ok (.ifCond .eq 12, 3) := by decide +kernel
theorem dX7_doAddDoor_14 : decode cX7_doAddDoor 14 = .ok (.iload_n 2, 1) := by decide +kernel
theorem dX7_doAddDoor_15 : decode cX7_doAddDoor 15 = .ok (.iconst 0, 1) := by decide +kernel
theorem dX7_doAddDoor_16 : decode cX7_doAddDoor 16 = .ok (.iconst 5, 1) := by decide +kernel
theorem dX7_doAddDoor_17 : decode cX7_doAddDoor 17 = .ok (.invokestatic 67, 3) := by decide +kernel
theorem dX7_doAddDoor_20 : decode cX7_doAddDoor 20 = .ok (.ifCond .ne 9, 3) := by decide +kernel
theorem dX7_doAddDoor_23 : decode cX7_doAddDoor 23 = .ok (.aload_n 0, 1) := by decide +kernel
theorem dX7_doAddDoor_24 : decode cX7_doAddDoor 24 = .ok (.iconst 1, 1) := by decide +kernel
theorem dX7_doAddDoor_25 : decode cX7_doAddDoor 25 = .ok (.invokevirtual 114, 3) := by decide +kernel
theorem dX7_doAddDoor_28 : decode cX7_doAddDoor 28 = .ok (.ireturn, 1) := by decide +kernel
theorem dX7_doAddDoor_29 : decode cX7_doAddDoor 29 = .ok (.iload_n 3, 1) := by decide +kernel
theorem dX7_doAddDoor_30 : decode cX7_doAddDoor 30 = .ok (.bipush 8, 2) := by decide +kernel
theorem dX7_doAddDoor_32 : decode cX7_doAddDoor 32 = .ok (.if_icmp .ne 9, 3) := by decide +kernel
theorem dX7_doAddDoor_35 : decode cX7_doAddDoor 35 = .ok (.aload_n 0, 1) := by decide +kernel
theorem dX7_doAddDoor_36 : decode cX7_doAddDoor 36 = .ok (.iconst 2, 1) := by decide +kernel
theorem dX7_doAddDoor_37 : decode cX7_doAddDoor 37 = .ok (.invokevirtual 114, 3) := by decide +kernel
theorem dX7_doAddDoor_40 : decode cX7_doAddDoor 40 = .ok (.ireturn, 1) := by decide +kernel
theorem dX7_doAddDoor_41 : decode cX7_doAddDoor 41 = .ok (.iconst 4, 1) := by decide +kernel
theorem dX7_doAddDoor_42 : decode cX7_doAddDoor 42 = .ok (.iconst 5, 1) := by decide +kernel
theorem dX7_doAddDoor_43 : decode cX7_doAddDoor 43 = .ok (.iload_n 3, 1) := by decide +kernel
theorem dX7_doAddDoor_44 : decode cX7_doAddDoor 44 = .ok (.imul, 1) := by decide +kernel
theorem dX7_doAddDoor_45 : decode cX7_doAddDoor 45 = .ok (.iadd, 1) := by decide +kernel
theorem dX7_doAddDoor_46 : decode cX7_doAddDoor 46 = .ok (.istore 4, 2) := by decide +kernel
theorem dX7_doAddDoor_48 : decode cX7_doAddDoor 48 = .ok (.aload_n 0, 1) := by decide +kernel
theorem dX7_doAddDoor_49 : decode cX7_doAddDoor 49 = .ok (.getfield 9, 3) := by decide +kernel
theorem dX7_doAddDoor_52 : decode cX7_doAddDoor 52 = .ok (.iload 4, 2) := by decide +kernel
theorem dX7_doAddDoor_54 : decode cX7_doAddDoor 54 = .ok (.iload_n 1, 1) := by decide +kernel
theorem dX7_doAddDoor_55 : decode cX7_doAddDoor 55 = .ok (.iastore, 1) := by decide +kernel
theorem dX7_doAddDoor_56 : decode cX7_doAddDoor 56 = .ok (.aload_n 0, 1) := by decide +kernel
theorem dX7_doAddDoor_57 : decode cX7_doAddDoor 57 = .ok (.getfield 9, 3) := by decide +kernel
theorem dX7_doAddDoor_60 : decode cX7_doAddDoor 60 = .ok (.iload 4, 2) := by decide +kernel
theorem dX7_doAddDoor_62 : decode cX7_doAddDoor 62 = .ok (.iconst 1, 1) := by decide +kernel
theorem dX7_doAddDoor_63 : decode cX7_doAddDoor 63 = .ok (.iadd, 1) := by decide +kernel
theorem dX7_doAddDoor_64 : decode cX7_doAddDoor 64 = .ok (.iload_n 2, 1) := by decide +kernel
theorem dX7_doAddDoor_65 : decode cX7_doAddDoor 65 = .ok (.iastore, 1) := by decide +kernel
theorem dX7_doAddDoor_66 : decode cX7_doAddDoor 66 = .ok (.aload_n 0, 1) := by decide +kernel
theorem dX7_doAddDoor_67 : decode cX7_doAddDoor 67 = .ok (.getfield 9, 3) := by decide +kernel
theorem dX7_doAddDoor_70 : decode cX7_doAddDoor 70 = .ok (.iload 4, 2) := by decide +kernel
theorem dX7_doAddDoor_72 : decode cX7_doAddDoor 72 = .ok (.iconst 2, 1) := by decide +kernel
theorem dX7_doAddDoor_73 : decode cX7_doAddDoor 73 = .ok (.iadd, 1) := by decide +kernel
theorem dX7_doAddDoor_74 : decode cX7_doAddDoor 74 = .ok (.iconst 0, 1) := by decide +kernel
theorem dX7_doAddDoor_75 : decode cX7_doAddDoor 75 = .ok (.iastore, 1) := by decide +kernel
theorem dX7_doAddDoor_76 : decode cX7_doAddDoor 76 = .ok (.aload_n 0, 1) := by decide +kernel
theorem dX7_doAddDoor_77 : decode cX7_doAddDoor 77 = .ok (.getfield 9, 3) := by decide +kernel
theorem dX7_doAddDoor_80 : decode cX7_doAddDoor 80 = .ok (.iload 4, 2) := by decide +kernel
theorem dX7_doAddDoor_82 : decode cX7_doAddDoor 82 = .ok (.iconst 3, 1) := by decide +kernel
theorem dX7_doAddDoor_83 : decode cX7_doAddDoor 83 = .ok (.iadd, 1) := by decide +kernel
theorem dX7_doAddDoor_84 : decode cX7_doAddDoor 84 = .ok (.iconst 0, 1) := by decide +kernel
theorem dX7_doAddDoor_85 : decode cX7_doAddDoor 85 = .ok (.iastore, 1) := by decide +kernel
theorem dX7_doAddDoor_86 : decode cX7_doAddDoor 86 = .ok (.aload_n 0, 1) := by decide +kernel
theorem dX7_doAddDoor_87 : decode cX7_doAddDoor 87 = .ok (.getfield 9, 3) := by decide +kernel
theorem dX7_doAddDoor_90 : decode cX7_doAddDoor 90 = .ok (.iload 4, 2) := by decide +kernel
theorem dX7_doAddDoor_92 : decode cX7_doAddDoor 92 = .ok (.iconst 4, 1) := by decide +kernel
theorem dX7_doAddDoor_93 : decode cX7_doAddDoor 93 = .ok (.iadd, 1) := by decide +kernel
theorem dX7_doAddDoor_94 : decode cX7_doAddDoor 94 = .ok (.iconst 0, 1) := by decide +kernel
theorem dX7_doAddDoor_95 : decode cX7_doAddDoor 95 = .ok (.iastore, 1) := by decide +kernel
theorem dX7_doAddDoor_96 : decode cX7_doAddDoor 96 = .ok (.aload_n 0, 1) := by decide +kernel
theorem dX7_doAddDoor_97 : decode cX7_doAddDoor 97 = .ok (.getfield 9, 3) := by decide +kernel
theorem dX7_doAddDoor_100 : decode cX7_doAddDoor 100 = .ok (.iconst 0, 1) := by decide +kernel
theorem dX7_doAddDoor_101 : decode cX7_doAddDoor 101 = .ok (.dup2, 1) := by decide +kernel
theorem dX7_doAddDoor_102 : decode cX7_doAddDoor 102 = .ok (.iaload, 1) := by decide +kernel
theorem dX7_doAddDoor_103 : decode cX7_doAddDoor 103 = .ok (.iconst 1, 1) := by decide +kernel
theorem dX7_doAddDoor_104 : decode cX7_doAddDoor 104 = .ok (.iadd, 1) := by decide +kernel
theorem dX7_doAddDoor_105 : decode cX7_doAddDoor 105 = .ok (.iastore, 1) := by decide +kernel
theorem dX7_doAddDoor_106 : decode cX7_doAddDoor 106 = .ok (.iload_n 3, 1) := by decide +kernel
theorem dX7_doAddDoor_107 : decode cX7_doAddDoor 107 = .ok (.ireturn, 1) := by decide +kernel
theorem dX7_addDoor_0 : decode cX7_addDoor 0 = .ok (.aload_n 0, 1) := by decide +kernel
theorem dX7_addDoor_1 : decode cX7_addDoor 1 = .ok (.invokevirtual 117, 3) := by decide +kernel
theorem dX7_addDoor_4 : decode cX7_addDoor 4 = .ok (.aload_n 0, 1) := by decide +kernel
theorem dX7_addDoor_5 : decode cX7_addDoor 5 = .ok (.aload_n 0, 1) := by decide +kernel
theorem dX7_addDoor_6 : decode cX7_addDoor 6 = .ok (.iload_n 1, 1) := by decide +kernel
theorem dX7_addDoor_7 : decode cX7_addDoor 7 = .ok (.iload_n 2, 1) := by decide +kernel
theorem dX7_addDoor_8 : decode cX7_addDoor 8 = .ok (.invokevirtual 120, 3) := by decide +kernel
theorem dX7_addDoor_11 : decode cX7_addDoor 11 = .ok (.invokevirtual 123, 3) := by decide +kernel
theorem dX7_addDoor_14 : decode cX7_addDoor 14 = .ok (.ireturn, 1) := by decide +kernel
theorem dX7_doAddExaminer_0 : decode cX7_doAddExaminer 0 = .ok (.aload_n 0, 1) := by decide +kernel
theorem dX7_doAddExaminer_1 : decode cX7_doAddExaminer 1 = .ok (.getfield 9, 3) := by decide +kernel
theorem dX7_doAddExaminer_4 : decode cX7_doAddExaminer 4 = .ok (.iconst 1, 1) := by decide +kernel
theorem dX7_doAddExaminer_5 : decode cX7_doAddExaminer 5 = .ok (.iaload, 1) := by decide +kernel
theorem dX7_doAddExaminer_6 : decode cX7_doAddExaminer 6 = .ok (.istore 5, 2) := by decide +kernel
theorem dX7_doAddExaminer_8 : decode cX7_doAddExaminer 8 = .ok (.iload_n 1, 1) := by decide +kernel
theorem dX7_doAddExaminer_9 : decode cX7_doAddExaminer 9 = .ok (.invokestatic 111, 3) := by decide +kernel
theorem dX7_doAddExaminer_12 : decode cX7_doAddExaminer 12 = .ok (.ifCond .eq 33, 3) := by decide +kernel
theorem dX7_doAddExaminer_15 : decode cX7_doAddExaminer 15 = .ok (.iload_n 2, 1) := by decide +kernel
theorem dX7_doAddExaminer_16 : decode cX7_doAddExaminer 16 = .ok (.iconst 1, 1) := by decide +kernel
theorem dX7_doAddExaminer_17 : decode cX7_doAddExaminer 17 = .ok (.bipush 63, 2) := by decide +kernel
theorem dX7_doAddExaminer_19 : decode cX7_doAddExaminer 19 = .ok (.invokestatic 67, 3) := by decide +kernel
theorem dX7_doAddExaminer_22 : decode cX7_doAddExaminer 22 = .ok (.ifCond .eq 23, 3) := by decide +kernel
theorem dX7_doAddExaminer_25 : decode cX7_doAddExaminer 25 = .ok (.iload_n 3, 1) := by decide +kernel
theorem dX7_doAddExaminer_26 : decode cX7_doAddExaminer 26 = .ok (.iconst 1, 1) := by decide +kernel
theorem dX7_doAddExaminer_27 : decode cX7_doAddExaminer 27 = .ok (.iconst 4, 1) := by decide +kernel
theorem dX7_doAddExaminer_28 : decode cX7_doAddExaminer 28 = .ok (.invokestatic 67, 3) := by decide +kernel
theorem dX7_doAddExaminer_31 : decode cX7_doAddExaminer 31 = .ok (.ifCond .eq 14, 3) := by decide +kernel
theorem dX7_doAddExaminer_34 : decode cX7_doAddExaminer 34 = .ok (.iload 4, 2) := by decide +kernel
theorem dX7_doAddExaminer_36 : decode cX7_doAddExaminer 36 = .ok (.iconst 0, 1) := by decide +kernel
theorem dX7_doAddExaminer_37 : decode cX7_doAddExaminer 37 = .ok (.bipush 9, 2) := by decide +kernel
theorem dX7_doAddExaminer_39 : decode cX7_doAddExaminer 39 = .ok (.invokestatic 67, 3) := by decide +kernel
theorem dX7_doAddExaminer_42 : decode cX7_doAddExaminer 42 = .ok (.ifCond .ne 9, 3) := by decide +kernel
theorem dX7_doAddExaminer_45 : decode cX7_doAddExaminer 45 = .ok (.aload_n 0, 1) := by decide +kernel
theorem dX7_doAddExaminer_46 : decode cX7_doAddExaminer 46 = .ok (.iconst 1, 1) := by decide +kernel
theorem dX7_doAddExaminer_47 : decode cX7_doAddExaminer 47 = .ok (.invokevirtual 114, 3) := by decide +kernel
theorem dX7_doAddExaminer_50 : decode cX7_doAddExaminer 50 = .ok (.ireturn, 1) := by decide +kernel
theorem dX7_doAddExaminer_51 : decode cX7_doAddExaminer 51 = .ok (.iload 5, 2) := by decide +kernel
theorem dX7_doAddExaminer_53 : decode cX7_doAddExaminer 53 = .ok (.bipush 6, 2) := by decide +kernel
theorem dX7_doAddExaminer_55 : decode cX7_doAddExaminer 55 = .ok (.if_icmp .ne 9, 3) := by decide +kernel
theorem dX7_doAddExaminer_58 : decode cX7_doAddExaminer 58 = .ok (.aload_n 0, 1) := by decide +kernel
theorem dX7_doAddExaminer_59 : decode cX7_doAddExaminer 59 = .ok (.iconst 2, 1) := by decide +kernel
theorem dX7_doAddExaminer_60 : decode cX7_doAddExaminer 60 = .ok (.invokevirtual 114, 3) := by decide +kernel
theorem dX7_doAddExaminer_63 : decode cX7_doAddExaminer 63 = .ok (.ireturn, 1) := by decide +kernel
theorem dX7_doAddExaminer_64 : decode cX7_doAddExaminer 64 = .ok (.bipush 44, 2) := by decide +kernel
theorem dX7_doAddExaminer_66 : decode cX7_doAddExaminer 66 = .ok (.iconst 4, 1) := by decide +kernel
theorem dX7_doAddExaminer_67 : decode cX7_doAddExaminer 67 = .ok (.iload 5, 2) := by decide +kernel
theorem dX7_doAddExaminer_69 : decode cX7_doAddExaminer 69 = .ok (.imul, 1) := by decide +kernel
theorem dX7_doAddExaminer_70 : decode cX7_doAddExaminer 70 = .ok (.iadd, 1) := by decide +kernel
theorem dX7_doAddExaminer_71 : decode cX7_doAddExaminer 71 = .ok (.istore 6, 2) := by decide +kernel
theorem dX7_doAddExaminer_73 : decode cX7_doAddExaminer 73 = .ok (.aload_n 0, 1) := by decide +kernel
theorem dX7_doAddExaminer_74 : decode cX7_doAddExaminer 74 = .ok (.getfield 9, 3) := by decide +kernel
theorem dX7_doAddExaminer_77 : decode cX7_doAddExaminer 77 = .ok (.iload 6, 2) := by decide +kernel
theorem dX7_doAddExaminer_79 : decode cX7_doAddExaminer 79 = .ok (.iload_n 1, 1) := by decide +kernel
theorem dX7_doAddExaminer_80 : decode cX7_doAddExaminer 80 = .ok (.iastore, 1) := by decide +kernel
theorem dX7_doAddExaminer_81 : decode cX7_doAddExaminer 81 = .ok (.aload_n 0, 1) := by decide +kernel
theorem dX7_doAddExaminer_82 : decode cX7_doAddExaminer 82 = .ok (.getfield 9, 3) := by decide +kernel
theorem dX7_doAddExaminer_85 : decode cX7_doAddExaminer 85 = .ok (.iload 6, 2) := by decide +kernel
theorem dX7_doAddExaminer_87 : decode cX7_doAddExaminer 87 = .ok (.iconst 1, 1) := by decide +kernel
theorem dX7_doAddExaminer_88 : decode cX7_doAddExaminer 88 = .ok (.iadd, 1) := by decide +kernel
theorem dX7_doAddExaminer_89 : decode cX7_doAddExaminer 89 = .ok (.iload_n 2, 1) := by decide +kernel
theorem dX7_doAddExaminer_90 : decode cX7_doAddExaminer 90 = .ok (.iastore, 1) := by decide +kernel
theorem dX7_doAddExaminer_91 : decode cX7_doAddExaminer 91 = .ok (.aload_n 0, 1) := by decide +kernel
theorem dX7_doAddExaminer_92 : decode cX7_doAddExaminer 92 = .ok (.getfield 9, 3) := by decide +kernel
theorem dX7_doAddExaminer_95 : decode cX7_doAddExaminer 95 = .ok (.iload 6, 2) := by decide +kernel
theorem dX7_doAddExaminer_97 : decode cX7_doAddExaminer 97 = .ok (.iconst 2, 1) := by decide +kernel
theorem dX7_doAddExaminer_98 : decode cX7_doAddExaminer 98 = .ok (.iadd, 1) := by decide +kernel
theorem dX7_doAddExaminer_99 : decode cX7_doAddExaminer 99 = .ok (.iload_n 3, 1) := by decide +kernel
theorem dX7_doAddExaminer_100 : decode cX7_doAddExaminer 100 = .ok (.iastore, 1) := by decide +kernel
theorem dX7_doAddExaminer_101 : decode cX7_doAddExaminer 101 = .ok (.aload_n 0, 1) := by decide +kernel
theorem dX7_doAddExaminer_102 : decode cX7_doAddExaminer 102 = .ok (.getfield 9, 3) := by decide +kernel
theorem dX7_doAddExaminer_105 : decode cX7_doAddExaminer 105 = .ok (.iload 6, 2) := by decide +kernel
theorem dX7_doAddExaminer_107 : decode cX7_doAddExaminer 107 = .ok (.iconst 3, 1) := by decide +kernel
theorem dX7_doAddExaminer_108 : decode cX7_doAddExaminer 108 = .ok (.iadd, 1) := by decide +kernel
theorem dX7_doAddExaminer_109 : decode cX7_doAddExaminer 109 = .ok (.iload 4, 2) := by decide +kernel
theorem dX7_doAddExaminer_111 : decode cX7_doAddExaminer 111 = .ok (.iastore, 1) := by decide +kernel
theorem dX7_doAddExaminer_112 : decode cX7_doAddExaminer 112 = .ok (.aload_n 0, 1) := by decide +kernel
theorem dX7_doAddExaminer_113 : decode cX7_doAddExaminer 113 = .ok (.getfield 9, 3) := by decide +kernel
theorem dX7_doAddExaminer_116 : decode cX7_doAddExaminer 116 = .ok (.iconst 1, 1) := by decide +kernel
theorem dX7_doAddExaminer_117 : decode cX7_doAddExaminer 117 = .ok (.dup2, 1) := by decide +kernel
theorem dX7_doAddExaminer_118 : decode cX7_doAddExaminer 118 = .ok (.iaload, 1) := by decide +kernel
theorem dX7_doAddExaminer_119 : decode cX7_doAddExaminer 119 = .ok (.iconst 1, 1) := by decide +kernel
theorem dX7_doAddExaminer_120 : decode cX7_doAddExaminer 120 = .ok (.iadd, 1) := by decide +kernel
theorem dX7_doAddExaminer_121 : decode cX7_doAddExaminer 121 = .ok (.iastore, 1) := by decide +kernel
theorem dX7_doAddExaminer_122 : decode cX7_doAddExaminer 122 = .ok (.iload 5, 2) := by decide +kernel
theorem dX7_doAddExaminer_124 : decode cX7_doAddExaminer 124 = .ok (.ireturn, 1) := by decide +kernel
theorem dX7_addExaminer_0 : decode cX7_addExaminer 0 = .ok (.aload_n 0, 1) := by decide +kernel
theorem dX7_addExaminer_1 : decode cX7_addExaminer 1 = .ok (.invokevirtual 117, 3) := by decide +kernel
theorem dX7_addExaminer_4 : decode cX7_addExaminer 4 = .ok (.aload_n 0, 1) := by decide +kernel
theorem dX7_addExaminer_5 : decode cX7_addExaminer 5 = .ok (.aload_n 0, 1) := by decide +kernel
theorem dX7_addExaminer_6 : decode cX7_addExaminer 6 = .ok (.iload_n 1, 1) := by decide +kernel
theorem dX7_addExaminer_7 : decode cX7_addExaminer 7 = .ok (.iload_n 2, 1) := by decide +kernel
theorem dX7_addExaminer_8 : decode cX7_addExaminer 8 = .ok (.iload_n 3, 1) := by decide +kernel
theorem dX7_addExaminer_9 : decode cX7_addExaminer 9 = .ok (.iload 4, 2) := by decide +kernel
theorem dX7_addExaminer_11 : decode cX7_addExaminer 11 = .ok (.invokevirtual 126, 3) := by decide +kernel
theorem dX7_addExaminer_14 : decode cX7_addExaminer 14 = .ok (.invokevirtual 123, 3) := by decide +kernel
theorem dX7_addExaminer_17 : decode cX7_addExaminer 17 = .ok (.ireturn, 1) := by decide +kernel
theorem dX7_doConflict_0 : decode cX7_doConflict 0 = .ok (.aload_n 0, 1) := by decide +kernel
theorem dX7_doConflict_1 : decode cX7_doConflict 1 = .ok (.iload_n 1, 1) := by decide +kernel
theorem dX7_doConflict_2 : decode cX7_doConflict 2 = .ok (.iload_n 2, 1) := by decide +kernel
theorem dX7_doConflict_3 : decode cX7_doConflict 3 = .ok (.invokevirtual 130, 3) := by decide +kernel
theorem dX7_doConflict_6 : decode cX7_doConflict 6 = .ok (.ifCond .ne 9, 3) := by decide +kernel
theorem dX7_doConflict_9 : decode cX7_doConflict 9 = .ok (.aload_n 0, 1) := by decide +kernel
theorem dX7_doConflict_10 : decode cX7_doConflict 10 = .ok (.iconst 1, 1) := by decide +kernel
theorem dX7_doConflict_11 : decode cX7_doConflict 11 = .ok (.invokevirtual 114, 3) := by decide +kernel
theorem dX7_doConflict_14 : decode cX7_doConflict 14 = .ok (.ireturn, 1) := by decide +kernel
theorem dX7_doConflict_15 : decode cX7_doConflict 15 = .ok (.aload_n 0, 1) := by decide +kernel
theorem dX7_doConflict_16 : decode cX7_doConflict 16 = .ok (.iload_n 1, 1) := by decide +kernel
theorem dX7_doConflict_17 : decode cX7_doConflict 17 = .ok (.iload_n 2, 1) := by decide +kernel
theorem dX7_doConflict_18 : decode cX7_doConflict 18 = .ok (.iconst 0, 1) := by decide +kernel
theorem dX7_doConflict_19 : decode cX7_doConflict 19 = .ok (.invokevirtual 85, 3) := by decide +kernel
theorem dX7_doConflict_22 : decode cX7_doConflict 22 = .ok (.iconst 1, 1) := by decide +kernel
theorem dX7_doConflict_23 : decode cX7_doConflict 23 = .ok (.if_icmp .eq 12, 3) := by decide +kernel
theorem dX7_doConflict_26 : decode cX7_doConflict 26 = .ok (.aload_n 0, 1) := by decide +kernel
theorem dX7_doConflict_27 : decode cX7_doConflict 27 = .ok (.iload_n 1, 1) := by decide +kernel
theorem dX7_doConflict_28 : decode cX7_doConflict 28 = .ok (.iload_n 2, 1) := by decide +kernel
theorem dX7_doConflict_29 : decode cX7_doConflict 29 = .ok (.invokevirtual 133, 3) := by decide +kernel
theorem dX7_doConflict_32 : decode cX7_doConflict 32 = .ok (.ifCond .eq 9, 3) := by decide +kernel
theorem dX7_doConflict_35 : decode cX7_doConflict 35 = .ok (.aload_n 0, 1) := by decide +kernel
theorem dX7_doConflict_36 : decode cX7_doConflict 36 = .ok (.iconst 2, 1) := by decide +kernel
theorem dX7_doConflict_37 : decode cX7_doConflict 37 = .ok (.invokevirtual 114, 3) := by decide +kernel
theorem dX7_doConflict_40 : decode cX7_doConflict 40 = .ok (.ireturn, 1) := by decide +kernel
theorem dX7_doConflict_41 : decode cX7_doConflict 41 = .ok (.aload_n 0, 1) := by decide +kernel
theorem dX7_doConflict_42 : decode cX7_doConflict 42 = .ok (.iload_n 1, 1) := by decide +kernel
theorem dX7_doConflict_43 : decode cX7_doConflict 43 = .ok (.iload_n 2, 1) := by decide +kernel
theorem dX7_doConflict_44 : decode cX7_doConflict 44 = .ok (.iconst 0, 1) := by decide +kernel
theorem dX7_doConflict_45 : decode cX7_doConflict 45 = .ok (.iconst 1, 1) := by decide +kernel
theorem dX7_doConflict_46 : decode cX7_doConflict 46 = .ok (.invokevirtual 136, 3) := by decide +kernel
theorem dX7_doConflict_49 : decode cX7_doConflict 49 = .ok (.iconst 0, 1) := by decide +kernel
theorem dX7_doConflict_50 : decode cX7_doConflict 50 = .ok (.istore_n 3, 1) := by decide +kernel
theorem dX7_doConflict_51 : decode cX7_doConflict 51 = .ok (.iconst 0, 1) := by decide +kernel
theorem dX7_doConflict_52 : decode cX7_doConflict 52 = .ok (.istore 4, 2) := by decide +kernel
theorem dX7_doConflict_54 : decode cX7_doConflict 54 = .ok (.iload 4, 2) := by decide +kernel
theorem dX7_doConflict_56 : decode cX7_doConflict 56 = .ok (.aload_n 0, 1) := by decide +kernel
theorem dX7_doConflict_57 : decode cX7_doConflict 57 = .ok (.getfield 9, 3) := by decide +kernel
theorem dX7_doConflict_60 : decode cX7_doConflict 60 = .ok (.iconst 1, 1) := by decide +kernel
theorem dX7_doConflict_61 : decode cX7_doConflict 61 = .ok (.iaload, 1) := by decide +kernel
theorem dX7_doConflict_62 : decode cX7_doConflict 62 = .ok (.if_icmp .ge 27, 3) := by decide +kernel
theorem dX7_doConflict_65 : decode cX7_doConflict 65 = .ok (.iload_n 3, 1) := by decide +kernel
theorem dX7_doConflict_66 : decode cX7_doConflict 66 = .ok (.aload_n 0, 1) := by decide +kernel
theorem dX7_doConflict_67 : decode cX7_doConflict 67 = .ok (.iload 4, 2) := by decide +kernel
theorem dX7_doConflict_69 : decode cX7_doConflict 69 = .ok (.iload_n 2, 1) := by decide +kernel
theorem dX7_doConflict_70 : decode cX7_doConflict 70 = .ok (.invokevirtual 89, 3) := by decide +kernel
theorem dX7_doConflict_73 : decode cX7_doConflict 73 = .ok (.ifCond .eq 7, 3) := by decide +kernel
theorem dX7_doConflict_76 : decode cX7_doConflict 76 = .ok (.iconst 1, 1) := by decide +kernel
theorem dX7_doConflict_77 : decode cX7_doConflict 77 = .ok (.goto 4, 3) := by decide +kernel
theorem dX7_doConflict_80 : decode cX7_doConflict 80 = .ok (.iconst 0, 1) := by decide +kernel
theorem dX7_doConflict_81 : decode cX7_doConflict 81 = .ok (.iadd, 1) := by decide +kernel
theorem dX7_doConflict_82 : decode cX7_doConflict 82 = .ok (.istore_n 3, 1) := by decide +kernel
theorem dX7_doConflict_83 : decode cX7_doConflict 83 = .ok (.iinc 4 1, 3) := by decide +kernel
theorem dX7_doConflict_86 : decode cX7_doConflict 86 = .ok (.goto (-32), 3) := by decide +kernel
theorem dX7_doConflict_89 : decode cX7_doConflict 89 = .ok (.iload_n 3, 1) := by decide +kernel
theorem dX7_doConflict_90 : decode cX7_doConflict 90 = .ok (.ireturn, 1) := by decide +kernel
theorem dX7_declareConflict_0 : decode cX7_declareConflict 0 = .ok (.aload_n 0, 1) := by decide +kernel
theorem dX7_declareConflict_1 : decode cX7_declareConflict 1 = .ok (.invokevirtual 117, 3) := by decide +kernel
theorem dX7_declareConflict_4 : decode cX7_declareConflict 4 = .ok (.aload_n 0, 1) := by decide +kernel
theorem dX7_declareConflict_5 : decode cX7_declareConflict 5 = .ok (.aload_n 0, 1) := by decide +kernel
theorem dX7_declareConflict_6 : decode cX7_declareConflict 6 = .ok (.iload_n 1, 1) := by decide +kernel
theorem dX7_declareConflict_7 : decode cX7_declareConflict 7 = .ok (.iload_n 2, 1) := by decide +kernel
theorem dX7_declareConflict_8 : decode cX7_declareConflict 8 = .ok (.invokevirtual 140, 3) := by decide +kernel
theorem dX7_declareConflict_11 : decode cX7_declareConflict 11 = .ok (.invokevirtual 123, 3) := by decide +kernel
theorem dX7_declareConflict_14 : decode cX7_declareConflict 14 = .ok (.ireturn, 1) := by decide +kernel
theorem dX7_doAssign_0 : decode cX7_doAssign 0 = .ok (.aload_n 0, 1) := by decide +kernel
theorem dX7_doAssign_1 : decode cX7_doAssign 1 = .ok (.iload_n 1, 1) := by decide +kernel
theorem dX7_doAssign_2 : decode cX7_doAssign 2 = .ok (.iload_n 2, 1) := by decide +kernel
theorem dX7_doAssign_3 : decode cX7_doAssign 3 = .ok (.invokevirtual 130, 3) := by decide +kernel
theorem dX7_doAssign_6 : decode cX7_doAssign 6 = .ok (.ifCond .ne 9, 3) := by decide +kernel
theorem dX7_doAssign_9 : decode cX7_doAssign 9 = .ok (.aload_n 0, 1) := by decide +kernel
theorem dX7_doAssign_10 : decode cX7_doAssign 10 = .ok (.iconst 1, 1) := by decide +kernel
theorem dX7_doAssign_11 : decode cX7_doAssign 11 = .ok (.invokevirtual 114, 3) := by decide +kernel
theorem dX7_doAssign_14 : decode cX7_doAssign 14 = .ok (.ireturn, 1) := by decide +kernel
theorem dX7_doAssign_15 : decode cX7_doAssign 15 = .ok (.aload_n 0, 1) := by decide +kernel
theorem dX7_doAssign_16 : decode cX7_doAssign 16 = .ok (.iload_n 2, 1) := by decide +kernel
theorem dX7_doAssign_17 : decode cX7_doAssign 17 = .ok (.invokevirtual 143, 3) := by decide +kernel
theorem dX7_doAssign_20 : decode cX7_doAssign 20 = .ok (.iconst 3, 1) := by decide +kernel
theorem dX7_doAssign_21 : decode cX7_doAssign 21 = .ok (.if_icmp .eq 17, 3) := by decide +kernel
theorem dX7_doAssign_24 : decode cX7_doAssign 24 = .ok (.aload_n 0, 1) := by decide +kernel
theorem dX7_doAssign_25 : decode cX7_doAssign 25 = .ok (.iload_n 1, 1) := by decide +kernel
theorem dX7_doAssign_26 : decode cX7_doAssign 26 = .ok (.invokevirtual 146, 3) := by decide +kernel
theorem dX7_doAssign_29 : decode cX7_doAssign 29 = .ok (.aload_n 0, 1) := by decide +kernel
theorem dX7_doAssign_30 : decode cX7_doAssign 30 = .ok (.iload_n 1, 1) := by decide +kernel
theorem dX7_doAssign_31 : decode cX7_doAssign 31 = .ok (.iconst 2, 1) := by decide +kernel
theorem dX7_doAssign_32 : decode cX7_doAssign 32 = .ok (.invokevirtual 78, 3) := by decide +kernel
theorem dX7_doAssign_35 : decode cX7_doAssign 35 = .ok (.if_icmp .ne 7, 3) := by decide +kernel
theorem dX7_doAssign_38 : decode cX7_doAssign 38 = .ok (.iconst 1, 1) := by decide +kernel
theorem dX7_doAssign_39 : decode cX7_doAssign 39 = .ok (.goto 4, 3) := by decide +kernel
theorem dX7_doAssign_42 : decode cX7_doAssign 42 = .ok (.iconst 0, 1) := by decide +kernel
theorem dX7_doAssign_43 : decode cX7_doAssign 43 = .ok (.istore_n 3, 1) := by decide +kernel
theorem dX7_doAssign_44 : decode cX7_doAssign 44 = .ok (.aload_n 0, 1) := by decide +kernel
theorem dX7_doAssign_45 : decode cX7_doAssign 45 = .ok (.iload_n 1, 1) := by decide +kernel
theorem dX7_doAssign_46 : decode cX7_doAssign 46 = .ok (.iload_n 2, 1) := by decide +kernel
theorem dX7_doAssign_47 : decode cX7_doAssign 47 = .ok (.invokevirtual 133, 3) := by decide +kernel
theorem dX7_doAssign_50 : decode cX7_doAssign 50 = .ok (.ifCond .ne 7, 3) := by decide +kernel
theorem dX7_doAssign_53 : decode cX7_doAssign 53 = .ok (.iload_n 3, 1) := by decide +kernel
theorem dX7_doAssign_54 : decode cX7_doAssign 54 = .ok (.ifCond .eq 9, 3) := by decide +kernel
theorem dX7_doAssign_57 : decode cX7_doAssign 57 = .ok (.aload_n 0, 1) := by decide +kernel
theorem dX7_doAssign_58 : decode cX7_doAssign 58 = .ok (.iconst 2, 1) := by decide +kernel
theorem dX7_doAssign_59 : decode cX7_doAssign 59 = .ok (.invokevirtual 114, 3) := by decide +kernel
theorem dX7_doAssign_62 : decode cX7_doAssign 62 = .ok (.ireturn, 1) := by decide +kernel
theorem dX7_doAssign_63 : decode cX7_doAssign 63 = .ok (.aload_n 0, 1) := by decide +kernel
theorem dX7_doAssign_64 : decode cX7_doAssign 64 = .ok (.iload_n 1, 1) := by decide +kernel
theorem dX7_doAssign_65 : decode cX7_doAssign 65 = .ok (.iload_n 2, 1) := by decide +kernel
theorem dX7_doAssign_66 : decode cX7_doAssign 66 = .ok (.invokevirtual 149, 3) := by decide +kernel
theorem dX7_doAssign_69 : decode cX7_doAssign 69 = .ok (.ifCond .ne 9, 3) := by decide +kernel
theorem dX7_doAssign_72 : decode cX7_doAssign 72 = .ok (.aload_n 0, 1) := by decide +kernel
theorem dX7_doAssign_73 : decode cX7_doAssign 73 = .ok (.iconst 3, 1) := by decide +kernel
theorem dX7_doAssign_74 : decode cX7_doAssign 74 = .ok (.invokevirtual 114, 3) := by decide +kernel
theorem dX7_doAssign_77 : decode cX7_doAssign 77 = .ok (.ireturn, 1) := by decide +kernel
theorem dX7_doAssign_78 : decode cX7_doAssign 78 = .ok (.aload_n 0, 1) := by decide +kernel
theorem dX7_doAssign_79 : decode cX7_doAssign 79 = .ok (.iload_n 1, 1) := by decide +kernel
theorem dX7_doAssign_80 : decode cX7_doAssign 80 = .ok (.iload_n 2, 1) := by decide +kernel
theorem dX7_doAssign_81 : decode cX7_doAssign 81 = .ok (.iconst 1, 1) := by decide +kernel
theorem dX7_doAssign_82 : decode cX7_doAssign 82 = .ok (.iconst 1, 1) := by decide +kernel
theorem dX7_doAssign_83 : decode cX7_doAssign 83 = .ok (.invokevirtual 136, 3) := by decide +kernel
theorem dX7_doAssign_86 : decode cX7_doAssign 86 = .ok (.aload_n 0, 1) := by decide +kernel
theorem dX7_doAssign_87 : decode cX7_doAssign 87 = .ok (.iload_n 2, 1) := by decide +kernel
theorem dX7_doAssign_88 : decode cX7_doAssign 88 = .ok (.invokevirtual 143, 3) := by decide +kernel
theorem dX7_doAssign_91 : decode cX7_doAssign 91 = .ok (.ireturn, 1) := by decide +kernel
theorem dX7_assign_0 : decode cX7_assign 0 = .ok (.aload_n 0, 1) := by decide +kernel
theorem dX7_assign_1 : decode cX7_assign 1 = .ok (.invokevirtual 117, 3) := by decide +kernel
theorem dX7_assign_4 : decode cX7_assign 4 = .ok (.aload_n 0, 1) := by decide +kernel
theorem dX7_assign_5 : decode cX7_assign 5 = .ok (.aload_n 0, 1) := by decide +kernel
theorem dX7_assign_6 : decode cX7_assign 6 = .ok (.iload_n 1, 1) := by decide +kernel
theorem dX7_assign_7 : decode cX7_assign 7 = .ok (.iload_n 2, 1) := by decide +kernel
theorem dX7_assign_8 : decode cX7_assign 8 = .ok (.invokevirtual 152, 3) := by decide +kernel
theorem dX7_assign_11 : decode cX7_assign 11 = .ok (.invokevirtual 123, 3) := by decide +kernel
theorem dX7_assign_14 : decode cX7_assign 14 = .ok (.ireturn, 1) := by decide +kernel
theorem dX7_canGet_0 : decode cX7_canGet 0 = .ok (.aload_n 0, 1) := by decide +kernel
theorem dX7_canGet_1 : decode cX7_canGet 1 = .ok (.iload_n 2, 1) := by decide +kernel
theorem dX7_canGet_2 : decode cX7_canGet 2 = .ok (.invokevirtual 143, 3) := by decide +kernel
theorem dX7_canGet_5 : decode cX7_canGet 5 = .ok (.iconst 3, 1) := by decide +kernel
theorem dX7_canGet_6 : decode cX7_canGet 6 = .ok (.if_icmp .ge 25, 3) := by decide +kernel
theorem dX7_canGet_9 : decode cX7_canGet 9 = .ok (.aload_n 0, 1) := by decide +kernel
theorem dX7_canGet_10 : decode cX7_canGet 10 = .ok (.iload_n 1, 1) := by decide +kernel
theorem dX7_canGet_11 : decode cX7_canGet 11 = .ok (.iload_n 2, 1) := by decide +kernel
theorem dX7_canGet_12 : decode cX7_canGet 12 = .ok (.invokevirtual 149, 3) := by decide +kernel
theorem dX7_canGet_15 : decode cX7_canGet 15 = .ok (.ifCond .eq 16, 3) := by decide +kernel
theorem dX7_canGet_18 : decode cX7_canGet 18 = .ok (.aload_n 0, 1) := by decide +kernel
theorem dX7_canGet_19 : decode cX7_canGet 19 = .ok (.iload_n 1, 1) := by decide +kernel
theorem dX7_canGet_20 : decode cX7_canGet 20 = .ok (.iload_n 2, 1) := by decide +kernel
theorem dX7_canGet_21 : decode cX7_canGet 21 = .ok (.invokevirtual 133, 3) := by decide +kernel
theorem dX7_canGet_24 : decode cX7_canGet 24 = .ok (.ifCond .ne 7, 3) := by decide +kernel
theorem dX7_canGet_27 : decode cX7_canGet 27 = .ok (.iconst 1, 1) := by decide +kernel
theorem dX7_canGet_28 : decode cX7_canGet 28 = .ok (.goto 4, 3) := by decide +kernel
theorem dX7_canGet_31 : decode cX7_canGet 31 = .ok (.iconst 0, 1) := by decide +kernel
theorem dX7_canGet_32 : decode cX7_canGet 32 = .ok (.ireturn, 1) := by decide +kernel
theorem dX7_seat_0 : decode cX7_seat 0 = .ok (.iconst 0, 1) := by decide +kernel
theorem dX7_seat_1 : decode cX7_seat 1 = .ok (.istore_n 2, 1) := by decide +kernel
theorem dX7_seat_2 : decode cX7_seat 2 = .ok (.iload_n 2, 1) := by decide +kernel
theorem dX7_seat_3 : decode cX7_seat 3 = .ok (.aload_n 0, 1) := by decide +kernel
theorem dX7_seat_4 : decode cX7_seat 4 = .ok (.getfield 9, 3) := by decide +kernel
theorem dX7_seat_7 : decode cX7_seat 7 = .ok (.iconst 1, 1) := by decide +kernel
theorem dX7_seat_8 : decode cX7_seat 8 = .ok (.iaload, 1) := by decide +kernel
theorem dX7_seat_9 : decode cX7_seat 9 = .ok (.if_icmp .ge 93, 3) := by decide +kernel
theorem dX7_seat_12 : decode cX7_seat 12 = .ok (.aload_n 0, 1) := by decide +kernel
theorem dX7_seat_13 : decode cX7_seat 13 = .ok (.getfield 28, 3) := by decide +kernel
theorem dX7_seat_16 : decode cX7_seat 16 = .ok (.iload_n 2, 1) := by decide +kernel
theorem dX7_seat_17 : decode cX7_seat 17 = .ok (.baload, 1) := by decide +kernel
theorem dX7_seat_18 : decode cX7_seat 18 = .ok (.ifCond .ne 78, 3) := by decide +kernel
theorem dX7_seat_21 : decode cX7_seat 21 = .ok (.aload_n 0, 1) := by decide +kernel
theorem dX7_seat_22 : decode cX7_seat 22 = .ok (.iload_n 2, 1) := by decide +kernel
theorem dX7_seat_23 : decode cX7_seat 23 = .ok (.iload_n 1, 1) := by decide +kernel
theorem dX7_seat_24 : decode cX7_seat 24 = .ok (.invokevirtual 155, 3) := by decide +kernel
theorem dX7_seat_27 : decode cX7_seat 27 = .ok (.ifCond .eq 69, 3) := by decide +kernel
theorem dX7_seat_30 : decode cX7_seat 30 = .ok (.aload_n 0, 1) := by decide +kernel
theorem dX7_seat_31 : decode cX7_seat 31 = .ok (.getfield 28, 3) := by decide +kernel
theorem dX7_seat_34 : decode cX7_seat 34 = .ok (.iload_n 2, 1) := by decide +kernel
theorem dX7_seat_35 : decode cX7_seat 35 = .ok (.iconst 1, 1) := by decide +kernel
theorem dX7_seat_36 : decode cX7_seat 36 = .ok (.bastore, 1) := by decide +kernel
theorem dX7_seat_37 : decode cX7_seat 37 = .ok (.iconst 0, 1) := by decide +kernel
theorem dX7_seat_38 : decode cX7_seat 38 = .ok (.istore_n 3, 1) := by decide +kernel
theorem dX7_seat_39 : decode cX7_seat 39 = .ok (.iload_n 3, 1) := by decide +kernel
theorem dX7_seat_40 : decode cX7_seat 40 = .ok (.aload_n 0, 1) := by decide +kernel
theorem dX7_seat_41 : decode cX7_seat 41 = .ok (.getfield 22, 3) := by decide +kernel
theorem dX7_seat_44 : decode cX7_seat 44 = .ok (.iload_n 2, 1) := by decide +kernel
theorem dX7_seat_45 : decode cX7_seat 45 = .ok (.iaload, 1) := by decide +kernel
theorem dX7_seat_46 : decode cX7_seat 46 = .ok (.if_icmp .ge 50, 3) := by decide +kernel
theorem dX7_seat_49 : decode cX7_seat 49 = .ok (.iconst 4, 1) := by decide +kernel
theorem dX7_seat_50 : decode cX7_seat 50 = .ok (.iload_n 2, 1) := by decide +kernel
theorem dX7_seat_51 : decode cX7_seat 51 = .ok (.imul, 1) := by decide +kernel
theorem dX7_seat_52 : decode cX7_seat 52 = .ok (.iload_n 3, 1) := by decide +kernel
theorem dX7_seat_53 : decode cX7_seat 53 = .ok (.iadd, 1) := by decide +kernel
theorem dX7_seat_54 : decode cX7_seat 54 = .ok (.istore 4, 2) := by decide +kernel
theorem dX7_seat_56 : decode cX7_seat 56 = .ok (.aload_n 0, 1) := by decide +kernel
theorem dX7_seat_57 : decode cX7_seat 57 = .ok (.getfield 25, 3) := by decide +kernel
theorem dX7_seat_60 : decode cX7_seat 60 = .ok (.iload 4, 2) := by decide +kernel
theorem dX7_seat_62 : decode cX7_seat 62 = .ok (.iaload, 1) := by decide +kernel
theorem dX7_seat_63 : decode cX7_seat 63 = .ok (.ifCond .lt 17, 3) := by decide +kernel
theorem dX7_seat_66 : decode cX7_seat 66 = .ok (.aload_n 0, 1) := by decide +kernel
theorem dX7_seat_67 : decode cX7_seat 67 = .ok (.aload_n 0, 1) := by decide +kernel
theorem dX7_seat_68 : decode cX7_seat 68 = .ok (.getfield 25, 3) := by decide +kernel
theorem dX7_seat_71 : decode cX7_seat 71 = .ok (.iload 4, 2) := by decide +kernel
theorem dX7_seat_73 : decode cX7_seat 73 = .ok (.iaload, 1) := by decide +kernel
theorem dX7_seat_74 : decode cX7_seat 74 = .ok (.invokevirtual 158, 3) := by decide +kernel
theorem dX7_seat_77 : decode cX7_seat 77 = .ok (.ifCond .eq 13, 3) := by decide +kernel
theorem dX7_seat_80 : decode cX7_seat 80 = .ok (.aload_n 0, 1) := by decide +kernel
theorem dX7_seat_81 : decode cX7_seat 81 = .ok (.getfield 25, 3) := by decide +kernel
theorem dX7_seat_84 : decode cX7_seat 84 = .ok (.iload 4, 2) := by decide +kernel
theorem dX7_seat_86 : decode cX7_seat 86 = .ok (.iload_n 1, 1) := by decide +kernel
theorem dX7_seat_87 : decode cX7_seat 87 = .ok (.iastore, 1) := by decide +kernel
theorem dX7_seat_88 : decode cX7_seat 88 = .ok (.iconst 1, 1) := by decide +kernel
theorem dX7_seat_89 : decode cX7_seat 89 = .ok (.ireturn, 1) := by decide +kernel
theorem dX7_seat_90 : decode cX7_seat 90 = .ok (.iinc 3 1, 3) := by decide +kernel
theorem dX7_seat_93 : decode cX7_seat 93 = .ok (.goto (-54), 3) := by decide +kernel
theorem dX7_seat_96 : decode cX7_seat 96 = .ok (.iinc 2 1, 3) := by decide +kernel
theorem dX7_seat_99 : decode cX7_seat 99 = .ok (.goto (-97), 3) := by decide +kernel
theorem dX7_seat_102 : decode cX7_seat 102 = .ok (.iconst 0, 1) := by decide +kernel
theorem dX7_seat_103 : decode cX7_seat 103 = .ok (.ireturn, 1) := by decide +kernel
theorem dX7_mostFrom_0 : decode cX7_mostFrom 0 = .ok (.iconst 0, 1) := by decide +kernel
theorem dX7_mostFrom_1 : decode cX7_mostFrom 1 = .ok (.istore_n 2, 1) := by decide +kernel
theorem dX7_mostFrom_2 : decode cX7_mostFrom 2 = .ok (.iload_n 2, 1) := by decide +kernel
theorem dX7_mostFrom_3 : decode cX7_mostFrom 3 = .ok (.aload_n 0, 1) := by decide +kernel
theorem dX7_mostFrom_4 : decode cX7_mostFrom 4 = .ok (.getfield 25, 3) := by decide +kernel
theorem dX7_mostFrom_7 : decode cX7_mostFrom 7 = .ok (.arraylength, 1) := by decide +kernel
theorem dX7_mostFrom_8 : decode cX7_mostFrom 8 = .ok (.if_icmp .ge 16, 3) := by decide +kernel
theorem dX7_mostFrom_11 : decode cX7_mostFrom 11 = .ok (.aload_n 0, 1) := by decide +kernel
theorem dX7_mostFrom_12 : decode cX7_mostFrom 12 = .ok (.getfield 25, 3) := by decide +kernel
theorem dX7_mostFrom_15 : decode cX7_mostFrom 15 = .ok (.iload_n 2, 1) := by decide +kernel
theorem dX7_mostFrom_16 : decode cX7_mostFrom 16 = .ok (.iconst (-1), 1) := by decide +kernel
theorem dX7_mostFrom_17 : decode cX7_mostFrom 17 = .ok (.iastore, 1) := by decide +kernel
theorem dX7_mostFrom_18 : decode cX7_mostFrom 18 = .ok (.iinc 2 1, 3) := by decide +kernel
theorem dX7_mostFrom_21 : decode cX7_mostFrom 21 = .ok (.goto (-19), 3) := by decide +kernel
theorem dX7_mostFrom_24 : decode cX7_mostFrom 24 = .ok (.iconst 0, 1) := by decide +kernel
theorem dX7_mostFrom_25 : decode cX7_mostFrom 25 = .ok (.istore_n 2, 1) := by decide +kernel
theorem dX7_mostFrom_26 : decode cX7_mostFrom 26 = .ok (.iload_n 1, 1) := by decide +kernel
theorem dX7_mostFrom_27 : decode cX7_mostFrom 27 = .ok (.istore_n 3, 1) := by decide +kernel
theorem dX7_mostFrom_28 : decode cX7_mostFrom 28 = .ok (.iload_n 3, 1) := by decide +kernel
theorem dX7_mostFrom_29 : decode cX7_mostFrom 29 = .ok (.aload_n 0, 1) := by decide +kernel
theorem dX7_mostFrom_30 : decode cX7_mostFrom 30 = .ok (.getfield 9, 3) := by decide +kernel
theorem dX7_mostFrom_33 : decode cX7_mostFrom 33 = .ok (.iconst 0, 1) := by decide +kernel
theorem dX7_mostFrom_34 : decode cX7_mostFrom 34 = .ok (.iaload, 1) := by decide +kernel
theorem dX7_mostFrom_35 : decode cX7_mostFrom 35 = .ok (.if_icmp .ge 49, 3) := by decide +kernel
theorem dX7_mostFrom_38 : decode cX7_mostFrom 38 = .ok (.iconst 0, 1) := by decide +kernel
theorem dX7_mostFrom_39 : decode cX7_mostFrom 39 = .ok (.istore 4, 2) := by decide +kernel
theorem dX7_mostFrom_41 : decode cX7_mostFrom 41 = .ok (.iload 4, 2) := by decide +kernel
theorem dX7_mostFrom_43 : decode cX7_mostFrom 43 = .ok (.bipush 6, 2) := by decide +kernel
theorem dX7_mostFrom_45 : decode cX7_mostFrom 45 = .ok (.if_icmp .ge 17, 3) := by decide +kernel
theorem dX7_mostFrom_48 : decode cX7_mostFrom 48 = .ok (.aload_n 0, 1) := by decide +kernel
theorem dX7_mostFrom_49 : decode cX7_mostFrom 49 = .ok (.getfield 28, 3) := by decide +kernel
theorem dX7_mostFrom_52 : decode cX7_mostFrom 52 = .ok (.iload 4, 2) := by decide +kernel
theorem dX7_mostFrom_54 : decode cX7_mostFrom 54 = .ok (.iconst 0, 1) := by decide +kernel
theorem dX7_mostFrom_55 : decode cX7_mostFrom 55 = .ok (.bastore, 1) := by decide +kernel
theorem dX7_mostFrom_56 : decode cX7_mostFrom 56 = .ok (.iinc 4 1, 3) := by decide +kernel
theorem dX7_mostFrom_59 : decode cX7_mostFrom 59 = .ok (.goto (-18), 3) := by decide +kernel
theorem dX7_mostFrom_62 : decode cX7_mostFrom 62 = .ok (.iload_n 2, 1) := by decide +kernel
theorem dX7_mostFrom_63 : decode cX7_mostFrom 63 = .ok (.aload_n 0, 1) := by decide +kernel
theorem dX7_mostFrom_64 : decode cX7_mostFrom 64 = .ok (.iload_n 3, 1) := by decide +kernel
theorem dX7_mostFrom_65 : decode cX7_mostFrom 65 = .ok (.invokevirtual 158, 3) := by decide +kernel
theorem dX7_mostFrom_68 : decode cX7_mostFrom 68 = .ok (.ifCond .eq 7, 3) := by decide +kernel
theorem dX7_mostFrom_71 : decode cX7_mostFrom 71 = .ok (.iconst 1, 1) := by decide +kernel
theorem dX7_mostFrom_72 : decode cX7_mostFrom 72 = .ok (.goto 4, 3) := by decide +kernel
theorem dX7_mostFrom_75 : decode cX7_mostFrom 75 = .ok (.iconst 0, 1) := by decide +kernel
theorem dX7_mostFrom_76 : decode cX7_mostFrom 76 = .ok (.iadd, 1) := by decide +kernel
theorem dX7_mostFrom_77 : decode cX7_mostFrom 77 = .ok (.istore_n 2, 1) := by decide +kernel
theorem dX7_mostFrom_78 : decode cX7_mostFrom 78 = .ok (.iinc 3 1, 3) := by decide +kernel
theorem dX7_mostFrom_81 : decode cX7_mostFrom 81 = .ok (.goto (-53), 3) := by decide +kernel
theorem dX7_mostFrom_84 : decode cX7_mostFrom 84 = .ok (.iload_n 2, 1) := by decide +kernel
theorem dX7_mostFrom_85 : decode cX7_mostFrom 85 = .ok (.ireturn, 1) := by decide +kernel
theorem dX7_countsSeats_0 : decode cX7_countsSeats 0 = .ok (.iconst 0, 1) := by decide +kernel
theorem dX7_countsSeats_1 : decode cX7_countsSeats 1 = .ok (.istore_n 1, 1) := by decide +kernel
theorem dX7_countsSeats_2 : decode cX7_countsSeats 2 = .ok (.iload_n 1, 1) := by decide +kernel
theorem dX7_countsSeats_3 : decode cX7_countsSeats 3 = .ok (.aload_n 0, 1) := by decide +kernel
theorem dX7_countsSeats_4 : decode cX7_countsSeats 4 = .ok (.getfield 9, 3) := by decide +kernel
theorem dX7_countsSeats_7 : decode cX7_countsSeats 7 = .ok (.iconst 1, 1) := by decide +kernel
theorem dX7_countsSeats_8 : decode cX7_countsSeats 8 = .ok (.iaload, 1) := by decide +kernel
