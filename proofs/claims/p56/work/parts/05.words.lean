/-! The words of the tables that stay true, each by its place. -/
def sw_all : List Cond := lw_tbl.filter goodWord
theorem sw_q {w : Cond} (h : w ∈ lw_tbl) (hg : goodWord w = true) : w ∈ sw_all := List.mem_filter.mpr ⟨h, hg⟩
theorem sw_q_tbl {w : Cond} (h : w ∈ sw_all) : w ∈ lw_tbl := (List.mem_filter.mp h).1
theorem qt_1 : ∀ w ∈ tables_1_1, w ∈ lw_tbl := fun w h => List.mem_append_right _ (List.mem_append_left _ h)
theorem qt_2 : ∀ w ∈ tables_1_2, w ∈ lw_tbl := fun w h => List.mem_append_right _ (List.mem_append_right _ (List.mem_append_left _ h))
theorem qt_3 : ∀ w ∈ tables_1_3, w ∈ lw_tbl := fun w h => List.mem_append_right _ (List.mem_append_right _ (List.mem_append_right _ (List.mem_append_left _ h)))
theorem qt_4 : ∀ w ∈ tables_1_4, w ∈ lw_tbl := fun w h => List.mem_append_right _ (List.mem_append_right _ (List.mem_append_right _ (List.mem_append_right _ (List.mem_append_left _ h))))
theorem qt_5 : ∀ w ∈ tables_1_5, w ∈ lw_tbl := fun w h => List.mem_append_right _ (List.mem_append_right _ (List.mem_append_right _ (List.mem_append_right _ (List.mem_append_right _ (List.mem_append_left _ h)))))
theorem qt_6 : ∀ w ∈ tables_1_6, w ∈ lw_tbl := fun w h => List.mem_append_right _ (List.mem_append_right _ (List.mem_append_right _ (List.mem_append_right _ (List.mem_append_right _ (List.mem_append_right _ (List.mem_append_left _ h))))))
theorem qt_7 : ∀ w ∈ tables_1_7, w ∈ lw_tbl := fun w h => List.mem_append_right _ (List.mem_append_right _ (List.mem_append_right _ (List.mem_append_right _ (List.mem_append_right _ (List.mem_append_right _ (List.mem_append_right _ (h)))))))
theorem q_1 : Cond.initialized RL ∈ sw_all := sw_q (qt_1 _ (List.mem_of_getElem? (i := 0) rfl)) rfl
theorem q_2 : Cond.initialized RX6 ∈ sw_all := sw_q (qt_1 _ (List.mem_of_getElem? (i := 1) rfl)) rfl
theorem q_3 : Cond.initialized RX5 ∈ sw_all := sw_q (qt_1 _ (List.mem_of_getElem? (i := 2) rfl)) rfl
theorem q_4 : Cond.initialized RX0 ∈ sw_all := sw_q (qt_1 _ (List.mem_of_getElem? (i := 3) rfl)) rfl
theorem q_5 : Cond.initialized RX3 ∈ sw_all := sw_q (qt_1 _ (List.mem_of_getElem? (i := 4) rfl)) rfl
theorem q_6 : Cond.initialized RX2 ∈ sw_all := sw_q (qt_1 _ (List.mem_of_getElem? (i := 5) rfl)) rfl
theorem q_7 : Cond.initialized RX4 ∈ sw_all := sw_q (qt_1 _ (List.mem_of_getElem? (i := 6) rfl)) rfl
theorem q_8 : Cond.initialized RX1 ∈ sw_all := sw_q (qt_1 _ (List.mem_of_getElem? (i := 7) rfl)) rfl
theorem q_9 : Cond.initialized "java/lang/Throwable" ∈ sw_all := sw_q (qt_1 _ (List.mem_of_getElem? (i := 8) rfl)) rfl
theorem q_10 : Cond.initialized "java/lang/Exception" ∈ sw_all := sw_q (qt_1 _ (List.mem_of_getElem? (i := 9) rfl)) rfl
theorem q_11 : Cond.initialized "java/lang/RuntimeException" ∈ sw_all := sw_q (qt_1 _ (List.mem_of_getElem? (i := 10) rfl)) rfl
theorem q_12 : Cond.initialized "java/lang/IndexOutOfBoundsException" ∈ sw_all := sw_q (qt_1 _ (List.mem_of_getElem? (i := 11) rfl)) rfl
theorem q_13 : Cond.initialized "java/lang/IllegalArgumentException" ∈ sw_all := sw_q (qt_1 _ (List.mem_of_getElem? (i := 12) rfl)) rfl
theorem q_14 : Cond.initialized "java/lang/IllegalStateException" ∈ sw_all := sw_q (qt_1 _ (List.mem_of_getElem? (i := 13) rfl)) rfl
theorem q_15 : Cond.initialized "java/lang/UnsupportedOperationException" ∈ sw_all := sw_q (qt_1 _ (List.mem_of_getElem? (i := 14) rfl)) rfl
theorem q_16 : Cond.initialized "java/util/NoSuchElementException" ∈ sw_all := sw_q (qt_1 _ (List.mem_of_getElem? (i := 15) rfl)) rfl
theorem q_17 : Cond.initialized RJ9 ∈ sw_all := sw_q (qt_1 _ (List.mem_of_getElem? (i := 16) rfl)) rfl
theorem q_18 : Cond.initialized RJx00060 ∈ sw_all := sw_q (qt_1 _ (List.mem_of_getElem? (i := 17) rfl)) rfl
theorem q_19 : Cond.initialized RJ0 ∈ sw_all := sw_q (qt_1 _ (List.mem_of_getElem? (i := 18) rfl)) rfl
theorem q_20 : Cond.initialized RJxd2413 ∈ sw_all := sw_q (qt_1 _ (List.mem_of_getElem? (i := 19) rfl)) rfl
theorem q_21 : Cond.initialized RJ6 ∈ sw_all := sw_q (qt_1 _ (List.mem_of_getElem? (i := 20) rfl)) rfl
theorem q_22 : Cond.initialized "java/lang/ArithmeticException" ∈ sw_all := sw_q (qt_1 _ (List.mem_of_getElem? (i := 21) rfl)) rfl
theorem q_23 : Cond.initialized RJ5 ∈ sw_all := sw_q (qt_1 _ (List.mem_of_getElem? (i := 22) rfl)) rfl
theorem q_24 : Cond.initialized RJ4 ∈ sw_all := sw_q (qt_1 _ (List.mem_of_getElem? (i := 23) rfl)) rfl
theorem q_25 : Cond.initialized RJ2 ∈ sw_all := sw_q (qt_1 _ (List.mem_of_getElem? (i := 24) rfl)) rfl
theorem q_26 : Cond.initialized RJ8 ∈ sw_all := sw_q (qt_1 _ (List.mem_of_getElem? (i := 25) rfl)) rfl
theorem q_27 : Cond.initialized RJ7 ∈ sw_all := sw_q (qt_1 _ (List.mem_of_getElem? (i := 26) rfl)) rfl
theorem q_28 : Cond.initialized RJ10 ∈ sw_all := sw_q (qt_1 _ (List.mem_of_getElem? (i := 27) rfl)) rfl
theorem q_29 : Cond.initialized RJ3 ∈ sw_all := sw_q (qt_1 _ (List.mem_of_getElem? (i := 28) rfl)) rfl
theorem q_30 : Cond.initialized RJ1 ∈ sw_all := sw_q (qt_1 _ (List.mem_of_getElem? (i := 29) rfl)) rfl
theorem q_31 : Cond.methodLink RL 200 yL_drawn ∈ sw_all := sw_q (qt_1 _ (List.mem_of_getElem? (i := 30) rfl)) rfl
theorem q_32 : Cond.static yL_drawn ∈ sw_all := sw_q (qt_1 _ (List.mem_of_getElem? (i := 31) rfl)) rfl
theorem q_33 : Cond.code yL_drawn method_42_code 11 (Option.some (.object "DoorAcademy")) ∈ sw_all := sw_q (qt_1 _ (List.mem_of_getElem? (i := 32) rfl)) rfl
theorem q_34 : Cond.classLink RL 9 RX6 ∈ sw_all := sw_q (qt_1 _ (List.mem_of_getElem? (i := 33) rfl)) rfl
theorem q_35 : Cond.instantiable RX6 10 ∈ sw_all := sw_q (qt_1 _ (List.mem_of_getElem? (i := 34) rfl)) rfl
theorem q_36 : Cond.methodLink RL 161 yX6_init ∈ sw_all := sw_q (qt_1 _ (List.mem_of_getElem? (i := 35) rfl)) rfl
theorem q_37 : Cond.instanceMethod yX6_init ∈ sw_all := sw_q (qt_1 _ (List.mem_of_getElem? (i := 36) rfl)) rfl
theorem q_38 : Cond.code yX6_init prog_1_method_1_code 1 none ∈ sw_all := sw_q (qt_1 _ (List.mem_of_getElem? (i := 37) rfl)) rfl
theorem q_39 : Cond.methodLink RX6 1 ⟨"java/lang/Object", "<init>", "()V"⟩ ∈ sw_all := sw_q (qt_1 _ (List.mem_of_getElem? (i := 38) rfl)) rfl
theorem q_40 : Cond.instanceMethod ⟨"java/lang/Object", "<init>", "()V"⟩ ∈ sw_all := sw_q (qt_1 _ (List.mem_of_getElem? (i := 39) rfl)) rfl
theorem q_41 : Cond.code ⟨"java/lang/Object", "<init>", "()V"⟩ object_method_1_code 1 none ∈ sw_all := sw_q (qt_1 _ (List.mem_of_getElem? (i := 40) rfl)) rfl
theorem q_42 : Cond.classLink RX6 7 RX5 ∈ sw_all := sw_q (qt_1 _ (List.mem_of_getElem? (i := 41) rfl)) rfl
theorem q_43 : Cond.instantiable RX5 17 ∈ sw_all := sw_q (qt_1 _ (List.mem_of_getElem? (i := 42) rfl)) rfl
theorem q_44 : Cond.methodLink RX6 9 yX5_init ∈ sw_all := sw_q (qt_1 _ (List.mem_of_getElem? (i := 43) rfl)) rfl
theorem q_45 : Cond.instanceMethod yX5_init ∈ sw_all := sw_q (qt_1 _ (List.mem_of_getElem? (i := 44) rfl)) rfl
theorem q_46 : Cond.code yX5_init prog_7_method_1_code 3 none ∈ sw_all := sw_q (qt_1 _ (List.mem_of_getElem? (i := 45) rfl)) rfl
theorem q_47 : Cond.methodLink RX5 3 ⟨"java/lang/Object", "<init>", "()V"⟩ ∈ sw_all := sw_q (qt_1 _ (List.mem_of_getElem? (i := 46) rfl)) rfl
theorem q_48 : Cond.classLink RX5 53 "[[I" ∈ sw_all := sw_q (qt_1 _ (List.mem_of_getElem? (i := 47) rfl)) rfl
theorem q_49 : Cond.fieldLink RX5 9 "DoorAcademy$State" "appealed" "I" ∈ sw_all := sw_q (qt_1 _ (List.mem_of_getElem? (i := 49) rfl)) rfl
theorem q_50 : Cond.fieldLink RX2 37 "DoorAcademy$State" "appealed" "I" ∈ sw_all := sw_q (qt_1 _ (List.mem_of_getElem? (i := 50) rfl)) rfl
theorem q_51 : Cond.fieldLink RX5 15 "DoorAcademy$State" "granted" "I" ∈ sw_all := sw_q (qt_1 _ (List.mem_of_getElem? (i := 51) rfl)) rfl
theorem q_52 : Cond.fieldLink RX2 52 "DoorAcademy$State" "granted" "I" ∈ sw_all := sw_q (qt_1 _ (List.mem_of_getElem? (i := 52) rfl)) rfl
theorem q_53 : Cond.fieldLink RX6 146 "DoorAcademy$State" "granted" "I" ∈ sw_all := sw_q (qt_1 _ (List.mem_of_getElem? (i := 53) rfl)) rfl
theorem q_54 : Cond.fieldLink RX5 18 "DoorAcademy$State" "revoked" "I" ∈ sw_all := sw_q (qt_1 _ (List.mem_of_getElem? (i := 54) rfl)) rfl
theorem q_55 : Cond.fieldLink RX6 222 "DoorAcademy$State" "revoked" "I" ∈ sw_all := sw_q (qt_1 _ (List.mem_of_getElem? (i := 55) rfl)) rfl
theorem q_56 : Cond.fieldLink RX5 21 "DoorAcademy$State" "doors" "I" ∈ sw_all := sw_q (qt_1 _ (List.mem_of_getElem? (i := 56) rfl)) rfl
theorem q_57 : Cond.fieldLink RX3 67 "DoorAcademy$State" "doors" "I" ∈ sw_all := sw_q (qt_1 _ (List.mem_of_getElem? (i := 57) rfl)) rfl
theorem q_58 : Cond.fieldLink RX6 116 "DoorAcademy$State" "doors" "I" ∈ sw_all := sw_q (qt_1 _ (List.mem_of_getElem? (i := 58) rfl)) rfl
theorem q_59 : Cond.fieldLink RX5 24 "DoorAcademy$State" "doorFrames" "[C" ∈ sw_all := sw_q (qt_1 _ (List.mem_of_getElem? (i := 59) rfl)) rfl
theorem q_60 : Cond.fieldLink RX1 19 "DoorAcademy$State" "doorFrames" "[C" ∈ sw_all := sw_q (qt_1 _ (List.mem_of_getElem? (i := 60) rfl)) rfl
theorem q_61 : Cond.fieldLink RX6 123 "DoorAcademy$State" "doorFrames" "[C" ∈ sw_all := sw_q (qt_1 _ (List.mem_of_getElem? (i := 61) rfl)) rfl
theorem q_62 : Cond.fieldLink RX5 28 "DoorAcademy$State" "doorTopics" "[I" ∈ sw_all := sw_q (qt_1 _ (List.mem_of_getElem? (i := 62) rfl)) rfl
theorem q_63 : Cond.fieldLink RX1 28 "DoorAcademy$State" "doorTopics" "[I" ∈ sw_all := sw_q (qt_1 _ (List.mem_of_getElem? (i := 63) rfl)) rfl
theorem q_64 : Cond.fieldLink RX6 127 "DoorAcademy$State" "doorTopics" "[I" ∈ sw_all := sw_q (qt_1 _ (List.mem_of_getElem? (i := 64) rfl)) rfl
theorem q_65 : Cond.fieldLink RX5 32 "DoorAcademy$State" "examiners" "I" ∈ sw_all := sw_q (qt_1 _ (List.mem_of_getElem? (i := 65) rfl)) rfl
theorem q_66 : Cond.fieldLink RX1 36 "DoorAcademy$State" "examiners" "I" ∈ sw_all := sw_q (qt_1 _ (List.mem_of_getElem? (i := 66) rfl)) rfl
theorem q_67 : Cond.fieldLink RX2 55 "DoorAcademy$State" "examiners" "I" ∈ sw_all := sw_q (qt_1 _ (List.mem_of_getElem? (i := 67) rfl)) rfl
theorem q_68 : Cond.fieldLink RX3 84 "DoorAcademy$State" "examiners" "I" ∈ sw_all := sw_q (qt_1 _ (List.mem_of_getElem? (i := 68) rfl)) rfl
theorem q_69 : Cond.fieldLink RX6 159 "DoorAcademy$State" "examiners" "I" ∈ sw_all := sw_q (qt_1 _ (List.mem_of_getElem? (i := 69) rfl)) rfl
theorem q_70 : Cond.fieldLink RX5 35 "DoorAcademy$State" "examinerFrames" "[C" ∈ sw_all := sw_q (qt_1 _ (List.mem_of_getElem? (i := 70) rfl)) rfl
theorem q_71 : Cond.fieldLink RX1 59 "DoorAcademy$State" "examinerFrames" "[C" ∈ sw_all := sw_q (qt_1 _ (List.mem_of_getElem? (i := 71) rfl)) rfl
theorem q_72 : Cond.fieldLink RX2 65 "DoorAcademy$State" "examinerFrames" "[C" ∈ sw_all := sw_q (qt_1 _ (List.mem_of_getElem? (i := 72) rfl)) rfl
theorem q_73 : Cond.fieldLink RX6 165 "DoorAcademy$State" "examinerFrames" "[C" ∈ sw_all := sw_q (qt_1 _ (List.mem_of_getElem? (i := 73) rfl)) rfl
theorem q_74 : Cond.fieldLink RX5 38 "DoorAcademy$State" "topicSets" "[I" ∈ sw_all := sw_q (qt_1 _ (List.mem_of_getElem? (i := 74) rfl)) rfl
theorem q_75 : Cond.fieldLink RX1 68 "DoorAcademy$State" "topicSets" "[I" ∈ sw_all := sw_q (qt_1 _ (List.mem_of_getElem? (i := 75) rfl)) rfl
theorem q_76 : Cond.fieldLink RX5 41 "DoorAcademy$State" "capacities" "[I" ∈ sw_all := sw_q (qt_1 _ (List.mem_of_getElem? (i := 76) rfl)) rfl
theorem q_77 : Cond.fieldLink RX1 65 "DoorAcademy$State" "capacities" "[I" ∈ sw_all := sw_q (qt_1 _ (List.mem_of_getElem? (i := 77) rfl)) rfl
theorem q_78 : Cond.fieldLink RX5 44 "DoorAcademy$State" "leniences" "[I" ∈ sw_all := sw_q (qt_1 _ (List.mem_of_getElem? (i := 78) rfl)) rfl
theorem q_79 : Cond.fieldLink RX1 74 "DoorAcademy$State" "leniences" "[I" ∈ sw_all := sw_q (qt_1 _ (List.mem_of_getElem? (i := 79) rfl)) rfl
theorem q_80 : Cond.fieldLink RX2 58 "DoorAcademy$State" "leniences" "[I" ∈ sw_all := sw_q (qt_1 _ (List.mem_of_getElem? (i := 80) rfl)) rfl
theorem q_81 : Cond.fieldLink RX5 47 "DoorAcademy$State" "conflicts" "[I" ∈ sw_all := sw_q (qt_1 _ (List.mem_of_getElem? (i := 81) rfl)) rfl
theorem q_82 : Cond.fieldLink RX5 50 "DoorAcademy$State" "assignments" "[I" ∈ sw_all := sw_q (qt_1 _ (List.mem_of_getElem? (i := 82) rfl)) rfl
theorem q_83 : Cond.fieldLink RX5 55 "DoorAcademy$State" "grades" "[[I" ∈ sw_all := sw_q (qt_1 _ (List.mem_of_getElem? (i := 83) rfl)) rfl
theorem q_84 : Cond.fieldLink RX1 43 "DoorAcademy$State" "grades" "[[I" ∈ sw_all := sw_q (qt_1 _ (List.mem_of_getElem? (i := 84) rfl)) rfl
theorem q_85 : Cond.fieldLink RX6 184 "DoorAcademy$State" "grades" "[[I" ∈ sw_all := sw_q (qt_1 _ (List.mem_of_getElem? (i := 85) rfl)) rfl
theorem q_86 : Cond.fieldLink RX5 58 "DoorAcademy$State" "threshold" "I" ∈ sw_all := sw_q (qt_1 _ (List.mem_of_getElem? (i := 86) rfl)) rfl
theorem q_87 : Cond.fieldLink RX2 33 "DoorAcademy$State" "threshold" "I" ∈ sw_all := sw_q (qt_1 _ (List.mem_of_getElem? (i := 87) rfl)) rfl
theorem q_88 : Cond.fieldLink RX6 210 "DoorAcademy$State" "threshold" "I" ∈ sw_all := sw_q (qt_1 _ (List.mem_of_getElem? (i := 88) rfl)) rfl
theorem q_89 : Cond.fieldLink RX5 61 "DoorAcademy$State" "entries" "I" ∈ sw_all := sw_q (qt_1 _ (List.mem_of_getElem? (i := 89) rfl)) rfl
theorem q_90 : Cond.fieldLink RX6 213 "DoorAcademy$State" "entries" "I" ∈ sw_all := sw_q (qt_1 _ (List.mem_of_getElem? (i := 90) rfl)) rfl
theorem q_91 : Cond.fieldLink RX5 64 "DoorAcademy$State" "entryDoors" "[I" ∈ sw_all := sw_q (qt_1 _ (List.mem_of_getElem? (i := 91) rfl)) rfl
theorem q_92 : Cond.fieldLink RX6 219 "DoorAcademy$State" "entryDoors" "[I" ∈ sw_all := sw_q (qt_1 _ (List.mem_of_getElem? (i := 92) rfl)) rfl
theorem q_93 : Cond.classLink RX6 23 RX0 ∈ sw_all := sw_q (qt_1 _ (List.mem_of_getElem? (i := 130) rfl)) rfl
theorem q_94 : Cond.instantiable RX0 3 ∈ sw_all := sw_q (qt_1 _ (List.mem_of_getElem? (i := 131) rfl)) rfl
theorem q_95 : Cond.methodLink RX6 25 yX0_init ∈ sw_all := sw_q (qt_1 _ (List.mem_of_getElem? (i := 132) rfl)) rfl
theorem q_96 : Cond.instanceMethod yX0_init ∈ sw_all := sw_q (qt_1 _ (List.mem_of_getElem? (i := 133) rfl)) rfl
theorem q_97 : Cond.code yX0_init prog_2_method_1_code 2 none ∈ sw_all := sw_q (qt_1 _ (List.mem_of_getElem? (i := 134) rfl)) rfl
theorem q_98 : Cond.methodLink RX0 3 ⟨"java/lang/Object", "<init>", "()V"⟩ ∈ sw_all := sw_q (qt_1 _ (List.mem_of_getElem? (i := 135) rfl)) rfl
theorem q_99 : Cond.classLink RX0 9 RX5 ∈ sw_all := sw_q (qt_1 _ (List.mem_of_getElem? (i := 136) rfl)) rfl
theorem q_100 : Cond.methodLink RX0 22 yX5_init ∈ sw_all := sw_q (qt_1 _ (List.mem_of_getElem? (i := 138) rfl)) rfl
theorem q_101 : Cond.fieldLink RX0 11 "DoorAcademy$History" "slots" "[LDoorAcademy$State;" ∈ sw_all := sw_q (qt_1 _ (List.mem_of_getElem? (i := 139) rfl)) rfl
theorem q_102 : Cond.fieldLink RX0 15 "DoorAcademy$History" "free" "I" ∈ sw_all := sw_q (qt_1 _ (List.mem_of_getElem? (i := 140) rfl)) rfl
theorem q_103 : Cond.fieldLink RX0 19 "DoorAcademy$History" "kept" "I" ∈ sw_all := sw_q (qt_1 _ (List.mem_of_getElem? (i := 141) rfl)) rfl
theorem q_104 : Cond.fieldLink RX6 304 "DoorAcademy$History" "kept" "I" ∈ sw_all := sw_q (qt_1 _ (List.mem_of_getElem? (i := 142) rfl)) rfl
theorem q_105 : Cond.classLink RX6 30 RX3 ∈ sw_all := sw_q (qt_1 _ (List.mem_of_getElem? (i := 150) rfl)) rfl
theorem q_106 : Cond.instantiable RX3 9 ∈ sw_all := sw_q (qt_1 _ (List.mem_of_getElem? (i := 151) rfl)) rfl
theorem q_107 : Cond.instanceMethod yX3_init ∈ sw_all := sw_q (qt_1 _ (List.mem_of_getElem? (i := 153) rfl)) rfl
theorem q_108 : Cond.code yX3_init prog_5_method_1_code 1 none ∈ sw_all := sw_q (qt_1 _ (List.mem_of_getElem? (i := 154) rfl)) rfl
theorem q_109 : Cond.methodLink RX3 3 ⟨"java/lang/Object", "<init>", "()V"⟩ ∈ sw_all := sw_q (qt_1 _ (List.mem_of_getElem? (i := 155) rfl)) rfl
theorem q_110 : Cond.fieldLink RX3 9 "DoorAcademy$Planner" "doors" "I" ∈ sw_all := sw_q (qt_1 _ (List.mem_of_getElem? (i := 156) rfl)) rfl
theorem q_111 : Cond.fieldLink RX3 15 "DoorAcademy$Planner" "candidates" "[I" ∈ sw_all := sw_q (qt_1 _ (List.mem_of_getElem? (i := 157) rfl)) rfl
theorem q_112 : Cond.fieldLink RX3 19 "DoorAcademy$Planner" "room" "[I" ∈ sw_all := sw_q (qt_1 _ (List.mem_of_getElem? (i := 158) rfl)) rfl
theorem q_113 : Cond.fieldLink RX3 22 "DoorAcademy$Planner" "choices" "[I" ∈ sw_all := sw_q (qt_1 _ (List.mem_of_getElem? (i := 159) rfl)) rfl
theorem q_114 : Cond.fieldLink RX6 91 "DoorAcademy$Planner" "choices" "[I" ∈ sw_all := sw_q (qt_1 _ (List.mem_of_getElem? (i := 160) rfl)) rfl
theorem q_115 : Cond.fieldLink RX3 25 "DoorAcademy$Planner" "given" "[I" ∈ sw_all := sw_q (qt_1 _ (List.mem_of_getElem? (i := 161) rfl)) rfl
theorem q_116 : Cond.fieldLink RX3 28 "DoorAcademy$Planner" "used" "[I" ∈ sw_all := sw_q (qt_1 _ (List.mem_of_getElem? (i := 162) rfl)) rfl
theorem q_117 : Cond.fieldLink RX3 31 "DoorAcademy$Planner" "reachedFrom" "[I" ∈ sw_all := sw_q (qt_1 _ (List.mem_of_getElem? (i := 163) rfl)) rfl
theorem q_118 : Cond.fieldLink RX3 34 "DoorAcademy$Planner" "queue" "[I" ∈ sw_all := sw_q (qt_1 _ (List.mem_of_getElem? (i := 164) rfl)) rfl
theorem q_119 : Cond.fieldLink RX3 37 "DoorAcademy$Planner" "reachable" "[Z" ∈ sw_all := sw_q (qt_1 _ (List.mem_of_getElem? (i := 165) rfl)) rfl
theorem q_120 : Cond.classLink RX6 37 RX2 ∈ sw_all := sw_q (qt_1 _ (List.mem_of_getElem? (i := 186) rfl)) rfl
theorem q_121 : Cond.instantiable RX2 1 ∈ sw_all := sw_q (qt_1 _ (List.mem_of_getElem? (i := 187) rfl)) rfl
theorem q_122 : Cond.instanceMethod yX2_init ∈ sw_all := sw_q (qt_1 _ (List.mem_of_getElem? (i := 189) rfl)) rfl
theorem q_123 : Cond.code yX2_init prog_4_method_1_code 1 none ∈ sw_all := sw_q (qt_1 _ (List.mem_of_getElem? (i := 190) rfl)) rfl
theorem q_124 : Cond.methodLink RX2 3 ⟨"java/lang/Object", "<init>", "()V"⟩ ∈ sw_all := sw_q (qt_1 _ (List.mem_of_getElem? (i := 191) rfl)) rfl
theorem q_125 : Cond.fieldLink RX2 11 "DoorAcademy$Panels" "suitableByFrame" "[I" ∈ sw_all := sw_q (qt_1 _ (List.mem_of_getElem? (i := 192) rfl)) rfl
theorem q_126 : Cond.classLink RX6 44 RX4 ∈ sw_all := sw_q (qt_1 _ (List.mem_of_getElem? (i := 196) rfl)) rfl
theorem q_127 : Cond.instantiable RX4 5 ∈ sw_all := sw_q (qt_1 _ (List.mem_of_getElem? (i := 197) rfl)) rfl
theorem q_128 : Cond.instanceMethod yX4_init ∈ sw_all := sw_q (qt_1 _ (List.mem_of_getElem? (i := 199) rfl)) rfl
theorem q_129 : Cond.code yX4_init prog_6_method_1_code 1 none ∈ sw_all := sw_q (qt_1 _ (List.mem_of_getElem? (i := 200) rfl)) rfl
theorem q_130 : Cond.methodLink RX4 5 ⟨"java/lang/Object", "<init>", "()V"⟩ ∈ sw_all := sw_q (qt_1 _ (List.mem_of_getElem? (i := 201) rfl)) rfl
theorem q_131 : Cond.classLink RX4 26 "[[I" ∈ sw_all := sw_q (qt_1 _ (List.mem_of_getElem? (i := 202) rfl)) rfl
theorem q_132 : Cond.fieldLink RX4 11 "DoorAcademy$Program" "text" "[C" ∈ sw_all := sw_q (qt_1 _ (List.mem_of_getElem? (i := 203) rfl)) rfl
theorem q_133 : Cond.fieldLink RX4 15 "DoorAcademy$Program" "length" "I" ∈ sw_all := sw_q (qt_1 _ (List.mem_of_getElem? (i := 204) rfl)) rfl
theorem q_134 : Cond.fieldLink RX6 259 "DoorAcademy$Program" "length" "I" ∈ sw_all := sw_q (qt_1 _ (List.mem_of_getElem? (i := 205) rfl)) rfl
theorem q_135 : Cond.fieldLink RX4 19 "DoorAcademy$Program" "commands" "I" ∈ sw_all := sw_q (qt_1 _ (List.mem_of_getElem? (i := 206) rfl)) rfl
theorem q_136 : Cond.fieldLink RX6 268 "DoorAcademy$Program" "commands" "I" ∈ sw_all := sw_q (qt_1 _ (List.mem_of_getElem? (i := 207) rfl)) rfl
theorem q_137 : Cond.fieldLink RX4 22 "DoorAcademy$Program" "kinds" "[I" ∈ sw_all := sw_q (qt_1 _ (List.mem_of_getElem? (i := 208) rfl)) rfl
theorem q_138 : Cond.fieldLink RX6 271 "DoorAcademy$Program" "kinds" "[I" ∈ sw_all := sw_q (qt_1 _ (List.mem_of_getElem? (i := 209) rfl)) rfl
theorem q_139 : Cond.fieldLink RX4 28 "DoorAcademy$Program" "operands" "[[I" ∈ sw_all := sw_q (qt_1 _ (List.mem_of_getElem? (i := 210) rfl)) rfl
theorem q_140 : Cond.fieldLink RX6 274 "DoorAcademy$Program" "operands" "[[I" ∈ sw_all := sw_q (qt_1 _ (List.mem_of_getElem? (i := 211) rfl)) rfl
theorem q_141 : Cond.classLink RX6 51 RX1 ∈ sw_all := sw_q (qt_1 _ (List.mem_of_getElem? (i := 223) rfl)) rfl
theorem q_142 : Cond.instantiable RX1 2 ∈ sw_all := sw_q (qt_1 _ (List.mem_of_getElem? (i := 224) rfl)) rfl
theorem q_143 : Cond.instanceMethod yX1_init ∈ sw_all := sw_q (qt_1 _ (List.mem_of_getElem? (i := 226) rfl)) rfl
theorem q_144 : Cond.code yX1_init prog_3_method_1_code 1 none ∈ sw_all := sw_q (qt_1 _ (List.mem_of_getElem? (i := 227) rfl)) rfl
theorem q_145 : Cond.methodLink RX1 3 ⟨"java/lang/Object", "<init>", "()V"⟩ ∈ sw_all := sw_q (qt_1 _ (List.mem_of_getElem? (i := 228) rfl)) rfl
theorem q_146 : Cond.fieldLink RX1 11 "DoorAcademy$Line" "characters" "[C" ∈ sw_all := sw_q (qt_1 _ (List.mem_of_getElem? (i := 229) rfl)) rfl
theorem q_147 : Cond.fieldLink RX6 301 "DoorAcademy$Line" "characters" "[C" ∈ sw_all := sw_q (qt_1 _ (List.mem_of_getElem? (i := 230) rfl)) rfl
theorem q_148 : Cond.fieldLink RX1 15 "DoorAcademy$Line" "length" "I" ∈ sw_all := sw_q (qt_1 _ (List.mem_of_getElem? (i := 231) rfl)) rfl
theorem q_149 : Cond.fieldLink RX6 294 "DoorAcademy$Line" "length" "I" ∈ sw_all := sw_q (qt_1 _ (List.mem_of_getElem? (i := 232) rfl)) rfl
theorem q_150 : Cond.fieldLink RX6 10 "DoorAcademy" "present" "LDoorAcademy$State;" ∈ sw_all := sw_q (qt_1 _ (List.mem_of_getElem? (i := 238) rfl)) rfl
theorem q_151 : Cond.fieldLink RX6 16 "DoorAcademy" "saved" "LDoorAcademy$State;" ∈ sw_all := sw_q (qt_1 _ (List.mem_of_getElem? (i := 239) rfl)) rfl
theorem q_152 : Cond.fieldLink RX6 19 "DoorAcademy" "hasSaved" "Z" ∈ sw_all := sw_q (qt_2 _ (List.mem_of_getElem? (i := 0) rfl)) rfl
theorem q_153 : Cond.fieldLink RX6 26 "DoorAcademy" "history" "LDoorAcademy$History;" ∈ sw_all := sw_q (qt_2 _ (List.mem_of_getElem? (i := 1) rfl)) rfl
theorem q_154 : Cond.fieldLink RX6 33 "DoorAcademy" "planner" "LDoorAcademy$Planner;" ∈ sw_all := sw_q (qt_2 _ (List.mem_of_getElem? (i := 2) rfl)) rfl
theorem q_155 : Cond.fieldLink RX6 40 "DoorAcademy" "panels" "LDoorAcademy$Panels;" ∈ sw_all := sw_q (qt_2 _ (List.mem_of_getElem? (i := 3) rfl)) rfl
theorem q_156 : Cond.fieldLink RX6 47 "DoorAcademy" "program" "LDoorAcademy$Program;" ∈ sw_all := sw_q (qt_2 _ (List.mem_of_getElem? (i := 4) rfl)) rfl
theorem q_157 : Cond.fieldLink RX6 54 "DoorAcademy" "line" "LDoorAcademy$Line;" ∈ sw_all := sw_q (qt_2 _ (List.mem_of_getElem? (i := 5) rfl)) rfl
theorem q_158 : Cond.fieldLink RX6 58 "DoorAcademy" "storedErrorPosition" "I" ∈ sw_all := sw_q (qt_2 _ (List.mem_of_getElem? (i := 6) rfl)) rfl
theorem q_159 : Cond.fieldLink RX6 62 "DoorAcademy" "storedFailedCommand" "I" ∈ sw_all := sw_q (qt_2 _ (List.mem_of_getElem? (i := 7) rfl)) rfl
theorem q_160 : Cond.methodLink RL 162 yL_cell ∈ sw_all := sw_q (qt_2 _ (List.mem_of_getElem? (i := 29) rfl)) rfl
theorem q_161 : Cond.static yL_cell ∈ sw_all := sw_q (qt_2 _ (List.mem_of_getElem? (i := 30) rfl)) rfl
theorem q_162 : Cond.code yL_cell method_2_code 2 (Option.some .int) ∈ sw_all := sw_q (qt_2 _ (List.mem_of_getElem? (i := 31) rfl)) rfl
theorem q_163 : Cond.constant RL 7 40503 ∈ sw_all := sw_q (qt_2 _ (List.mem_of_getElem? (i := 32) rfl)) rfl
theorem q_164 : Cond.methodLink RL 166 yL_addDoor ∈ sw_all := sw_q (qt_2 _ (List.mem_of_getElem? (i := 33) rfl)) rfl
theorem q_165 : Cond.static yL_addDoor ∈ sw_all := sw_q (qt_2 _ (List.mem_of_getElem? (i := 34) rfl)) rfl
theorem q_166 : Cond.classLink RL 14 "java/lang/IllegalArgumentException" ∈ sw_all := sw_q (qt_2 _ (List.mem_of_getElem? (i := 36) rfl)) rfl
theorem q_167 : Cond.classLink RL 16 "java/lang/IllegalStateException" ∈ sw_all := sw_q (qt_2 _ (List.mem_of_getElem? (i := 37) rfl)) rfl
theorem q_168 : Cond.methodLink RL 8 yX6_addDoor ∈ sw_all := sw_q (qt_2 _ (List.mem_of_getElem? (i := 38) rfl)) rfl
theorem q_169 : Cond.instanceMethod yX6_addDoor ∈ sw_all := sw_q (qt_2 _ (List.mem_of_getElem? (i := 39) rfl)) rfl
theorem q_170 : Cond.selects RX6 yX6_addDoor yX6_addDoor ∈ sw_all := sw_q (qt_2 _ (List.mem_of_getElem? (i := 40) rfl)) rfl
theorem q_171 : Cond.code yX6_addDoor prog_1_method_2_code 3 (Option.some .int) ∈ sw_all := sw_q (qt_2 _ (List.mem_of_getElem? (i := 41) rfl)) rfl
theorem q_172 : Cond.methodLink RX6 65 yX0_prepare ∈ sw_all := sw_q (qt_2 _ (List.mem_of_getElem? (i := 42) rfl)) rfl
theorem q_173 : Cond.instanceMethod yX0_prepare ∈ sw_all := sw_q (qt_2 _ (List.mem_of_getElem? (i := 43) rfl)) rfl
theorem q_174 : Cond.selects RX0 yX0_prepare yX0_prepare ∈ sw_all := sw_q (qt_2 _ (List.mem_of_getElem? (i := 44) rfl)) rfl
theorem q_175 : Cond.code yX0_prepare prog_2_method_2_code 2 none ∈ sw_all := sw_q (qt_2 _ (List.mem_of_getElem? (i := 45) rfl)) rfl
theorem q_176 : Cond.methodLink RX0 23 yX5_copyFrom ∈ sw_all := sw_q (qt_2 _ (List.mem_of_getElem? (i := 46) rfl)) rfl
theorem q_177 : Cond.instanceMethod yX5_copyFrom ∈ sw_all := sw_q (qt_2 _ (List.mem_of_getElem? (i := 47) rfl)) rfl
theorem q_178 : Cond.selects RX5 yX5_copyFrom yX5_copyFrom ∈ sw_all := sw_q (qt_2 _ (List.mem_of_getElem? (i := 48) rfl)) rfl
theorem q_179 : Cond.code yX5_copyFrom prog_7_method_2_code 4 none ∈ sw_all := sw_q (qt_2 _ (List.mem_of_getElem? (i := 49) rfl)) rfl
theorem q_180 : Cond.methodLink RX6 69 yX5_tryNewDoor ∈ sw_all := sw_q (qt_2 _ (List.mem_of_getElem? (i := 50) rfl)) rfl
theorem q_181 : Cond.instanceMethod yX5_tryNewDoor ∈ sw_all := sw_q (qt_2 _ (List.mem_of_getElem? (i := 51) rfl)) rfl
theorem q_182 : Cond.selects RX5 yX5_tryNewDoor yX5_tryNewDoor ∈ sw_all := sw_q (qt_2 _ (List.mem_of_getElem? (i := 52) rfl)) rfl
theorem q_183 : Cond.code yX5_tryNewDoor prog_7_method_24_code 3 (Option.some .int) ∈ sw_all := sw_q (qt_2 _ (List.mem_of_getElem? (i := 53) rfl)) rfl
theorem q_184 : Cond.static yX6_isFrame ∈ sw_all := sw_q (qt_2 _ (List.mem_of_getElem? (i := 55) rfl)) rfl
theorem q_185 : Cond.code yX6_isFrame prog_1_method_65_code 1 (Option.some .boolean) ∈ sw_all := sw_q (qt_2 _ (List.mem_of_getElem? (i := 56) rfl)) rfl
theorem q_186 : Cond.methodLink RX6 73 yX6_conclude ∈ sw_all := sw_q (qt_2 _ (List.mem_of_getElem? (i := 57) rfl)) rfl
theorem q_187 : Cond.instanceMethod yX6_conclude ∈ sw_all := sw_q (qt_2 _ (List.mem_of_getElem? (i := 59) rfl)) rfl
theorem q_188 : Cond.code yX6_conclude prog_1_method_55_code 2 (Option.some .int) ∈ sw_all := sw_q (qt_2 _ (List.mem_of_getElem? (i := 60) rfl)) rfl
theorem q_189 : Cond.methodLink RX6 316 yX6_refuse ∈ sw_all := sw_q (qt_2 _ (List.mem_of_getElem? (i := 61) rfl)) rfl
theorem q_190 : Cond.static yX6_refuse ∈ sw_all := sw_q (qt_2 _ (List.mem_of_getElem? (i := 62) rfl)) rfl
theorem q_191 : Cond.code yX6_refuse prog_1_method_56_code 1 none ∈ sw_all := sw_q (qt_2 _ (List.mem_of_getElem? (i := 63) rfl)) rfl
theorem q_192 : Cond.classLink RX6 298 "java/lang/IndexOutOfBoundsException" ∈ sw_all := sw_q (qt_2 _ (List.mem_of_getElem? (i := 64) rfl)) rfl
theorem q_193 : Cond.instantiable "java/lang/IndexOutOfBoundsException" 6 ∈ sw_all := sw_q (qt_2 _ (List.mem_of_getElem? (i := 65) rfl)) rfl
theorem q_194 : Cond.selects "java/lang/IndexOutOfBoundsException" ⟨"java/lang/Throwable", "fillInStackTrace", "(I)Ljava/lang/Throwable;"⟩ ⟨"java/lang/Throwable", "fillInStackTrace", "(I)Ljava/lang/Throwable;"⟩ ∈ sw_all := sw_q (qt_2 _ (List.mem_of_getElem? (i := 73) rfl)) rfl
theorem q_195 : Cond.selects "java/lang/IndexOutOfBoundsException" ⟨"java/lang/Throwable", "fillInStackTrace", "()Ljava/lang/Throwable;"⟩ ⟨"java/lang/Throwable", "fillInStackTrace", "()Ljava/lang/Throwable;"⟩ ∈ sw_all := sw_q (qt_2 _ (List.mem_of_getElem? (i := 74) rfl)) rfl
theorem q_196 : Cond.fieldLink "java/lang/Throwable" 198 "java/lang/Throwable" "backtrace" "Ljava/lang/Object;" ∈ sw_all := sw_q (qt_2 _ (List.mem_of_getElem? (i := 85) rfl)) rfl
theorem q_197 : Cond.instanceMethod ⟨"java/lang/Throwable", "<init>", "()V"⟩ ∈ sw_all := sw_q (qt_2 _ (List.mem_of_getElem? (i := 87) rfl)) rfl
theorem q_198 : Cond.code ⟨"java/lang/Throwable", "<init>", "()V"⟩ prog_31_method_1_code 1 none ∈ sw_all := sw_q (qt_2 _ (List.mem_of_getElem? (i := 88) rfl)) rfl
theorem q_199 : Cond.methodLink "java/lang/Throwable" 1 ⟨"java/lang/Object", "<init>", "()V"⟩ ∈ sw_all := sw_q (qt_2 _ (List.mem_of_getElem? (i := 89) rfl)) rfl
theorem q_200 : Cond.fieldLink "java/lang/Throwable" 13 "java/lang/Throwable" "UNASSIGNED_STACK" "[Ljava/lang/StackTraceElement;" ∈ sw_all := sw_q (qt_2 _ (List.mem_of_getElem? (i := 90) rfl)) rfl
theorem q_201 : Cond.fieldLink "java/lang/Throwable" 20 "java/lang/Throwable" "SUPPRESSED_SENTINEL" "Ljava/util/List;" ∈ sw_all := sw_q (qt_2 _ (List.mem_of_getElem? (i := 92) rfl)) rfl
theorem q_202 : Cond.methodLink "java/lang/Throwable" 27 ⟨"java/lang/Throwable", "fillInStackTrace", "()Ljava/lang/Throwable;"⟩ ∈ sw_all := sw_q (qt_2 _ (List.mem_of_getElem? (i := 94) rfl)) rfl
theorem q_203 : Cond.instanceMethod ⟨"java/lang/Throwable", "fillInStackTrace", "()Ljava/lang/Throwable;"⟩ ∈ sw_all := sw_q (qt_2 _ (List.mem_of_getElem? (i := 95) rfl)) rfl
theorem q_204 : Cond.selects "java/lang/ArithmeticException" ⟨"java/lang/Throwable", "fillInStackTrace", "()Ljava/lang/Throwable;"⟩ ⟨"java/lang/Throwable", "fillInStackTrace", "()Ljava/lang/Throwable;"⟩ ∈ sw_all := sw_q (qt_2 _ (List.mem_of_getElem? (i := 97) rfl)) rfl
theorem q_205 : Cond.selects RJx00060 ⟨"java/lang/Throwable", "fillInStackTrace", "()Ljava/lang/Throwable;"⟩ ⟨"java/lang/Throwable", "fillInStackTrace", "()Ljava/lang/Throwable;"⟩ ∈ sw_all := sw_q (qt_2 _ (List.mem_of_getElem? (i := 98) rfl)) rfl
theorem q_206 : Cond.selects "java/lang/IllegalArgumentException" ⟨"java/lang/Throwable", "fillInStackTrace", "()Ljava/lang/Throwable;"⟩ ⟨"java/lang/Throwable", "fillInStackTrace", "()Ljava/lang/Throwable;"⟩ ∈ sw_all := sw_q (qt_2 _ (List.mem_of_getElem? (i := 99) rfl)) rfl
theorem q_207 : Cond.selects "java/lang/IllegalStateException" ⟨"java/lang/Throwable", "fillInStackTrace", "()Ljava/lang/Throwable;"⟩ ⟨"java/lang/Throwable", "fillInStackTrace", "()Ljava/lang/Throwable;"⟩ ∈ sw_all := sw_q (qt_2 _ (List.mem_of_getElem? (i := 100) rfl)) rfl
theorem q_208 : Cond.selects "java/lang/UnsupportedOperationException" ⟨"java/lang/Throwable", "fillInStackTrace", "()Ljava/lang/Throwable;"⟩ ⟨"java/lang/Throwable", "fillInStackTrace", "()Ljava/lang/Throwable;"⟩ ∈ sw_all := sw_q (qt_2 _ (List.mem_of_getElem? (i := 101) rfl)) rfl
theorem q_209 : Cond.selects "java/util/NoSuchElementException" ⟨"java/lang/Throwable", "fillInStackTrace", "()Ljava/lang/Throwable;"⟩ ⟨"java/lang/Throwable", "fillInStackTrace", "()Ljava/lang/Throwable;"⟩ ∈ sw_all := sw_q (qt_2 _ (List.mem_of_getElem? (i := 102) rfl)) rfl
theorem q_210 : Cond.methodLink "java/lang/Throwable" 202 ⟨"java/lang/Throwable", "fillInStackTrace", "(I)Ljava/lang/Throwable;"⟩ ∈ sw_all := sw_q (qt_2 _ (List.mem_of_getElem? (i := 104) rfl)) rfl
theorem q_211 : Cond.instanceMethod ⟨"java/lang/Throwable", "fillInStackTrace", "(I)Ljava/lang/Throwable;"⟩ ∈ sw_all := sw_q (qt_2 _ (List.mem_of_getElem? (i := 106) rfl)) rfl
theorem q_212 : Cond.instantiable "java/lang/Throwable" 6 ∈ sw_all := sw_q (qt_2 _ (List.mem_of_getElem? (i := 107) rfl)) rfl
theorem q_213 : Cond.native ⟨"java/lang/Throwable", "fillInStackTrace", "(I)Ljava/lang/Throwable;"⟩ ∈ sw_all := sw_q (qt_2 _ (List.mem_of_getElem? (i := 108) rfl)) rfl
theorem q_214 : Cond.methodLink RX6 300 ⟨"java/lang/IndexOutOfBoundsException", "<init>", "()V"⟩ ∈ sw_all := sw_q (qt_2 _ (List.mem_of_getElem? (i := 109) rfl)) rfl
theorem q_215 : Cond.instanceMethod ⟨"java/lang/IndexOutOfBoundsException", "<init>", "()V"⟩ ∈ sw_all := sw_q (qt_2 _ (List.mem_of_getElem? (i := 110) rfl)) rfl
theorem q_216 : Cond.code ⟨"java/lang/IndexOutOfBoundsException", "<init>", "()V"⟩ prog_21_method_1_code 1 none ∈ sw_all := sw_q (qt_2 _ (List.mem_of_getElem? (i := 111) rfl)) rfl
theorem q_217 : Cond.methodLink "java/lang/IndexOutOfBoundsException" 1 ⟨"java/lang/RuntimeException", "<init>", "()V"⟩ ∈ sw_all := sw_q (qt_2 _ (List.mem_of_getElem? (i := 112) rfl)) rfl
theorem q_218 : Cond.instanceMethod ⟨"java/lang/RuntimeException", "<init>", "()V"⟩ ∈ sw_all := sw_q (qt_2 _ (List.mem_of_getElem? (i := 113) rfl)) rfl
theorem q_219 : Cond.code ⟨"java/lang/RuntimeException", "<init>", "()V"⟩ prog_25_method_1_code 1 none ∈ sw_all := sw_q (qt_2 _ (List.mem_of_getElem? (i := 114) rfl)) rfl
theorem q_220 : Cond.methodLink "java/lang/RuntimeException" 1 ⟨"java/lang/Exception", "<init>", "()V"⟩ ∈ sw_all := sw_q (qt_2 _ (List.mem_of_getElem? (i := 115) rfl)) rfl
theorem q_221 : Cond.instanceMethod ⟨"java/lang/Exception", "<init>", "()V"⟩ ∈ sw_all := sw_q (qt_2 _ (List.mem_of_getElem? (i := 116) rfl)) rfl
theorem q_222 : Cond.code ⟨"java/lang/Exception", "<init>", "()V"⟩ prog_18_method_1_code 1 none ∈ sw_all := sw_q (qt_2 _ (List.mem_of_getElem? (i := 117) rfl)) rfl
theorem q_223 : Cond.methodLink "java/lang/Exception" 1 ⟨"java/lang/Throwable", "<init>", "()V"⟩ ∈ sw_all := sw_q (qt_2 _ (List.mem_of_getElem? (i := 118) rfl)) rfl
theorem q_224 : Cond.fieldLink "java/lang/Throwable" 31 "java/lang/Throwable" "detailMessage" "Ljava/lang/String;" ∈ sw_all := sw_q (qt_2 _ (List.mem_of_getElem? (i := 120) rfl)) rfl
theorem q_225 : Cond.fieldLink "java/lang/Throwable" 7 "java/lang/Throwable" "cause" "Ljava/lang/Throwable;" ∈ sw_all := sw_q (qt_2 _ (List.mem_of_getElem? (i := 121) rfl)) rfl
theorem q_226 : Cond.fieldLink "java/lang/Throwable" 17 "java/lang/Throwable" "stackTrace" "[Ljava/lang/StackTraceElement;" ∈ sw_all := sw_q (qt_2 _ (List.mem_of_getElem? (i := 122) rfl)) rfl
theorem q_227 : Cond.fieldLink "java/lang/Throwable" 24 "java/lang/Throwable" "suppressedExceptions" "Ljava/util/List;" ∈ sw_all := sw_q (qt_2 _ (List.mem_of_getElem? (i := 123) rfl)) rfl
theorem q_228 : Cond.classLink RX6 201 "java/lang/IllegalArgumentException" ∈ sw_all := sw_q (qt_2 _ (List.mem_of_getElem? (i := 132) rfl)) rfl
theorem q_229 : Cond.instantiable "java/lang/IllegalArgumentException" 6 ∈ sw_all := sw_q (qt_2 _ (List.mem_of_getElem? (i := 133) rfl)) rfl
theorem q_230 : Cond.selects "java/lang/IllegalArgumentException" ⟨"java/lang/Throwable", "fillInStackTrace", "(I)Ljava/lang/Throwable;"⟩ ⟨"java/lang/Throwable", "fillInStackTrace", "(I)Ljava/lang/Throwable;"⟩ ∈ sw_all := sw_q (qt_2 _ (List.mem_of_getElem? (i := 135) rfl)) rfl
theorem q_231 : Cond.methodLink RX6 203 ⟨"java/lang/IllegalArgumentException", "<init>", "()V"⟩ ∈ sw_all := sw_q (qt_2 _ (List.mem_of_getElem? (i := 141) rfl)) rfl
theorem q_232 : Cond.instanceMethod ⟨"java/lang/IllegalArgumentException", "<init>", "()V"⟩ ∈ sw_all := sw_q (qt_2 _ (List.mem_of_getElem? (i := 142) rfl)) rfl
theorem q_233 : Cond.code ⟨"java/lang/IllegalArgumentException", "<init>", "()V"⟩ prog_19_method_1_code 1 none ∈ sw_all := sw_q (qt_2 _ (List.mem_of_getElem? (i := 143) rfl)) rfl
theorem q_234 : Cond.methodLink "java/lang/IllegalArgumentException" 1 ⟨"java/lang/RuntimeException", "<init>", "()V"⟩ ∈ sw_all := sw_q (qt_2 _ (List.mem_of_getElem? (i := 144) rfl)) rfl
theorem q_235 : Cond.classLink RX6 252 "java/lang/IllegalStateException" ∈ sw_all := sw_q (qt_2 _ (List.mem_of_getElem? (i := 147) rfl)) rfl
theorem q_236 : Cond.instantiable "java/lang/IllegalStateException" 6 ∈ sw_all := sw_q (qt_2 _ (List.mem_of_getElem? (i := 148) rfl)) rfl
theorem q_237 : Cond.selects "java/lang/IllegalStateException" ⟨"java/lang/Throwable", "fillInStackTrace", "(I)Ljava/lang/Throwable;"⟩ ⟨"java/lang/Throwable", "fillInStackTrace", "(I)Ljava/lang/Throwable;"⟩ ∈ sw_all := sw_q (qt_2 _ (List.mem_of_getElem? (i := 150) rfl)) rfl
theorem q_238 : Cond.methodLink RX6 254 ⟨"java/lang/IllegalStateException", "<init>", "()V"⟩ ∈ sw_all := sw_q (qt_2 _ (List.mem_of_getElem? (i := 156) rfl)) rfl
theorem q_239 : Cond.instanceMethod ⟨"java/lang/IllegalStateException", "<init>", "()V"⟩ ∈ sw_all := sw_q (qt_2 _ (List.mem_of_getElem? (i := 157) rfl)) rfl
theorem q_240 : Cond.code ⟨"java/lang/IllegalStateException", "<init>", "()V"⟩ prog_20_method_1_code 1 none ∈ sw_all := sw_q (qt_2 _ (List.mem_of_getElem? (i := 158) rfl)) rfl
theorem q_241 : Cond.methodLink "java/lang/IllegalStateException" 1 ⟨"java/lang/RuntimeException", "<init>", "()V"⟩ ∈ sw_all := sw_q (qt_2 _ (List.mem_of_getElem? (i := 159) rfl)) rfl
theorem q_242 : Cond.classLink RX6 284 "java/lang/UnsupportedOperationException" ∈ sw_all := sw_q (qt_2 _ (List.mem_of_getElem? (i := 162) rfl)) rfl
theorem q_243 : Cond.instantiable "java/lang/UnsupportedOperationException" 6 ∈ sw_all := sw_q (qt_2 _ (List.mem_of_getElem? (i := 163) rfl)) rfl
theorem q_244 : Cond.selects "java/lang/UnsupportedOperationException" ⟨"java/lang/Throwable", "fillInStackTrace", "(I)Ljava/lang/Throwable;"⟩ ⟨"java/lang/Throwable", "fillInStackTrace", "(I)Ljava/lang/Throwable;"⟩ ∈ sw_all := sw_q (qt_2 _ (List.mem_of_getElem? (i := 165) rfl)) rfl
theorem q_245 : Cond.methodLink RX6 286 ⟨"java/lang/UnsupportedOperationException", "<init>", "()V"⟩ ∈ sw_all := sw_q (qt_2 _ (List.mem_of_getElem? (i := 171) rfl)) rfl
theorem q_246 : Cond.instanceMethod ⟨"java/lang/UnsupportedOperationException", "<init>", "()V"⟩ ∈ sw_all := sw_q (qt_2 _ (List.mem_of_getElem? (i := 172) rfl)) rfl
theorem q_247 : Cond.code ⟨"java/lang/UnsupportedOperationException", "<init>", "()V"⟩ prog_32_method_1_code 1 none ∈ sw_all := sw_q (qt_2 _ (List.mem_of_getElem? (i := 173) rfl)) rfl
theorem q_248 : Cond.methodLink "java/lang/UnsupportedOperationException" 1 ⟨"java/lang/RuntimeException", "<init>", "()V"⟩ ∈ sw_all := sw_q (qt_2 _ (List.mem_of_getElem? (i := 174) rfl)) rfl
theorem q_249 : Cond.classLink RX6 319 "java/util/NoSuchElementException" ∈ sw_all := sw_q (qt_2 _ (List.mem_of_getElem? (i := 177) rfl)) rfl
theorem q_250 : Cond.instantiable "java/util/NoSuchElementException" 6 ∈ sw_all := sw_q (qt_2 _ (List.mem_of_getElem? (i := 178) rfl)) rfl
theorem q_251 : Cond.selects "java/util/NoSuchElementException" ⟨"java/lang/Throwable", "fillInStackTrace", "(I)Ljava/lang/Throwable;"⟩ ⟨"java/lang/Throwable", "fillInStackTrace", "(I)Ljava/lang/Throwable;"⟩ ∈ sw_all := sw_q (qt_2 _ (List.mem_of_getElem? (i := 180) rfl)) rfl
theorem q_252 : Cond.methodLink RX6 321 ⟨"java/util/NoSuchElementException", "<init>", "()V"⟩ ∈ sw_all := sw_q (qt_2 _ (List.mem_of_getElem? (i := 186) rfl)) rfl
theorem q_253 : Cond.instanceMethod ⟨"java/util/NoSuchElementException", "<init>", "()V"⟩ ∈ sw_all := sw_q (qt_2 _ (List.mem_of_getElem? (i := 187) rfl)) rfl
theorem q_254 : Cond.code ⟨"java/util/NoSuchElementException", "<init>", "()V"⟩ prog_36_method_1_code 1 none ∈ sw_all := sw_q (qt_2 _ (List.mem_of_getElem? (i := 188) rfl)) rfl
theorem q_255 : Cond.methodLink "java/util/NoSuchElementException" 1 ⟨"java/lang/RuntimeException", "<init>", "()V"⟩ ∈ sw_all := sw_q (qt_2 _ (List.mem_of_getElem? (i := 189) rfl)) rfl
theorem q_256 : Cond.methodLink RX6 287 yX0_commit ∈ sw_all := sw_q (qt_2 _ (List.mem_of_getElem? (i := 192) rfl)) rfl
theorem q_257 : Cond.instanceMethod yX0_commit ∈ sw_all := sw_q (qt_2 _ (List.mem_of_getElem? (i := 193) rfl)) rfl
theorem q_258 : Cond.selects RX0 yX0_commit yX0_commit ∈ sw_all := sw_q (qt_2 _ (List.mem_of_getElem? (i := 194) rfl)) rfl
theorem q_259 : Cond.code yX0_commit prog_2_method_4_code 1 none ∈ sw_all := sw_q (qt_2 _ (List.mem_of_getElem? (i := 195) rfl)) rfl
theorem q_260 : Cond.methodLink RX0 27 yJ9_min_7cf53 ∈ sw_all := sw_q (qt_2 _ (List.mem_of_getElem? (i := 196) rfl)) rfl
theorem q_261 : Cond.static yJ9_min_7cf53 ∈ sw_all := sw_q (qt_2 _ (List.mem_of_getElem? (i := 197) rfl)) rfl
theorem q_262 : Cond.code yJ9_min_7cf53 prog_23_method_69_code 2 (Option.some .int) ∈ sw_all := sw_q (qt_2 _ (List.mem_of_getElem? (i := 198) rfl)) rfl
theorem q_263 : Cond.methodLink RL 169 yL_addExaminer ∈ sw_all := sw_q (qt_2 _ (List.mem_of_getElem? (i := 199) rfl)) rfl
theorem q_264 : Cond.static yL_addExaminer ∈ sw_all := sw_q (qt_2 _ (List.mem_of_getElem? (i := 200) rfl)) rfl
theorem q_265 : Cond.methodLink RL 18 yX6_addExaminer ∈ sw_all := sw_q (qt_2 _ (List.mem_of_getElem? (i := 202) rfl)) rfl
theorem q_266 : Cond.instanceMethod yX6_addExaminer ∈ sw_all := sw_q (qt_2 _ (List.mem_of_getElem? (i := 203) rfl)) rfl
theorem q_267 : Cond.selects RX6 yX6_addExaminer yX6_addExaminer ∈ sw_all := sw_q (qt_2 _ (List.mem_of_getElem? (i := 204) rfl)) rfl
theorem q_268 : Cond.code yX6_addExaminer prog_1_method_3_code 5 (Option.some .int) ∈ sw_all := sw_q (qt_2 _ (List.mem_of_getElem? (i := 205) rfl)) rfl
theorem q_269 : Cond.methodLink RX6 77 yX5_tryNewExaminer ∈ sw_all := sw_q (qt_2 _ (List.mem_of_getElem? (i := 206) rfl)) rfl
theorem q_270 : Cond.instanceMethod yX5_tryNewExaminer ∈ sw_all := sw_q (qt_2 _ (List.mem_of_getElem? (i := 207) rfl)) rfl
theorem q_271 : Cond.selects RX5 yX5_tryNewExaminer yX5_tryNewExaminer ∈ sw_all := sw_q (qt_2 _ (List.mem_of_getElem? (i := 208) rfl)) rfl
theorem q_272 : Cond.code yX5_tryNewExaminer prog_7_method_25_code 5 (Option.some .int) ∈ sw_all := sw_q (qt_2 _ (List.mem_of_getElem? (i := 209) rfl)) rfl
theorem q_273 : Cond.methodLink RL 172 yL_assign ∈ sw_all := sw_q (qt_2 _ (List.mem_of_getElem? (i := 210) rfl)) rfl
theorem q_274 : Cond.static yL_assign ∈ sw_all := sw_q (qt_2 _ (List.mem_of_getElem? (i := 211) rfl)) rfl
theorem q_275 : Cond.classLink RL 26 "java/lang/IndexOutOfBoundsException" ∈ sw_all := sw_q (qt_2 _ (List.mem_of_getElem? (i := 213) rfl)) rfl
theorem q_276 : Cond.instantiable RJx00060 6 ∈ sw_all := sw_q (qt_2 _ (List.mem_of_getElem? (i := 214) rfl)) rfl
theorem q_277 : Cond.instanceMethod yJx00060_init_a7421 ∈ sw_all := sw_q (qt_2 _ (List.mem_of_getElem? (i := 215) rfl)) rfl
theorem q_278 : Cond.code yJx00060_init_a7421 prog_14_method_2_code 2 none ∈ sw_all := sw_q (qt_2 _ (List.mem_of_getElem? (i := 216) rfl)) rfl
theorem q_279 : Cond.methodLink RJx00060 7 ⟨"java/lang/IndexOutOfBoundsException", "<init>", "(Ljava/lang/String;)V"⟩ ∈ sw_all := sw_q (qt_2 _ (List.mem_of_getElem? (i := 217) rfl)) rfl
theorem q_280 : Cond.instanceMethod ⟨"java/lang/IndexOutOfBoundsException", "<init>", "(Ljava/lang/String;)V"⟩ ∈ sw_all := sw_q (qt_2 _ (List.mem_of_getElem? (i := 218) rfl)) rfl
theorem q_281 : Cond.code ⟨"java/lang/IndexOutOfBoundsException", "<init>", "(Ljava/lang/String;)V"⟩ prog_21_method_2_code 2 none ∈ sw_all := sw_q (qt_2 _ (List.mem_of_getElem? (i := 219) rfl)) rfl
theorem q_282 : Cond.methodLink "java/lang/IndexOutOfBoundsException" 7 ⟨"java/lang/RuntimeException", "<init>", "(Ljava/lang/String;)V"⟩ ∈ sw_all := sw_q (qt_2 _ (List.mem_of_getElem? (i := 220) rfl)) rfl
theorem q_283 : Cond.instanceMethod ⟨"java/lang/RuntimeException", "<init>", "(Ljava/lang/String;)V"⟩ ∈ sw_all := sw_q (qt_2 _ (List.mem_of_getElem? (i := 221) rfl)) rfl
theorem q_284 : Cond.code ⟨"java/lang/RuntimeException", "<init>", "(Ljava/lang/String;)V"⟩ prog_25_method_2_code 2 none ∈ sw_all := sw_q (qt_2 _ (List.mem_of_getElem? (i := 222) rfl)) rfl
theorem q_285 : Cond.methodLink "java/lang/RuntimeException" 7 ⟨"java/lang/Exception", "<init>", "(Ljava/lang/String;)V"⟩ ∈ sw_all := sw_q (qt_2 _ (List.mem_of_getElem? (i := 223) rfl)) rfl
theorem q_286 : Cond.instanceMethod ⟨"java/lang/Exception", "<init>", "(Ljava/lang/String;)V"⟩ ∈ sw_all := sw_q (qt_2 _ (List.mem_of_getElem? (i := 224) rfl)) rfl
theorem q_287 : Cond.code ⟨"java/lang/Exception", "<init>", "(Ljava/lang/String;)V"⟩ prog_18_method_2_code 2 none ∈ sw_all := sw_q (qt_2 _ (List.mem_of_getElem? (i := 225) rfl)) rfl
theorem q_288 : Cond.methodLink "java/lang/Exception" 7 ⟨"java/lang/Throwable", "<init>", "(Ljava/lang/String;)V"⟩ ∈ sw_all := sw_q (qt_2 _ (List.mem_of_getElem? (i := 226) rfl)) rfl
theorem q_289 : Cond.instanceMethod ⟨"java/lang/Throwable", "<init>", "(Ljava/lang/String;)V"⟩ ∈ sw_all := sw_q (qt_2 _ (List.mem_of_getElem? (i := 227) rfl)) rfl
theorem q_290 : Cond.code ⟨"java/lang/Throwable", "<init>", "(Ljava/lang/String;)V"⟩ prog_31_method_2_code 2 none ∈ sw_all := sw_q (qt_2 _ (List.mem_of_getElem? (i := 228) rfl)) rfl
theorem q_291 : Cond.selects RJx00060 ⟨"java/lang/Throwable", "fillInStackTrace", "(I)Ljava/lang/Throwable;"⟩ ⟨"java/lang/Throwable", "fillInStackTrace", "(I)Ljava/lang/Throwable;"⟩ ∈ sw_all := sw_q (qt_2 _ (List.mem_of_getElem? (i := 239) rfl)) rfl
theorem q_292 : Cond.instantiable RJ0 4 ∈ sw_all := sw_q (qt_3 _ (List.mem_of_getElem? (i := 0) rfl)) rfl
theorem q_293 : Cond.classLink RL 31 "java/lang/UnsupportedOperationException" ∈ sw_all := sw_q (qt_3 _ (List.mem_of_getElem? (i := 6) rfl)) rfl
theorem q_294 : Cond.methodLink RL 28 yX6_assign ∈ sw_all := sw_q (qt_3 _ (List.mem_of_getElem? (i := 7) rfl)) rfl
theorem q_295 : Cond.instanceMethod yX6_assign ∈ sw_all := sw_q (qt_3 _ (List.mem_of_getElem? (i := 8) rfl)) rfl
theorem q_296 : Cond.selects RX6 yX6_assign yX6_assign ∈ sw_all := sw_q (qt_3 _ (List.mem_of_getElem? (i := 9) rfl)) rfl
theorem q_297 : Cond.code yX6_assign prog_1_method_5_code 3 (Option.some .int) ∈ sw_all := sw_q (qt_3 _ (List.mem_of_getElem? (i := 10) rfl)) rfl
theorem q_298 : Cond.methodLink RX6 85 yX5_tryAssignment ∈ sw_all := sw_q (qt_3 _ (List.mem_of_getElem? (i := 11) rfl)) rfl
theorem q_299 : Cond.instanceMethod yX5_tryAssignment ∈ sw_all := sw_q (qt_3 _ (List.mem_of_getElem? (i := 12) rfl)) rfl
theorem q_300 : Cond.selects RX5 yX5_tryAssignment yX5_tryAssignment ∈ sw_all := sw_q (qt_3 _ (List.mem_of_getElem? (i := 13) rfl)) rfl
theorem q_301 : Cond.code yX5_tryAssignment prog_7_method_27_code 3 (Option.some .int) ∈ sw_all := sw_q (qt_3 _ (List.mem_of_getElem? (i := 14) rfl)) rfl
theorem q_302 : Cond.methodLink RX5 127 yX5_hasPair ∈ sw_all := sw_q (qt_3 _ (List.mem_of_getElem? (i := 15) rfl)) rfl
theorem q_303 : Cond.instanceMethod yX5_hasPair ∈ sw_all := sw_q (qt_3 _ (List.mem_of_getElem? (i := 16) rfl)) rfl
theorem q_304 : Cond.selects RX5 yX5_hasPair yX5_hasPair ∈ sw_all := sw_q (qt_3 _ (List.mem_of_getElem? (i := 17) rfl)) rfl
theorem q_305 : Cond.code yX5_hasPair prog_7_method_5_code 3 (Option.some .boolean) ∈ sw_all := sw_q (qt_3 _ (List.mem_of_getElem? (i := 18) rfl)) rfl
theorem q_306 : Cond.methodLink RX5 67 yX5_hasExaminer ∈ sw_all := sw_q (qt_3 _ (List.mem_of_getElem? (i := 19) rfl)) rfl
theorem q_307 : Cond.instanceMethod yX5_hasExaminer ∈ sw_all := sw_q (qt_3 _ (List.mem_of_getElem? (i := 20) rfl)) rfl
theorem q_308 : Cond.selects RX5 yX5_hasExaminer yX5_hasExaminer ∈ sw_all := sw_q (qt_3 _ (List.mem_of_getElem? (i := 21) rfl)) rfl
theorem q_309 : Cond.code yX5_hasExaminer prog_7_method_4_code 2 (Option.some .boolean) ∈ sw_all := sw_q (qt_3 _ (List.mem_of_getElem? (i := 22) rfl)) rfl
theorem q_310 : Cond.methodLink RX5 71 yX5_hasDoor ∈ sw_all := sw_q (qt_3 _ (List.mem_of_getElem? (i := 23) rfl)) rfl
theorem q_311 : Cond.instanceMethod yX5_hasDoor ∈ sw_all := sw_q (qt_3 _ (List.mem_of_getElem? (i := 24) rfl)) rfl
theorem q_312 : Cond.selects RX5 yX5_hasDoor yX5_hasDoor ∈ sw_all := sw_q (qt_3 _ (List.mem_of_getElem? (i := 25) rfl)) rfl
theorem q_313 : Cond.code yX5_hasDoor prog_7_method_3_code 2 (Option.some .boolean) ∈ sw_all := sw_q (qt_3 _ (List.mem_of_getElem? (i := 26) rfl)) rfl
theorem q_314 : Cond.methodLink RX5 90 yX5_assigned ∈ sw_all := sw_q (qt_3 _ (List.mem_of_getElem? (i := 27) rfl)) rfl
theorem q_315 : Cond.instanceMethod yX5_assigned ∈ sw_all := sw_q (qt_3 _ (List.mem_of_getElem? (i := 28) rfl)) rfl
theorem q_316 : Cond.selects RX5 yX5_assigned yX5_assigned ∈ sw_all := sw_q (qt_3 _ (List.mem_of_getElem? (i := 29) rfl)) rfl
theorem q_317 : Cond.code yX5_assigned prog_7_method_9_code 3 (Option.some .boolean) ∈ sw_all := sw_q (qt_3 _ (List.mem_of_getElem? (i := 30) rfl)) rfl
theorem q_318 : Cond.methodLink RX5 133 yX5_assignedCount ∈ sw_all := sw_q (qt_3 _ (List.mem_of_getElem? (i := 31) rfl)) rfl
theorem q_319 : Cond.instanceMethod yX5_assignedCount ∈ sw_all := sw_q (qt_3 _ (List.mem_of_getElem? (i := 32) rfl)) rfl
theorem q_320 : Cond.selects RX5 yX5_assignedCount yX5_assignedCount ∈ sw_all := sw_q (qt_3 _ (List.mem_of_getElem? (i := 33) rfl)) rfl
theorem q_321 : Cond.code yX5_assignedCount prog_7_method_13_code 4 (Option.some .int) ∈ sw_all := sw_q (qt_3 _ (List.mem_of_getElem? (i := 34) rfl)) rfl
theorem q_322 : Cond.methodLink RX5 136 yX5_freeCapacity ∈ sw_all := sw_q (qt_3 _ (List.mem_of_getElem? (i := 35) rfl)) rfl
theorem q_323 : Cond.instanceMethod yX5_freeCapacity ∈ sw_all := sw_q (qt_3 _ (List.mem_of_getElem? (i := 36) rfl)) rfl
theorem q_324 : Cond.selects RX5 yX5_freeCapacity yX5_freeCapacity ∈ sw_all := sw_q (qt_3 _ (List.mem_of_getElem? (i := 37) rfl)) rfl
theorem q_325 : Cond.code yX5_freeCapacity prog_7_method_11_code 2 (Option.some .int) ∈ sw_all := sw_q (qt_3 _ (List.mem_of_getElem? (i := 38) rfl)) rfl
theorem q_326 : Cond.methodLink RX5 87 yX5_loadOf ∈ sw_all := sw_q (qt_3 _ (List.mem_of_getElem? (i := 39) rfl)) rfl
theorem q_327 : Cond.instanceMethod yX5_loadOf ∈ sw_all := sw_q (qt_3 _ (List.mem_of_getElem? (i := 40) rfl)) rfl
theorem q_328 : Cond.selects RX5 yX5_loadOf yX5_loadOf ∈ sw_all := sw_q (qt_3 _ (List.mem_of_getElem? (i := 41) rfl)) rfl
theorem q_329 : Cond.code yX5_loadOf prog_7_method_10_code 2 (Option.some .int) ∈ sw_all := sw_q (qt_3 _ (List.mem_of_getElem? (i := 42) rfl)) rfl
theorem q_330 : Cond.methodLink RX5 81 yJ6_bitCount_0f7a4 ∈ sw_all := sw_q (qt_3 _ (List.mem_of_getElem? (i := 43) rfl)) rfl
theorem q_331 : Cond.static yJ6_bitCount_0f7a4 ∈ sw_all := sw_q (qt_3 _ (List.mem_of_getElem? (i := 44) rfl)) rfl
theorem q_332 : Cond.code yJ6_bitCount_0f7a4 prog_22_method_49_code 1 (Option.some .int) ∈ sw_all := sw_q (qt_3 _ (List.mem_of_getElem? (i := 45) rfl)) rfl
theorem q_333 : Cond.constant RJ6 265 1431655765 ∈ sw_all := sw_q (qt_3 _ (List.mem_of_getElem? (i := 46) rfl)) rfl
theorem q_334 : Cond.constant RJ6 266 858993459 ∈ sw_all := sw_q (qt_3 _ (List.mem_of_getElem? (i := 47) rfl)) rfl
theorem q_335 : Cond.constant RJ6 267 252645135 ∈ sw_all := sw_q (qt_3 _ (List.mem_of_getElem? (i := 48) rfl)) rfl
theorem q_336 : Cond.methodLink RX5 139 yX5_canJudge ∈ sw_all := sw_q (qt_3 _ (List.mem_of_getElem? (i := 49) rfl)) rfl
theorem q_337 : Cond.instanceMethod yX5_canJudge ∈ sw_all := sw_q (qt_3 _ (List.mem_of_getElem? (i := 50) rfl)) rfl
theorem q_338 : Cond.selects RX5 yX5_canJudge yX5_canJudge ∈ sw_all := sw_q (qt_3 _ (List.mem_of_getElem? (i := 51) rfl)) rfl
theorem q_339 : Cond.code yX5_canJudge prog_7_method_8_code 3 (Option.some .boolean) ∈ sw_all := sw_q (qt_3 _ (List.mem_of_getElem? (i := 52) rfl)) rfl
theorem q_340 : Cond.methodLink RX5 74 yX5_neutral ∈ sw_all := sw_q (qt_3 _ (List.mem_of_getElem? (i := 53) rfl)) rfl
theorem q_341 : Cond.instanceMethod yX5_neutral ∈ sw_all := sw_q (qt_3 _ (List.mem_of_getElem? (i := 54) rfl)) rfl
theorem q_342 : Cond.selects RX5 yX5_neutral yX5_neutral ∈ sw_all := sw_q (qt_3 _ (List.mem_of_getElem? (i := 55) rfl)) rfl
theorem q_343 : Cond.code yX5_neutral prog_7_method_7_code 3 (Option.some .boolean) ∈ sw_all := sw_q (qt_3 _ (List.mem_of_getElem? (i := 56) rfl)) rfl
theorem q_344 : Cond.static yX6_contains ∈ sw_all := sw_q (qt_3 _ (List.mem_of_getElem? (i := 58) rfl)) rfl
theorem q_345 : Cond.code yX6_contains prog_1_method_66_code 2 (Option.some .boolean) ∈ sw_all := sw_q (qt_3 _ (List.mem_of_getElem? (i := 59) rfl)) rfl
theorem q_346 : Cond.methodLink RL 175 yX6_carryOutPlan ∈ sw_all := sw_q (qt_3 _ (List.mem_of_getElem? (i := 60) rfl)) rfl
theorem q_347 : Cond.instanceMethod yX6_carryOutPlan ∈ sw_all := sw_q (qt_3 _ (List.mem_of_getElem? (i := 61) rfl)) rfl
theorem q_348 : Cond.selects RX6 yX6_carryOutPlan yX6_carryOutPlan ∈ sw_all := sw_q (qt_3 _ (List.mem_of_getElem? (i := 62) rfl)) rfl
theorem q_349 : Cond.code yX6_carryOutPlan prog_1_method_6_code 1 (Option.some .int) ∈ sw_all := sw_q (qt_3 _ (List.mem_of_getElem? (i := 63) rfl)) rfl
theorem q_350 : Cond.methodLink RX6 88 yX3_findBest ∈ sw_all := sw_q (qt_3 _ (List.mem_of_getElem? (i := 64) rfl)) rfl
theorem q_351 : Cond.instanceMethod yX3_findBest ∈ sw_all := sw_q (qt_3 _ (List.mem_of_getElem? (i := 65) rfl)) rfl
theorem q_352 : Cond.selects RX3 yX3_findBest yX3_findBest ∈ sw_all := sw_q (qt_3 _ (List.mem_of_getElem? (i := 66) rfl)) rfl
theorem q_353 : Cond.code yX3_findBest prog_5_method_4_code 4 none ∈ sw_all := sw_q (qt_3 _ (List.mem_of_getElem? (i := 67) rfl)) rfl
theorem q_354 : Cond.methodLink RX3 41 yX3_survey ∈ sw_all := sw_q (qt_3 _ (List.mem_of_getElem? (i := 68) rfl)) rfl
theorem q_355 : Cond.instanceMethod yX3_survey ∈ sw_all := sw_q (qt_3 _ (List.mem_of_getElem? (i := 70) rfl)) rfl
theorem q_356 : Cond.code yX3_survey prog_5_method_5_code 3 none ∈ sw_all := sw_q (qt_3 _ (List.mem_of_getElem? (i := 71) rfl)) rfl
theorem q_357 : Cond.methodLink RX3 70 yX5_hasExaminer ∈ sw_all := sw_q (qt_3 _ (List.mem_of_getElem? (i := 72) rfl)) rfl
theorem q_358 : Cond.methodLink RX3 74 yX5_freeCapacity ∈ sw_all := sw_q (qt_3 _ (List.mem_of_getElem? (i := 73) rfl)) rfl
theorem q_359 : Cond.methodLink RX3 77 yX3_candidatesFor ∈ sw_all := sw_q (qt_3 _ (List.mem_of_getElem? (i := 74) rfl)) rfl
theorem q_360 : Cond.static yX3_candidatesFor ∈ sw_all := sw_q (qt_3 _ (List.mem_of_getElem? (i := 75) rfl)) rfl
theorem q_361 : Cond.code yX3_candidatesFor prog_5_method_6_code 4 (Option.some .int) ∈ sw_all := sw_q (qt_3 _ (List.mem_of_getElem? (i := 76) rfl)) rfl
theorem q_362 : Cond.methodLink RX3 81 yX5_assignedCount ∈ sw_all := sw_q (qt_3 _ (List.mem_of_getElem? (i := 77) rfl)) rfl
theorem q_363 : Cond.methodLink RX3 87 yX5_canJudge ∈ sw_all := sw_q (qt_3 _ (List.mem_of_getElem? (i := 78) rfl)) rfl
theorem q_364 : Cond.methodLink RX3 91 yX5_assigned ∈ sw_all := sw_q (qt_3 _ (List.mem_of_getElem? (i := 79) rfl)) rfl
theorem q_365 : Cond.methodLink RX3 45 yX3_greatestFrom ∈ sw_all := sw_q (qt_3 _ (List.mem_of_getElem? (i := 80) rfl)) rfl
theorem q_366 : Cond.instanceMethod yX3_greatestFrom ∈ sw_all := sw_q (qt_3 _ (List.mem_of_getElem? (i := 82) rfl)) rfl
theorem q_367 : Cond.code yX3_greatestFrom prog_5_method_8_code 4 (Option.some .int) ∈ sw_all := sw_q (qt_3 _ (List.mem_of_getElem? (i := 83) rfl)) rfl
theorem q_368 : Cond.methodLink RX3 97 yX3_addByExchanges ∈ sw_all := sw_q (qt_3 _ (List.mem_of_getElem? (i := 84) rfl)) rfl
theorem q_369 : Cond.instanceMethod yX3_addByExchanges ∈ sw_all := sw_q (qt_3 _ (List.mem_of_getElem? (i := 86) rfl)) rfl
theorem q_370 : Cond.code yX3_addByExchanges prog_5_method_9_code 7 (Option.some .boolean) ∈ sw_all := sw_q (qt_3 _ (List.mem_of_getElem? (i := 87) rfl)) rfl
theorem q_371 : Cond.methodLink RX3 100 yX3_exchange ∈ sw_all := sw_q (qt_3 _ (List.mem_of_getElem? (i := 89) rfl)) rfl
theorem q_372 : Cond.instanceMethod yX3_exchange ∈ sw_all := sw_q (qt_3 _ (List.mem_of_getElem? (i := 91) rfl)) rfl
theorem q_373 : Cond.code yX3_exchange prog_5_method_11_code 6 none ∈ sw_all := sw_q (qt_3 _ (List.mem_of_getElem? (i := 92) rfl)) rfl
theorem q_374 : Cond.methodLink RX3 103 yX3_enqueueDoorsOf ∈ sw_all := sw_q (qt_3 _ (List.mem_of_getElem? (i := 93) rfl)) rfl
theorem q_375 : Cond.instanceMethod yX3_enqueueDoorsOf ∈ sw_all := sw_q (qt_3 _ (List.mem_of_getElem? (i := 95) rfl)) rfl
theorem q_376 : Cond.code yX3_enqueueDoorsOf prog_5_method_10_code 5 (Option.some .int) ∈ sw_all := sw_q (qt_3 _ (List.mem_of_getElem? (i := 96) rfl)) rfl
theorem q_377 : Cond.methodLink RX3 64 yX3_bestChoice ∈ sw_all := sw_q (qt_3 _ (List.mem_of_getElem? (i := 97) rfl)) rfl
theorem q_378 : Cond.instanceMethod yX3_bestChoice ∈ sw_all := sw_q (qt_3 _ (List.mem_of_getElem? (i := 99) rfl)) rfl
theorem q_379 : Cond.code yX3_bestChoice prog_5_method_7_code 5 (Option.some .int) ∈ sw_all := sw_q (qt_3 _ (List.mem_of_getElem? (i := 100) rfl)) rfl
theorem q_380 : Cond.methodLink RX6 95 yX5_putPlan ∈ sw_all := sw_q (qt_3 _ (List.mem_of_getElem? (i := 101) rfl)) rfl
theorem q_381 : Cond.instanceMethod yX5_putPlan ∈ sw_all := sw_q (qt_3 _ (List.mem_of_getElem? (i := 102) rfl)) rfl
theorem q_382 : Cond.selects RX5 yX5_putPlan yX5_putPlan ∈ sw_all := sw_q (qt_3 _ (List.mem_of_getElem? (i := 103) rfl)) rfl
theorem q_383 : Cond.code yX5_putPlan prog_7_method_28_code 4 (Option.some .int) ∈ sw_all := sw_q (qt_3 _ (List.mem_of_getElem? (i := 104) rfl)) rfl
theorem q_384 : Cond.methodLink RL 178 yL_conflict ∈ sw_all := sw_q (qt_3 _ (List.mem_of_getElem? (i := 105) rfl)) rfl
theorem q_385 : Cond.static yL_conflict ∈ sw_all := sw_q (qt_3 _ (List.mem_of_getElem? (i := 106) rfl)) rfl
theorem q_386 : Cond.methodLink RL 22 yX6_declareConflict ∈ sw_all := sw_q (qt_3 _ (List.mem_of_getElem? (i := 108) rfl)) rfl
theorem q_387 : Cond.instanceMethod yX6_declareConflict ∈ sw_all := sw_q (qt_3 _ (List.mem_of_getElem? (i := 109) rfl)) rfl
theorem q_388 : Cond.selects RX6 yX6_declareConflict yX6_declareConflict ∈ sw_all := sw_q (qt_3 _ (List.mem_of_getElem? (i := 110) rfl)) rfl
theorem q_389 : Cond.code yX6_declareConflict prog_1_method_4_code 3 (Option.some .int) ∈ sw_all := sw_q (qt_3 _ (List.mem_of_getElem? (i := 111) rfl)) rfl
theorem q_390 : Cond.methodLink RX6 81 yX5_tryConflict ∈ sw_all := sw_q (qt_3 _ (List.mem_of_getElem? (i := 112) rfl)) rfl
theorem q_391 : Cond.instanceMethod yX5_tryConflict ∈ sw_all := sw_q (qt_3 _ (List.mem_of_getElem? (i := 113) rfl)) rfl
theorem q_392 : Cond.selects RX5 yX5_tryConflict yX5_tryConflict ∈ sw_all := sw_q (qt_3 _ (List.mem_of_getElem? (i := 114) rfl)) rfl
theorem q_393 : Cond.code yX5_tryConflict prog_7_method_26_code 3 (Option.some .int) ∈ sw_all := sw_q (qt_3 _ (List.mem_of_getElem? (i := 115) rfl)) rfl
theorem q_394 : Cond.methodLink RX5 130 yX5_neutralCount ∈ sw_all := sw_q (qt_3 _ (List.mem_of_getElem? (i := 116) rfl)) rfl
theorem q_395 : Cond.instanceMethod yX5_neutralCount ∈ sw_all := sw_q (qt_3 _ (List.mem_of_getElem? (i := 117) rfl)) rfl
theorem q_396 : Cond.selects RX5 yX5_neutralCount yX5_neutralCount ∈ sw_all := sw_q (qt_3 _ (List.mem_of_getElem? (i := 118) rfl)) rfl
theorem q_397 : Cond.code yX5_neutralCount prog_7_method_12_code 4 (Option.some .int) ∈ sw_all := sw_q (qt_3 _ (List.mem_of_getElem? (i := 119) rfl)) rfl
theorem q_398 : Cond.methodLink RL 181 yL_grade ∈ sw_all := sw_q (qt_3 _ (List.mem_of_getElem? (i := 120) rfl)) rfl
theorem q_399 : Cond.static yL_grade ∈ sw_all := sw_q (qt_3 _ (List.mem_of_getElem? (i := 121) rfl)) rfl
theorem q_400 : Cond.methodLink RL 33 yX6_grade ∈ sw_all := sw_q (qt_3 _ (List.mem_of_getElem? (i := 123) rfl)) rfl
theorem q_401 : Cond.instanceMethod yX6_grade ∈ sw_all := sw_q (qt_3 _ (List.mem_of_getElem? (i := 124) rfl)) rfl
theorem q_402 : Cond.selects RX6 yX6_grade yX6_grade ∈ sw_all := sw_q (qt_3 _ (List.mem_of_getElem? (i := 125) rfl)) rfl
theorem q_403 : Cond.code yX6_grade prog_1_method_7_code 4 (Option.some .int) ∈ sw_all := sw_q (qt_3 _ (List.mem_of_getElem? (i := 126) rfl)) rfl
theorem q_404 : Cond.methodLink RX6 99 yX5_tryGrade ∈ sw_all := sw_q (qt_3 _ (List.mem_of_getElem? (i := 127) rfl)) rfl
theorem q_405 : Cond.instanceMethod yX5_tryGrade ∈ sw_all := sw_q (qt_3 _ (List.mem_of_getElem? (i := 128) rfl)) rfl
theorem q_406 : Cond.selects RX5 yX5_tryGrade yX5_tryGrade ∈ sw_all := sw_q (qt_3 _ (List.mem_of_getElem? (i := 129) rfl)) rfl
theorem q_407 : Cond.code yX5_tryGrade prog_7_method_29_code 4 (Option.some .int) ∈ sw_all := sw_q (qt_3 _ (List.mem_of_getElem? (i := 130) rfl)) rfl
theorem q_408 : Cond.methodLink RX5 93 yX5_gradeCount ∈ sw_all := sw_q (qt_3 _ (List.mem_of_getElem? (i := 131) rfl)) rfl
theorem q_409 : Cond.instanceMethod yX5_gradeCount ∈ sw_all := sw_q (qt_3 _ (List.mem_of_getElem? (i := 132) rfl)) rfl
theorem q_410 : Cond.selects RX5 yX5_gradeCount yX5_gradeCount ∈ sw_all := sw_q (qt_3 _ (List.mem_of_getElem? (i := 133) rfl)) rfl
theorem q_411 : Cond.code yX5_gradeCount prog_7_method_14_code 4 (Option.some .int) ∈ sw_all := sw_q (qt_3 _ (List.mem_of_getElem? (i := 134) rfl)) rfl
theorem q_412 : Cond.methodLink RL 184 yL_setThreshold ∈ sw_all := sw_q (qt_3 _ (List.mem_of_getElem? (i := 135) rfl)) rfl
theorem q_413 : Cond.static yL_setThreshold ∈ sw_all := sw_q (qt_3 _ (List.mem_of_getElem? (i := 136) rfl)) rfl
theorem q_414 : Cond.methodLink RL 37 yX6_setThreshold ∈ sw_all := sw_q (qt_3 _ (List.mem_of_getElem? (i := 138) rfl)) rfl
theorem q_415 : Cond.instanceMethod yX6_setThreshold ∈ sw_all := sw_q (qt_3 _ (List.mem_of_getElem? (i := 139) rfl)) rfl
theorem q_416 : Cond.selects RX6 yX6_setThreshold yX6_setThreshold ∈ sw_all := sw_q (qt_3 _ (List.mem_of_getElem? (i := 140) rfl)) rfl
theorem q_417 : Cond.code yX6_setThreshold prog_1_method_8_code 2 (Option.some .int) ∈ sw_all := sw_q (qt_3 _ (List.mem_of_getElem? (i := 141) rfl)) rfl
theorem q_418 : Cond.methodLink RX6 103 yX5_tryThreshold ∈ sw_all := sw_q (qt_3 _ (List.mem_of_getElem? (i := 142) rfl)) rfl
theorem q_419 : Cond.instanceMethod yX5_tryThreshold ∈ sw_all := sw_q (qt_3 _ (List.mem_of_getElem? (i := 143) rfl)) rfl
theorem q_420 : Cond.selects RX5 yX5_tryThreshold yX5_tryThreshold ∈ sw_all := sw_q (qt_3 _ (List.mem_of_getElem? (i := 144) rfl)) rfl
theorem q_421 : Cond.code yX5_tryThreshold prog_7_method_30_code 3 (Option.some .int) ∈ sw_all := sw_q (qt_3 _ (List.mem_of_getElem? (i := 145) rfl)) rfl
theorem q_422 : Cond.methodLink RL 187 yL_appeal ∈ sw_all := sw_q (qt_3 _ (List.mem_of_getElem? (i := 146) rfl)) rfl
theorem q_423 : Cond.static yL_appeal ∈ sw_all := sw_q (qt_3 _ (List.mem_of_getElem? (i := 147) rfl)) rfl
theorem q_424 : Cond.methodLink RL 41 yX6_appeal ∈ sw_all := sw_q (qt_3 _ (List.mem_of_getElem? (i := 149) rfl)) rfl
theorem q_425 : Cond.instanceMethod yX6_appeal ∈ sw_all := sw_q (qt_3 _ (List.mem_of_getElem? (i := 150) rfl)) rfl
theorem q_426 : Cond.selects RX6 yX6_appeal yX6_appeal ∈ sw_all := sw_q (qt_3 _ (List.mem_of_getElem? (i := 151) rfl)) rfl
theorem q_427 : Cond.code yX6_appeal prog_1_method_9_code 2 (Option.some .int) ∈ sw_all := sw_q (qt_3 _ (List.mem_of_getElem? (i := 152) rfl)) rfl
theorem q_428 : Cond.methodLink RX6 106 yX2_tryAppeal ∈ sw_all := sw_q (qt_3 _ (List.mem_of_getElem? (i := 153) rfl)) rfl
theorem q_429 : Cond.instanceMethod yX2_tryAppeal ∈ sw_all := sw_q (qt_3 _ (List.mem_of_getElem? (i := 154) rfl)) rfl
theorem q_430 : Cond.selects RX2 yX2_tryAppeal yX2_tryAppeal ∈ sw_all := sw_q (qt_3 _ (List.mem_of_getElem? (i := 155) rfl)) rfl
theorem q_431 : Cond.code yX2_tryAppeal prog_4_method_5_code 6 (Option.some .int) ∈ sw_all := sw_q (qt_3 _ (List.mem_of_getElem? (i := 156) rfl)) rfl
theorem q_432 : Cond.methodLink RX2 23 yX5_hasDoor ∈ sw_all := sw_q (qt_3 _ (List.mem_of_getElem? (i := 157) rfl)) rfl
theorem q_433 : Cond.methodLink RX2 29 yX5_median ∈ sw_all := sw_q (qt_3 _ (List.mem_of_getElem? (i := 158) rfl)) rfl
theorem q_434 : Cond.instanceMethod yX5_median ∈ sw_all := sw_q (qt_3 _ (List.mem_of_getElem? (i := 159) rfl)) rfl
theorem q_435 : Cond.selects RX5 yX5_median yX5_median ∈ sw_all := sw_q (qt_3 _ (List.mem_of_getElem? (i := 160) rfl)) rfl
theorem q_436 : Cond.code yX5_median prog_7_method_16_code 8 (Option.some .int) ∈ sw_all := sw_q (qt_3 _ (List.mem_of_getElem? (i := 161) rfl)) rfl
theorem q_437 : Cond.methodLink RX5 96 yX5_gradeSum ∈ sw_all := sw_q (qt_3 _ (List.mem_of_getElem? (i := 162) rfl)) rfl
theorem q_438 : Cond.instanceMethod yX5_gradeSum ∈ sw_all := sw_q (qt_3 _ (List.mem_of_getElem? (i := 163) rfl)) rfl
theorem q_439 : Cond.selects RX5 yX5_gradeSum yX5_gradeSum ∈ sw_all := sw_q (qt_3 _ (List.mem_of_getElem? (i := 164) rfl)) rfl
theorem q_440 : Cond.code yX5_gradeSum prog_7_method_15_code 4 (Option.some .int) ∈ sw_all := sw_q (qt_3 _ (List.mem_of_getElem? (i := 165) rfl)) rfl
theorem q_441 : Cond.methodLink RX5 99 yJ9_min_7cf53 ∈ sw_all := sw_q (qt_3 _ (List.mem_of_getElem? (i := 166) rfl)) rfl
theorem q_442 : Cond.methodLink RX5 105 yJ9_max_7cf53 ∈ sw_all := sw_q (qt_3 _ (List.mem_of_getElem? (i := 167) rfl)) rfl
theorem q_443 : Cond.static yJ9_max_7cf53 ∈ sw_all := sw_q (qt_3 _ (List.mem_of_getElem? (i := 168) rfl)) rfl
theorem q_444 : Cond.code yJ9_max_7cf53 prog_23_method_65_code 2 (Option.some .int) ∈ sw_all := sw_q (qt_3 _ (List.mem_of_getElem? (i := 169) rfl)) rfl
theorem q_445 : Cond.methodLink RX2 44 yX2_firstFor ∈ sw_all := sw_q (qt_3 _ (List.mem_of_getElem? (i := 171) rfl)) rfl
theorem q_446 : Cond.instanceMethod yX2_firstFor ∈ sw_all := sw_q (qt_3 _ (List.mem_of_getElem? (i := 172) rfl)) rfl
theorem q_447 : Cond.selects RX2 yX2_firstFor yX2_firstFor ∈ sw_all := sw_q (qt_3 _ (List.mem_of_getElem? (i := 173) rfl)) rfl
theorem q_448 : Cond.code yX2_firstFor prog_4_method_4_code 6 (Option.some .int) ∈ sw_all := sw_q (qt_3 _ (List.mem_of_getElem? (i := 174) rfl)) rfl
theorem q_449 : Cond.methodLink RX2 15 yX2_isPanel ∈ sw_all := sw_q (qt_3 _ (List.mem_of_getElem? (i := 175) rfl)) rfl
theorem q_450 : Cond.static yX2_isPanel ∈ sw_all := sw_q (qt_3 _ (List.mem_of_getElem? (i := 176) rfl)) rfl
theorem q_451 : Cond.code yX2_isPanel prog_4_method_7_code 5 (Option.some .boolean) ∈ sw_all := sw_q (qt_3 _ (List.mem_of_getElem? (i := 177) rfl)) rfl
theorem q_452 : Cond.methodLink RX2 61 yX2_suits ∈ sw_all := sw_q (qt_3 _ (List.mem_of_getElem? (i := 178) rfl)) rfl
theorem q_453 : Cond.static yX2_suits ∈ sw_all := sw_q (qt_3 _ (List.mem_of_getElem? (i := 179) rfl)) rfl
theorem q_454 : Cond.code yX2_suits prog_4_method_8_code 3 (Option.some .boolean) ∈ sw_all := sw_q (qt_3 _ (List.mem_of_getElem? (i := 180) rfl)) rfl
theorem q_455 : Cond.methodLink RX2 69 yX5_hasExaminer ∈ sw_all := sw_q (qt_3 _ (List.mem_of_getElem? (i := 181) rfl)) rfl
theorem q_456 : Cond.methodLink RX2 72 yX5_neutral ∈ sw_all := sw_q (qt_3 _ (List.mem_of_getElem? (i := 182) rfl)) rfl
theorem q_457 : Cond.methodLink RX2 75 yX5_assigned ∈ sw_all := sw_q (qt_3 _ (List.mem_of_getElem? (i := 183) rfl)) rfl
theorem q_458 : Cond.methodLink RX2 48 yX2_votes ∈ sw_all := sw_q (qt_3 _ (List.mem_of_getElem? (i := 184) rfl)) rfl
theorem q_459 : Cond.static yX2_votes ∈ sw_all := sw_q (qt_3 _ (List.mem_of_getElem? (i := 185) rfl)) rfl
theorem q_460 : Cond.code yX2_votes prog_4_method_6_code 5 (Option.some .int) ∈ sw_all := sw_q (qt_3 _ (List.mem_of_getElem? (i := 186) rfl)) rfl
theorem q_461 : Cond.methodLink RL 189 yL_award ∈ sw_all := sw_q (qt_3 _ (List.mem_of_getElem? (i := 187) rfl)) rfl
theorem q_462 : Cond.static yL_award ∈ sw_all := sw_q (qt_3 _ (List.mem_of_getElem? (i := 188) rfl)) rfl
theorem q_463 : Cond.methodLink RL 44 yX6_award ∈ sw_all := sw_q (qt_3 _ (List.mem_of_getElem? (i := 190) rfl)) rfl
theorem q_464 : Cond.instanceMethod yX6_award ∈ sw_all := sw_q (qt_3 _ (List.mem_of_getElem? (i := 191) rfl)) rfl
theorem q_465 : Cond.selects RX6 yX6_award yX6_award ∈ sw_all := sw_q (qt_3 _ (List.mem_of_getElem? (i := 192) rfl)) rfl
theorem q_466 : Cond.code yX6_award prog_1_method_10_code 2 (Option.some .int) ∈ sw_all := sw_q (qt_3 _ (List.mem_of_getElem? (i := 193) rfl)) rfl
theorem q_467 : Cond.methodLink RX6 110 yX5_tryAward ∈ sw_all := sw_q (qt_3 _ (List.mem_of_getElem? (i := 194) rfl)) rfl
theorem q_468 : Cond.instanceMethod yX5_tryAward ∈ sw_all := sw_q (qt_3 _ (List.mem_of_getElem? (i := 195) rfl)) rfl
theorem q_469 : Cond.selects RX5 yX5_tryAward yX5_tryAward ∈ sw_all := sw_q (qt_3 _ (List.mem_of_getElem? (i := 196) rfl)) rfl
theorem q_470 : Cond.code yX5_tryAward prog_7_method_31_code 2 (Option.some .int) ∈ sw_all := sw_q (qt_3 _ (List.mem_of_getElem? (i := 197) rfl)) rfl
theorem q_471 : Cond.methodLink RX5 114 yX5_entryOf ∈ sw_all := sw_q (qt_3 _ (List.mem_of_getElem? (i := 198) rfl)) rfl
theorem q_472 : Cond.instanceMethod yX5_entryOf ∈ sw_all := sw_q (qt_3 _ (List.mem_of_getElem? (i := 199) rfl)) rfl
theorem q_473 : Cond.selects RX5 yX5_entryOf yX5_entryOf ∈ sw_all := sw_q (qt_3 _ (List.mem_of_getElem? (i := 200) rfl)) rfl
theorem q_474 : Cond.code yX5_entryOf prog_7_method_19_code 3 (Option.some .int) ∈ sw_all := sw_q (qt_3 _ (List.mem_of_getElem? (i := 201) rfl)) rfl
theorem q_475 : Cond.methodLink RX5 142 yX5_deservesDegree ∈ sw_all := sw_q (qt_3 _ (List.mem_of_getElem? (i := 202) rfl)) rfl
theorem q_476 : Cond.instanceMethod yX5_deservesDegree ∈ sw_all := sw_q (qt_3 _ (List.mem_of_getElem? (i := 203) rfl)) rfl
theorem q_477 : Cond.selects RX5 yX5_deservesDegree yX5_deservesDegree ∈ sw_all := sw_q (qt_3 _ (List.mem_of_getElem? (i := 204) rfl)) rfl
theorem q_478 : Cond.code yX5_deservesDegree prog_7_method_18_code 2 (Option.some .boolean) ∈ sw_all := sw_q (qt_3 _ (List.mem_of_getElem? (i := 205) rfl)) rfl
theorem q_479 : Cond.methodLink RX5 111 yX5_hasPassed ∈ sw_all := sw_q (qt_3 _ (List.mem_of_getElem? (i := 206) rfl)) rfl
theorem q_480 : Cond.instanceMethod yX5_hasPassed ∈ sw_all := sw_q (qt_3 _ (List.mem_of_getElem? (i := 207) rfl)) rfl
theorem q_481 : Cond.selects RX5 yX5_hasPassed yX5_hasPassed ∈ sw_all := sw_q (qt_3 _ (List.mem_of_getElem? (i := 208) rfl)) rfl
theorem q_482 : Cond.code yX5_hasPassed prog_7_method_17_code 3 (Option.some .boolean) ∈ sw_all := sw_q (qt_3 _ (List.mem_of_getElem? (i := 209) rfl)) rfl
theorem q_483 : Cond.methodLink RX5 108 yX5_median ∈ sw_all := sw_q (qt_3 _ (List.mem_of_getElem? (i := 210) rfl)) rfl
theorem q_484 : Cond.methodLink RL 204 yL_doors ∈ sw_all := sw_q (qt_3 _ (List.mem_of_getElem? (i := 211) rfl)) rfl
theorem q_485 : Cond.static yL_doors ∈ sw_all := sw_q (qt_3 _ (List.mem_of_getElem? (i := 212) rfl)) rfl
theorem q_486 : Cond.code yL_doors method_47_code 11 (Option.some .boolean) ∈ sw_all := sw_q (qt_3 _ (List.mem_of_getElem? (i := 213) rfl)) rfl
theorem q_487 : Cond.methodLink RL 224 yX6_doorCount ∈ sw_all := sw_q (qt_3 _ (List.mem_of_getElem? (i := 214) rfl)) rfl
theorem q_488 : Cond.instanceMethod yX6_doorCount ∈ sw_all := sw_q (qt_3 _ (List.mem_of_getElem? (i := 215) rfl)) rfl
theorem q_489 : Cond.selects RX6 yX6_doorCount yX6_doorCount ∈ sw_all := sw_q (qt_3 _ (List.mem_of_getElem? (i := 216) rfl)) rfl
theorem q_490 : Cond.code yX6_doorCount prog_1_method_12_code 1 (Option.some .int) ∈ sw_all := sw_q (qt_3 _ (List.mem_of_getElem? (i := 217) rfl)) rfl
theorem q_491 : Cond.methodLink RL 191 yX6_examinerCount ∈ sw_all := sw_q (qt_3 _ (List.mem_of_getElem? (i := 218) rfl)) rfl
theorem q_492 : Cond.instanceMethod yX6_examinerCount ∈ sw_all := sw_q (qt_3 _ (List.mem_of_getElem? (i := 219) rfl)) rfl
theorem q_493 : Cond.selects RX6 yX6_examinerCount yX6_examinerCount ∈ sw_all := sw_q (qt_3 _ (List.mem_of_getElem? (i := 220) rfl)) rfl
theorem q_494 : Cond.code yX6_examinerCount prog_1_method_22_code 1 (Option.some .int) ∈ sw_all := sw_q (qt_3 _ (List.mem_of_getElem? (i := 221) rfl)) rfl
theorem q_495 : Cond.methodLink RL 227 yL_isAssigned ∈ sw_all := sw_q (qt_3 _ (List.mem_of_getElem? (i := 222) rfl)) rfl
theorem q_496 : Cond.static yL_isAssigned ∈ sw_all := sw_q (qt_3 _ (List.mem_of_getElem? (i := 223) rfl)) rfl
theorem q_497 : Cond.methodLink RL 94 yX6_isAssigned ∈ sw_all := sw_q (qt_3 _ (List.mem_of_getElem? (i := 225) rfl)) rfl
theorem q_498 : Cond.instanceMethod yX6_isAssigned ∈ sw_all := sw_q (qt_3 _ (List.mem_of_getElem? (i := 226) rfl)) rfl
theorem q_499 : Cond.selects RX6 yX6_isAssigned yX6_isAssigned ∈ sw_all := sw_q (qt_3 _ (List.mem_of_getElem? (i := 227) rfl)) rfl
theorem q_500 : Cond.code yX6_isAssigned prog_1_method_27_code 3 (Option.some .boolean) ∈ sw_all := sw_q (qt_3 _ (List.mem_of_getElem? (i := 228) rfl)) rfl
theorem q_501 : Cond.methodLink RX6 171 yX6_requirePair ∈ sw_all := sw_q (qt_3 _ (List.mem_of_getElem? (i := 229) rfl)) rfl
theorem q_502 : Cond.instanceMethod yX6_requirePair ∈ sw_all := sw_q (qt_3 _ (List.mem_of_getElem? (i := 231) rfl)) rfl
theorem q_503 : Cond.code yX6_requirePair prog_1_method_59_code 3 none ∈ sw_all := sw_q (qt_3 _ (List.mem_of_getElem? (i := 232) rfl)) rfl
theorem q_504 : Cond.methodLink RX6 162 yX6_requireExaminer ∈ sw_all := sw_q (qt_3 _ (List.mem_of_getElem? (i := 233) rfl)) rfl
theorem q_505 : Cond.instanceMethod yX6_requireExaminer ∈ sw_all := sw_q (qt_3 _ (List.mem_of_getElem? (i := 235) rfl)) rfl
theorem q_506 : Cond.code yX6_requireExaminer prog_1_method_58_code 2 none ∈ sw_all := sw_q (qt_3 _ (List.mem_of_getElem? (i := 236) rfl)) rfl
theorem q_507 : Cond.methodLink RX6 325 yX5_hasExaminer ∈ sw_all := sw_q (qt_3 _ (List.mem_of_getElem? (i := 237) rfl)) rfl
theorem q_508 : Cond.methodLink RX6 119 yX6_requireDoor ∈ sw_all := sw_q (qt_3 _ (List.mem_of_getElem? (i := 238) rfl)) rfl
theorem q_509 : Cond.instanceMethod yX6_requireDoor ∈ sw_all := sw_q (qt_4 _ (List.mem_of_getElem? (i := 0) rfl)) rfl
theorem q_510 : Cond.code yX6_requireDoor prog_1_method_57_code 2 none ∈ sw_all := sw_q (qt_4 _ (List.mem_of_getElem? (i := 1) rfl)) rfl
theorem q_511 : Cond.methodLink RX6 322 yX5_hasDoor ∈ sw_all := sw_q (qt_4 _ (List.mem_of_getElem? (i := 2) rfl)) rfl
theorem q_512 : Cond.methodLink RX6 181 yX5_assigned ∈ sw_all := sw_q (qt_4 _ (List.mem_of_getElem? (i := 3) rfl)) rfl
theorem q_513 : Cond.methodLink RL 194 yL_gradeBy ∈ sw_all := sw_q (qt_4 _ (List.mem_of_getElem? (i := 4) rfl)) rfl
theorem q_514 : Cond.static yL_gradeBy ∈ sw_all := sw_q (qt_4 _ (List.mem_of_getElem? (i := 5) rfl)) rfl
theorem q_515 : Cond.classLink RL 50 "java/util/NoSuchElementException" ∈ sw_all := sw_q (qt_4 _ (List.mem_of_getElem? (i := 7) rfl)) rfl
theorem q_516 : Cond.methodLink RL 97 yX6_gradeBy ∈ sw_all := sw_q (qt_4 _ (List.mem_of_getElem? (i := 8) rfl)) rfl
theorem q_517 : Cond.instanceMethod yX6_gradeBy ∈ sw_all := sw_q (qt_4 _ (List.mem_of_getElem? (i := 9) rfl)) rfl
theorem q_518 : Cond.selects RX6 yX6_gradeBy yX6_gradeBy ∈ sw_all := sw_q (qt_4 _ (List.mem_of_getElem? (i := 10) rfl)) rfl
theorem q_519 : Cond.code yX6_gradeBy prog_1_method_28_code 3 (Option.some .int) ∈ sw_all := sw_q (qt_4 _ (List.mem_of_getElem? (i := 11) rfl)) rfl
theorem q_520 : Cond.methodLink RX6 139 yX6_requireThere ∈ sw_all := sw_q (qt_4 _ (List.mem_of_getElem? (i := 12) rfl)) rfl
theorem q_521 : Cond.static yX6_requireThere ∈ sw_all := sw_q (qt_4 _ (List.mem_of_getElem? (i := 13) rfl)) rfl
theorem q_522 : Cond.code yX6_requireThere prog_1_method_61_code 1 (Option.some .int) ∈ sw_all := sw_q (qt_4 _ (List.mem_of_getElem? (i := 14) rfl)) rfl
theorem q_523 : Cond.methodLink RL 229 yL_median ∈ sw_all := sw_q (qt_4 _ (List.mem_of_getElem? (i := 15) rfl)) rfl
theorem q_524 : Cond.static yL_median ∈ sw_all := sw_q (qt_4 _ (List.mem_of_getElem? (i := 16) rfl)) rfl
theorem q_525 : Cond.code yL_median method_43_code 7 (Option.some .int) ∈ sw_all := sw_q (qt_4 _ (List.mem_of_getElem? (i := 17) rfl)) rfl
theorem q_526 : Cond.methodLink RL 232 yX6_threshold ∈ sw_all := sw_q (qt_4 _ (List.mem_of_getElem? (i := 18) rfl)) rfl
theorem q_527 : Cond.instanceMethod yX6_threshold ∈ sw_all := sw_q (qt_4 _ (List.mem_of_getElem? (i := 19) rfl)) rfl
theorem q_528 : Cond.selects RX6 yX6_threshold yX6_threshold ∈ sw_all := sw_q (qt_4 _ (List.mem_of_getElem? (i := 20) rfl)) rfl
theorem q_529 : Cond.code yX6_threshold prog_1_method_35_code 1 (Option.some .int) ∈ sw_all := sw_q (qt_4 _ (List.mem_of_getElem? (i := 21) rfl)) rfl
theorem q_530 : Cond.methodLink RL 235 yL_examinersOf ∈ sw_all := sw_q (qt_4 _ (List.mem_of_getElem? (i := 22) rfl)) rfl
theorem q_531 : Cond.static yL_examinersOf ∈ sw_all := sw_q (qt_4 _ (List.mem_of_getElem? (i := 23) rfl)) rfl
theorem q_532 : Cond.methodLink RL 59 yX6_examinersOf ∈ sw_all := sw_q (qt_4 _ (List.mem_of_getElem? (i := 25) rfl)) rfl
theorem q_533 : Cond.instanceMethod yX6_examinersOf ∈ sw_all := sw_q (qt_4 _ (List.mem_of_getElem? (i := 26) rfl)) rfl
theorem q_534 : Cond.selects RX6 yX6_examinersOf yX6_examinersOf ∈ sw_all := sw_q (qt_4 _ (List.mem_of_getElem? (i := 27) rfl)) rfl
theorem q_535 : Cond.code yX6_examinersOf prog_1_method_15_code 2 (Option.some .int) ∈ sw_all := sw_q (qt_4 _ (List.mem_of_getElem? (i := 28) rfl)) rfl
theorem q_536 : Cond.methodLink RX6 130 yX5_assignedCount ∈ sw_all := sw_q (qt_4 _ (List.mem_of_getElem? (i := 29) rfl)) rfl
theorem q_537 : Cond.methodLink RL 237 yL_gradesOf ∈ sw_all := sw_q (qt_4 _ (List.mem_of_getElem? (i := 30) rfl)) rfl
theorem q_538 : Cond.static yL_gradesOf ∈ sw_all := sw_q (qt_4 _ (List.mem_of_getElem? (i := 31) rfl)) rfl
theorem q_539 : Cond.methodLink RL 62 yX6_gradesOf ∈ sw_all := sw_q (qt_4 _ (List.mem_of_getElem? (i := 33) rfl)) rfl
theorem q_540 : Cond.instanceMethod yX6_gradesOf ∈ sw_all := sw_q (qt_4 _ (List.mem_of_getElem? (i := 34) rfl)) rfl
theorem q_541 : Cond.selects RX6 yX6_gradesOf yX6_gradesOf ∈ sw_all := sw_q (qt_4 _ (List.mem_of_getElem? (i := 35) rfl)) rfl
theorem q_542 : Cond.code yX6_gradesOf prog_1_method_16_code 2 (Option.some .int) ∈ sw_all := sw_q (qt_4 _ (List.mem_of_getElem? (i := 36) rfl)) rfl
theorem q_543 : Cond.methodLink RX6 133 yX5_gradeCount ∈ sw_all := sw_q (qt_4 _ (List.mem_of_getElem? (i := 37) rfl)) rfl
theorem q_544 : Cond.methodLink RL 239 yL_result ∈ sw_all := sw_q (qt_4 _ (List.mem_of_getElem? (i := 38) rfl)) rfl
theorem q_545 : Cond.static yL_result ∈ sw_all := sw_q (qt_4 _ (List.mem_of_getElem? (i := 39) rfl)) rfl
theorem q_546 : Cond.methodLink RL 65 yX6_result ∈ sw_all := sw_q (qt_4 _ (List.mem_of_getElem? (i := 41) rfl)) rfl
theorem q_547 : Cond.instanceMethod yX6_result ∈ sw_all := sw_q (qt_4 _ (List.mem_of_getElem? (i := 42) rfl)) rfl
theorem q_548 : Cond.selects RX6 yX6_result yX6_result ∈ sw_all := sw_q (qt_4 _ (List.mem_of_getElem? (i := 43) rfl)) rfl
theorem q_549 : Cond.code yX6_result prog_1_method_17_code 2 (Option.some .int) ∈ sw_all := sw_q (qt_4 _ (List.mem_of_getElem? (i := 44) rfl)) rfl
theorem q_550 : Cond.methodLink RX6 136 yX5_median ∈ sw_all := sw_q (qt_4 _ (List.mem_of_getElem? (i := 45) rfl)) rfl
theorem q_551 : Cond.methodLink RL 241 yL_passes ∈ sw_all := sw_q (qt_4 _ (List.mem_of_getElem? (i := 46) rfl)) rfl
theorem q_552 : Cond.static yL_passes ∈ sw_all := sw_q (qt_4 _ (List.mem_of_getElem? (i := 47) rfl)) rfl
theorem q_553 : Cond.methodLink RL 68 yX6_passes ∈ sw_all := sw_q (qt_4 _ (List.mem_of_getElem? (i := 49) rfl)) rfl
theorem q_554 : Cond.instanceMethod yX6_passes ∈ sw_all := sw_q (qt_4 _ (List.mem_of_getElem? (i := 50) rfl)) rfl
theorem q_555 : Cond.selects RX6 yX6_passes yX6_passes ∈ sw_all := sw_q (qt_4 _ (List.mem_of_getElem? (i := 51) rfl)) rfl
theorem q_556 : Cond.code yX6_passes prog_1_method_18_code 2 (Option.some .boolean) ∈ sw_all := sw_q (qt_4 _ (List.mem_of_getElem? (i := 52) rfl)) rfl
theorem q_557 : Cond.methodLink RX6 142 yX5_hasPassed ∈ sw_all := sw_q (qt_4 _ (List.mem_of_getElem? (i := 53) rfl)) rfl
theorem q_558 : Cond.methodLink RL 243 yL_isEntitled ∈ sw_all := sw_q (qt_4 _ (List.mem_of_getElem? (i := 54) rfl)) rfl
theorem q_559 : Cond.static yL_isEntitled ∈ sw_all := sw_q (qt_4 _ (List.mem_of_getElem? (i := 55) rfl)) rfl
theorem q_560 : Cond.methodLink RL 75 yX6_isEntitled ∈ sw_all := sw_q (qt_4 _ (List.mem_of_getElem? (i := 57) rfl)) rfl
theorem q_561 : Cond.instanceMethod yX6_isEntitled ∈ sw_all := sw_q (qt_4 _ (List.mem_of_getElem? (i := 58) rfl)) rfl
theorem q_562 : Cond.selects RX6 yX6_isEntitled yX6_isEntitled ∈ sw_all := sw_q (qt_4 _ (List.mem_of_getElem? (i := 59) rfl)) rfl
theorem q_563 : Cond.code yX6_isEntitled prog_1_method_20_code 2 (Option.some .boolean) ∈ sw_all := sw_q (qt_4 _ (List.mem_of_getElem? (i := 60) rfl)) rfl
theorem q_564 : Cond.methodLink RX6 153 yX5_deservesDegree ∈ sw_all := sw_q (qt_4 _ (List.mem_of_getElem? (i := 61) rfl)) rfl
theorem q_565 : Cond.methodLink RL 72 yX6_wasGranted ∈ sw_all := sw_q (qt_4 _ (List.mem_of_getElem? (i := 62) rfl)) rfl
theorem q_566 : Cond.instanceMethod yX6_wasGranted ∈ sw_all := sw_q (qt_4 _ (List.mem_of_getElem? (i := 63) rfl)) rfl
theorem q_567 : Cond.selects RX6 yX6_wasGranted yX6_wasGranted ∈ sw_all := sw_q (qt_4 _ (List.mem_of_getElem? (i := 64) rfl)) rfl
theorem q_568 : Cond.code yX6_wasGranted prog_1_method_19_code 2 (Option.some .boolean) ∈ sw_all := sw_q (qt_4 _ (List.mem_of_getElem? (i := 65) rfl)) rfl
theorem q_569 : Cond.methodLink RX6 149 yX6_contains ∈ sw_all := sw_q (qt_4 _ (List.mem_of_getElem? (i := 66) rfl)) rfl
theorem q_570 : Cond.methodLink RL 245 yL_doorAtRank ∈ sw_all := sw_q (qt_4 _ (List.mem_of_getElem? (i := 67) rfl)) rfl
theorem q_571 : Cond.static yL_doorAtRank ∈ sw_all := sw_q (qt_4 _ (List.mem_of_getElem? (i := 68) rfl)) rfl
theorem q_572 : Cond.methodLink RL 78 yX6_doorAtRank ∈ sw_all := sw_q (qt_4 _ (List.mem_of_getElem? (i := 70) rfl)) rfl
theorem q_573 : Cond.instanceMethod yX6_doorAtRank ∈ sw_all := sw_q (qt_4 _ (List.mem_of_getElem? (i := 71) rfl)) rfl
theorem q_574 : Cond.selects RX6 yX6_doorAtRank yX6_doorAtRank ∈ sw_all := sw_q (qt_4 _ (List.mem_of_getElem? (i := 72) rfl)) rfl
theorem q_575 : Cond.code yX6_doorAtRank prog_1_method_21_code 2 (Option.some .int) ∈ sw_all := sw_q (qt_4 _ (List.mem_of_getElem? (i := 73) rfl)) rfl
theorem q_576 : Cond.methodLink RX6 156 yX5_doorRanked ∈ sw_all := sw_q (qt_4 _ (List.mem_of_getElem? (i := 74) rfl)) rfl
theorem q_577 : Cond.instanceMethod yX5_doorRanked ∈ sw_all := sw_q (qt_4 _ (List.mem_of_getElem? (i := 75) rfl)) rfl
theorem q_578 : Cond.selects RX5 yX5_doorRanked yX5_doorRanked ∈ sw_all := sw_q (qt_4 _ (List.mem_of_getElem? (i := 76) rfl)) rfl
theorem q_579 : Cond.code yX5_doorRanked prog_7_method_21_code 3 (Option.some .int) ∈ sw_all := sw_q (qt_4 _ (List.mem_of_getElem? (i := 77) rfl)) rfl
theorem q_580 : Cond.methodLink RX5 117 yX5_rankOf ∈ sw_all := sw_q (qt_4 _ (List.mem_of_getElem? (i := 78) rfl)) rfl
theorem q_581 : Cond.instanceMethod yX5_rankOf ∈ sw_all := sw_q (qt_4 _ (List.mem_of_getElem? (i := 79) rfl)) rfl
theorem q_582 : Cond.selects RX5 yX5_rankOf yX5_rankOf ∈ sw_all := sw_q (qt_4 _ (List.mem_of_getElem? (i := 80) rfl)) rfl
theorem q_583 : Cond.code yX5_rankOf prog_7_method_22_code 4 (Option.some .int) ∈ sw_all := sw_q (qt_4 _ (List.mem_of_getElem? (i := 81) rfl)) rfl
theorem q_584 : Cond.methodLink RX5 120 yX5_ranksBefore ∈ sw_all := sw_q (qt_4 _ (List.mem_of_getElem? (i := 82) rfl)) rfl
theorem q_585 : Cond.instanceMethod yX5_ranksBefore ∈ sw_all := sw_q (qt_4 _ (List.mem_of_getElem? (i := 83) rfl)) rfl
theorem q_586 : Cond.selects RX5 yX5_ranksBefore yX5_ranksBefore ∈ sw_all := sw_q (qt_4 _ (List.mem_of_getElem? (i := 84) rfl)) rfl
theorem q_587 : Cond.code yX5_ranksBefore prog_7_method_23_code 7 (Option.some .boolean) ∈ sw_all := sw_q (qt_4 _ (List.mem_of_getElem? (i := 85) rfl)) rfl
theorem q_588 : Cond.methodLink RL 247 yL_frameOfDoor ∈ sw_all := sw_q (qt_4 _ (List.mem_of_getElem? (i := 86) rfl)) rfl
theorem q_589 : Cond.static yL_frameOfDoor ∈ sw_all := sw_q (qt_4 _ (List.mem_of_getElem? (i := 87) rfl)) rfl
theorem q_590 : Cond.methodLink RL 52 yX6_frameOfDoor ∈ sw_all := sw_q (qt_4 _ (List.mem_of_getElem? (i := 89) rfl)) rfl
theorem q_591 : Cond.instanceMethod yX6_frameOfDoor ∈ sw_all := sw_q (qt_4 _ (List.mem_of_getElem? (i := 90) rfl)) rfl
theorem q_592 : Cond.selects RX6 yX6_frameOfDoor yX6_frameOfDoor ∈ sw_all := sw_q (qt_4 _ (List.mem_of_getElem? (i := 91) rfl)) rfl
theorem q_593 : Cond.code yX6_frameOfDoor prog_1_method_13_code 2 (Option.some .char) ∈ sw_all := sw_q (qt_4 _ (List.mem_of_getElem? (i := 92) rfl)) rfl
theorem q_594 : Cond.methodLink RL 249 yL_topic ∈ sw_all := sw_q (qt_4 _ (List.mem_of_getElem? (i := 93) rfl)) rfl
theorem q_595 : Cond.static yL_topic ∈ sw_all := sw_q (qt_4 _ (List.mem_of_getElem? (i := 94) rfl)) rfl
theorem q_596 : Cond.methodLink RL 56 yX6_topic ∈ sw_all := sw_q (qt_4 _ (List.mem_of_getElem? (i := 96) rfl)) rfl
theorem q_597 : Cond.instanceMethod yX6_topic ∈ sw_all := sw_q (qt_4 _ (List.mem_of_getElem? (i := 97) rfl)) rfl
theorem q_598 : Cond.selects RX6 yX6_topic yX6_topic ∈ sw_all := sw_q (qt_4 _ (List.mem_of_getElem? (i := 98) rfl)) rfl
theorem q_599 : Cond.code yX6_topic prog_1_method_14_code 2 (Option.some .int) ∈ sw_all := sw_q (qt_4 _ (List.mem_of_getElem? (i := 99) rfl)) rfl
theorem q_600 : Cond.methodLink RL 251 yL_wasGranted ∈ sw_all := sw_q (qt_4 _ (List.mem_of_getElem? (i := 100) rfl)) rfl
theorem q_601 : Cond.static yL_wasGranted ∈ sw_all := sw_q (qt_4 _ (List.mem_of_getElem? (i := 101) rfl)) rfl
theorem q_602 : Cond.methodLink RL 208 yL_examiners ∈ sw_all := sw_q (qt_4 _ (List.mem_of_getElem? (i := 103) rfl)) rfl
theorem q_603 : Cond.static yL_examiners ∈ sw_all := sw_q (qt_4 _ (List.mem_of_getElem? (i := 104) rfl)) rfl
theorem q_604 : Cond.code yL_examiners method_48_code 10 (Option.some .boolean) ∈ sw_all := sw_q (qt_4 _ (List.mem_of_getElem? (i := 105) rfl)) rfl
theorem q_605 : Cond.methodLink RL 253 yL_planned ∈ sw_all := sw_q (qt_4 _ (List.mem_of_getElem? (i := 106) rfl)) rfl
theorem q_606 : Cond.static yL_planned ∈ sw_all := sw_q (qt_4 _ (List.mem_of_getElem? (i := 107) rfl)) rfl
theorem q_607 : Cond.methodLink RL 100 yX6_plannedExaminer ∈ sw_all := sw_q (qt_4 _ (List.mem_of_getElem? (i := 109) rfl)) rfl
theorem q_608 : Cond.instanceMethod yX6_plannedExaminer ∈ sw_all := sw_q (qt_4 _ (List.mem_of_getElem? (i := 110) rfl)) rfl
theorem q_609 : Cond.selects RX6 yX6_plannedExaminer yX6_plannedExaminer ∈ sw_all := sw_q (qt_4 _ (List.mem_of_getElem? (i := 111) rfl)) rfl
theorem q_610 : Cond.code yX6_plannedExaminer prog_1_method_31_code 2 (Option.some .int) ∈ sw_all := sw_q (qt_4 _ (List.mem_of_getElem? (i := 112) rfl)) rfl
theorem q_611 : Cond.methodLink RL 256 yL_frameOfExaminer ∈ sw_all := sw_q (qt_4 _ (List.mem_of_getElem? (i := 113) rfl)) rfl
theorem q_612 : Cond.static yL_frameOfExaminer ∈ sw_all := sw_q (qt_4 _ (List.mem_of_getElem? (i := 114) rfl)) rfl
theorem q_613 : Cond.methodLink RL 81 yX6_frameOfExaminer ∈ sw_all := sw_q (qt_4 _ (List.mem_of_getElem? (i := 116) rfl)) rfl
theorem q_614 : Cond.instanceMethod yX6_frameOfExaminer ∈ sw_all := sw_q (qt_4 _ (List.mem_of_getElem? (i := 117) rfl)) rfl
theorem q_615 : Cond.selects RX6 yX6_frameOfExaminer yX6_frameOfExaminer ∈ sw_all := sw_q (qt_4 _ (List.mem_of_getElem? (i := 118) rfl)) rfl
theorem q_616 : Cond.code yX6_frameOfExaminer prog_1_method_23_code 2 (Option.some .char) ∈ sw_all := sw_q (qt_4 _ (List.mem_of_getElem? (i := 119) rfl)) rfl
theorem q_617 : Cond.methodLink RL 258 yL_isNeutral ∈ sw_all := sw_q (qt_4 _ (List.mem_of_getElem? (i := 120) rfl)) rfl
theorem q_618 : Cond.static yL_isNeutral ∈ sw_all := sw_q (qt_4 _ (List.mem_of_getElem? (i := 121) rfl)) rfl
theorem q_619 : Cond.methodLink RL 87 yX6_isNeutral ∈ sw_all := sw_q (qt_4 _ (List.mem_of_getElem? (i := 123) rfl)) rfl
theorem q_620 : Cond.instanceMethod yX6_isNeutral ∈ sw_all := sw_q (qt_4 _ (List.mem_of_getElem? (i := 124) rfl)) rfl
theorem q_621 : Cond.selects RX6 yX6_isNeutral yX6_isNeutral ∈ sw_all := sw_q (qt_4 _ (List.mem_of_getElem? (i := 125) rfl)) rfl
theorem q_622 : Cond.code yX6_isNeutral prog_1_method_25_code 3 (Option.some .boolean) ∈ sw_all := sw_q (qt_4 _ (List.mem_of_getElem? (i := 126) rfl)) rfl
theorem q_623 : Cond.methodLink RX6 175 yX5_neutral ∈ sw_all := sw_q (qt_4 _ (List.mem_of_getElem? (i := 127) rfl)) rfl
theorem q_624 : Cond.methodLink RL 260 yL_mayJudge ∈ sw_all := sw_q (qt_4 _ (List.mem_of_getElem? (i := 128) rfl)) rfl
theorem q_625 : Cond.static yL_mayJudge ∈ sw_all := sw_q (qt_4 _ (List.mem_of_getElem? (i := 129) rfl)) rfl
theorem q_626 : Cond.methodLink RL 91 yX6_mayJudge ∈ sw_all := sw_q (qt_4 _ (List.mem_of_getElem? (i := 131) rfl)) rfl
theorem q_627 : Cond.instanceMethod yX6_mayJudge ∈ sw_all := sw_q (qt_4 _ (List.mem_of_getElem? (i := 132) rfl)) rfl
theorem q_628 : Cond.selects RX6 yX6_mayJudge yX6_mayJudge ∈ sw_all := sw_q (qt_4 _ (List.mem_of_getElem? (i := 133) rfl)) rfl
theorem q_629 : Cond.code yX6_mayJudge prog_1_method_26_code 3 (Option.some .boolean) ∈ sw_all := sw_q (qt_4 _ (List.mem_of_getElem? (i := 134) rfl)) rfl
theorem q_630 : Cond.methodLink RX6 178 yX5_canJudge ∈ sw_all := sw_q (qt_4 _ (List.mem_of_getElem? (i := 135) rfl)) rfl
theorem q_631 : Cond.methodLink RL 262 yL_load ∈ sw_all := sw_q (qt_4 _ (List.mem_of_getElem? (i := 136) rfl)) rfl
theorem q_632 : Cond.static yL_load ∈ sw_all := sw_q (qt_4 _ (List.mem_of_getElem? (i := 137) rfl)) rfl
theorem q_633 : Cond.methodLink RL 84 yX6_load ∈ sw_all := sw_q (qt_4 _ (List.mem_of_getElem? (i := 139) rfl)) rfl
theorem q_634 : Cond.instanceMethod yX6_load ∈ sw_all := sw_q (qt_4 _ (List.mem_of_getElem? (i := 140) rfl)) rfl
theorem q_635 : Cond.selects RX6 yX6_load yX6_load ∈ sw_all := sw_q (qt_4 _ (List.mem_of_getElem? (i := 141) rfl)) rfl
theorem q_636 : Cond.code yX6_load prog_1_method_24_code 2 (Option.some .int) ∈ sw_all := sw_q (qt_4 _ (List.mem_of_getElem? (i := 142) rfl)) rfl
theorem q_637 : Cond.methodLink RX6 168 yX5_loadOf ∈ sw_all := sw_q (qt_4 _ (List.mem_of_getElem? (i := 143) rfl)) rfl
theorem q_638 : Cond.methodLink RL 264 yX6_planSize ∈ sw_all := sw_q (qt_4 _ (List.mem_of_getElem? (i := 144) rfl)) rfl
theorem q_639 : Cond.instanceMethod yX6_planSize ∈ sw_all := sw_q (qt_4 _ (List.mem_of_getElem? (i := 145) rfl)) rfl
theorem q_640 : Cond.selects RX6 yX6_planSize yX6_planSize ∈ sw_all := sw_q (qt_4 _ (List.mem_of_getElem? (i := 146) rfl)) rfl
theorem q_641 : Cond.code yX6_planSize prog_1_method_29_code 1 (Option.some .int) ∈ sw_all := sw_q (qt_4 _ (List.mem_of_getElem? (i := 147) rfl)) rfl
theorem q_642 : Cond.methodLink RX6 188 yX3_sizeByExchanges ∈ sw_all := sw_q (qt_4 _ (List.mem_of_getElem? (i := 148) rfl)) rfl
theorem q_643 : Cond.instanceMethod yX3_sizeByExchanges ∈ sw_all := sw_q (qt_4 _ (List.mem_of_getElem? (i := 149) rfl)) rfl
theorem q_644 : Cond.selects RX3 yX3_sizeByExchanges yX3_sizeByExchanges ∈ sw_all := sw_q (qt_4 _ (List.mem_of_getElem? (i := 150) rfl)) rfl
theorem q_645 : Cond.code yX3_sizeByExchanges prog_5_method_2_code 2 (Option.some .int) ∈ sw_all := sw_q (qt_4 _ (List.mem_of_getElem? (i := 151) rfl)) rfl
theorem q_646 : Cond.methodLink RL 267 yX6_planSizeBySets ∈ sw_all := sw_q (qt_4 _ (List.mem_of_getElem? (i := 152) rfl)) rfl
theorem q_647 : Cond.instanceMethod yX6_planSizeBySets ∈ sw_all := sw_q (qt_4 _ (List.mem_of_getElem? (i := 153) rfl)) rfl
theorem q_648 : Cond.selects RX6 yX6_planSizeBySets yX6_planSizeBySets ∈ sw_all := sw_q (qt_4 _ (List.mem_of_getElem? (i := 154) rfl)) rfl
theorem q_649 : Cond.code yX6_planSizeBySets prog_1_method_30_code 1 (Option.some .int) ∈ sw_all := sw_q (qt_4 _ (List.mem_of_getElem? (i := 155) rfl)) rfl
theorem q_650 : Cond.methodLink RX6 192 yX3_sizeBySets ∈ sw_all := sw_q (qt_4 _ (List.mem_of_getElem? (i := 156) rfl)) rfl
theorem q_651 : Cond.instanceMethod yX3_sizeBySets ∈ sw_all := sw_q (qt_4 _ (List.mem_of_getElem? (i := 157) rfl)) rfl
theorem q_652 : Cond.selects RX3 yX3_sizeBySets yX3_sizeBySets ∈ sw_all := sw_q (qt_4 _ (List.mem_of_getElem? (i := 158) rfl)) rfl
theorem q_653 : Cond.code yX3_sizeBySets prog_5_method_3_code 4 (Option.some .int) ∈ sw_all := sw_q (qt_4 _ (List.mem_of_getElem? (i := 159) rfl)) rfl
theorem q_654 : Cond.methodLink RX3 49 yX3_extendSets ∈ sw_all := sw_q (qt_4 _ (List.mem_of_getElem? (i := 160) rfl)) rfl
theorem q_655 : Cond.instanceMethod yX3_extendSets ∈ sw_all := sw_q (qt_4 _ (List.mem_of_getElem? (i := 162) rfl)) rfl
theorem q_656 : Cond.code yX3_extendSets prog_5_method_12_code 4 none ∈ sw_all := sw_q (qt_4 _ (List.mem_of_getElem? (i := 163) rfl)) rfl
theorem q_657 : Cond.methodLink RX3 53 yJ6_bitCount_0f7a4 ∈ sw_all := sw_q (qt_4 _ (List.mem_of_getElem? (i := 164) rfl)) rfl
theorem q_658 : Cond.methodLink RX3 58 yJ9_max_7cf53 ∈ sw_all := sw_q (qt_4 _ (List.mem_of_getElem? (i := 165) rfl)) rfl
theorem q_659 : Cond.methodLink RL 211 yL_panels_ ∈ sw_all := sw_q (qt_4 _ (List.mem_of_getElem? (i := 166) rfl)) rfl
theorem q_660 : Cond.static yL_panels_ ∈ sw_all := sw_q (qt_4 _ (List.mem_of_getElem? (i := 167) rfl)) rfl
theorem q_661 : Cond.code yL_panels_ method_49_code 9 (Option.some .boolean) ∈ sw_all := sw_q (qt_4 _ (List.mem_of_getElem? (i := 168) rfl)) rfl
theorem q_662 : Cond.methodLink RL 270 yJ6_bitCount_0f7a4 ∈ sw_all := sw_q (qt_4 _ (List.mem_of_getElem? (i := 169) rfl)) rfl
theorem q_663 : Cond.methodLink RL 196 yL_canSit ∈ sw_all := sw_q (qt_4 _ (List.mem_of_getElem? (i := 170) rfl)) rfl
theorem q_664 : Cond.static yL_canSit ∈ sw_all := sw_q (qt_4 _ (List.mem_of_getElem? (i := 171) rfl)) rfl
theorem q_665 : Cond.code yL_canSit method_44_code 3 (Option.some .boolean) ∈ sw_all := sw_q (qt_4 _ (List.mem_of_getElem? (i := 172) rfl)) rfl
theorem q_666 : Cond.methodLink RL 275 yL_firstPanel ∈ sw_all := sw_q (qt_4 _ (List.mem_of_getElem? (i := 173) rfl)) rfl
theorem q_667 : Cond.static yL_firstPanel ∈ sw_all := sw_q (qt_4 _ (List.mem_of_getElem? (i := 174) rfl)) rfl
theorem q_668 : Cond.code yL_firstPanel method_45_code 7 (Option.some .int) ∈ sw_all := sw_q (qt_4 _ (List.mem_of_getElem? (i := 175) rfl)) rfl
theorem q_669 : Cond.methodLink RL 278 yL_member ∈ sw_all := sw_q (qt_4 _ (List.mem_of_getElem? (i := 176) rfl)) rfl
theorem q_670 : Cond.static yL_member ∈ sw_all := sw_q (qt_4 _ (List.mem_of_getElem? (i := 177) rfl)) rfl
theorem q_671 : Cond.methodLink RL 109 yX6_panelMember ∈ sw_all := sw_q (qt_4 _ (List.mem_of_getElem? (i := 179) rfl)) rfl
theorem q_672 : Cond.instanceMethod yX6_panelMember ∈ sw_all := sw_q (qt_4 _ (List.mem_of_getElem? (i := 180) rfl)) rfl
theorem q_673 : Cond.selects RX6 yX6_panelMember yX6_panelMember ∈ sw_all := sw_q (qt_4 _ (List.mem_of_getElem? (i := 181) rfl)) rfl
theorem q_674 : Cond.code yX6_panelMember prog_1_method_34_code 3 (Option.some .int) ∈ sw_all := sw_q (qt_4 _ (List.mem_of_getElem? (i := 182) rfl)) rfl
theorem q_675 : Cond.methodLink RX6 204 yX2_firstFor ∈ sw_all := sw_q (qt_4 _ (List.mem_of_getElem? (i := 183) rfl)) rfl
theorem q_676 : Cond.methodLink RX6 207 yX6_memberAt ∈ sw_all := sw_q (qt_4 _ (List.mem_of_getElem? (i := 184) rfl)) rfl
theorem q_677 : Cond.static yX6_memberAt ∈ sw_all := sw_q (qt_4 _ (List.mem_of_getElem? (i := 185) rfl)) rfl
theorem q_678 : Cond.code yX6_memberAt prog_1_method_67_code 4 (Option.some .int) ∈ sw_all := sw_q (qt_4 _ (List.mem_of_getElem? (i := 186) rfl)) rfl
theorem q_679 : Cond.methodLink RL 281 yL_panels ∈ sw_all := sw_q (qt_4 _ (List.mem_of_getElem? (i := 187) rfl)) rfl
theorem q_680 : Cond.static yL_panels ∈ sw_all := sw_q (qt_4 _ (List.mem_of_getElem? (i := 188) rfl)) rfl
theorem q_681 : Cond.methodLink RL 103 yX6_panelCount ∈ sw_all := sw_q (qt_4 _ (List.mem_of_getElem? (i := 190) rfl)) rfl
theorem q_682 : Cond.instanceMethod yX6_panelCount ∈ sw_all := sw_q (qt_4 _ (List.mem_of_getElem? (i := 191) rfl)) rfl
theorem q_683 : Cond.selects RX6 yX6_panelCount yX6_panelCount ∈ sw_all := sw_q (qt_4 _ (List.mem_of_getElem? (i := 192) rfl)) rfl
theorem q_684 : Cond.code yX6_panelCount prog_1_method_32_code 2 (Option.some .int) ∈ sw_all := sw_q (qt_4 _ (List.mem_of_getElem? (i := 193) rfl)) rfl
theorem q_685 : Cond.methodLink RX6 195 yX2_countByTrying ∈ sw_all := sw_q (qt_4 _ (List.mem_of_getElem? (i := 194) rfl)) rfl
theorem q_686 : Cond.instanceMethod yX2_countByTrying ∈ sw_all := sw_q (qt_4 _ (List.mem_of_getElem? (i := 195) rfl)) rfl
theorem q_687 : Cond.selects RX2 yX2_countByTrying yX2_countByTrying ∈ sw_all := sw_q (qt_4 _ (List.mem_of_getElem? (i := 196) rfl)) rfl
theorem q_688 : Cond.code yX2_countByTrying prog_4_method_2_code 7 (Option.some .int) ∈ sw_all := sw_q (qt_4 _ (List.mem_of_getElem? (i := 197) rfl)) rfl
theorem q_689 : Cond.methodLink RL 283 yL_byFrames ∈ sw_all := sw_q (qt_4 _ (List.mem_of_getElem? (i := 198) rfl)) rfl
theorem q_690 : Cond.static yL_byFrames ∈ sw_all := sw_q (qt_4 _ (List.mem_of_getElem? (i := 199) rfl)) rfl
theorem q_691 : Cond.methodLink RL 106 yX6_panelCountByFrames ∈ sw_all := sw_q (qt_4 _ (List.mem_of_getElem? (i := 201) rfl)) rfl
theorem q_692 : Cond.instanceMethod yX6_panelCountByFrames ∈ sw_all := sw_q (qt_4 _ (List.mem_of_getElem? (i := 202) rfl)) rfl
theorem q_693 : Cond.selects RX6 yX6_panelCountByFrames yX6_panelCountByFrames ∈ sw_all := sw_q (qt_4 _ (List.mem_of_getElem? (i := 203) rfl)) rfl
theorem q_694 : Cond.code yX6_panelCountByFrames prog_1_method_33_code 2 (Option.some .int) ∈ sw_all := sw_q (qt_4 _ (List.mem_of_getElem? (i := 204) rfl)) rfl
theorem q_695 : Cond.methodLink RX6 198 yX2_countByFrames ∈ sw_all := sw_q (qt_4 _ (List.mem_of_getElem? (i := 205) rfl)) rfl
theorem q_696 : Cond.instanceMethod yX2_countByFrames ∈ sw_all := sw_q (qt_4 _ (List.mem_of_getElem? (i := 206) rfl)) rfl
theorem q_697 : Cond.selects RX2 yX2_countByFrames yX2_countByFrames ∈ sw_all := sw_q (qt_4 _ (List.mem_of_getElem? (i := 207) rfl)) rfl
theorem q_698 : Cond.code yX2_countByFrames prog_4_method_3_code 7 (Option.some .int) ∈ sw_all := sw_q (qt_4 _ (List.mem_of_getElem? (i := 208) rfl)) rfl
theorem q_699 : Cond.methodLink RX2 19 yX2_suitableWithFrame ∈ sw_all := sw_q (qt_4 _ (List.mem_of_getElem? (i := 209) rfl)) rfl
theorem q_700 : Cond.static yX2_suitableWithFrame ∈ sw_all := sw_q (qt_4 _ (List.mem_of_getElem? (i := 210) rfl)) rfl
theorem q_701 : Cond.code yX2_suitableWithFrame prog_4_method_9_code 5 (Option.some .int) ∈ sw_all := sw_q (qt_4 _ (List.mem_of_getElem? (i := 211) rfl)) rfl
theorem q_702 : Cond.methodLink RL 214 yL_totals ∈ sw_all := sw_q (qt_4 _ (List.mem_of_getElem? (i := 212) rfl)) rfl
theorem q_703 : Cond.static yL_totals ∈ sw_all := sw_q (qt_4 _ (List.mem_of_getElem? (i := 213) rfl)) rfl
theorem q_704 : Cond.code yL_totals method_50_code 10 (Option.some .boolean) ∈ sw_all := sw_q (qt_4 _ (List.mem_of_getElem? (i := 214) rfl)) rfl
theorem q_705 : Cond.methodLink RL 286 yJ9_max_7cf53 ∈ sw_all := sw_q (qt_4 _ (List.mem_of_getElem? (i := 215) rfl)) rfl
theorem q_706 : Cond.methodLink RL 291 yX6_entryCount ∈ sw_all := sw_q (qt_4 _ (List.mem_of_getElem? (i := 216) rfl)) rfl
theorem q_707 : Cond.instanceMethod yX6_entryCount ∈ sw_all := sw_q (qt_4 _ (List.mem_of_getElem? (i := 217) rfl)) rfl
theorem q_708 : Cond.selects RX6 yX6_entryCount yX6_entryCount ∈ sw_all := sw_q (qt_4 _ (List.mem_of_getElem? (i := 218) rfl)) rfl
theorem q_709 : Cond.code yX6_entryCount prog_1_method_36_code 1 (Option.some .int) ∈ sw_all := sw_q (qt_4 _ (List.mem_of_getElem? (i := 219) rfl)) rfl
theorem q_710 : Cond.methodLink RL 294 yL_doorOf ∈ sw_all := sw_q (qt_4 _ (List.mem_of_getElem? (i := 220) rfl)) rfl
theorem q_711 : Cond.static yL_doorOf ∈ sw_all := sw_q (qt_4 _ (List.mem_of_getElem? (i := 221) rfl)) rfl
theorem q_712 : Cond.methodLink RL 112 yX6_doorOf ∈ sw_all := sw_q (qt_4 _ (List.mem_of_getElem? (i := 223) rfl)) rfl
theorem q_713 : Cond.instanceMethod yX6_doorOf ∈ sw_all := sw_q (qt_4 _ (List.mem_of_getElem? (i := 224) rfl)) rfl
theorem q_714 : Cond.selects RX6 yX6_doorOf yX6_doorOf ∈ sw_all := sw_q (qt_4 _ (List.mem_of_getElem? (i := 225) rfl)) rfl
theorem q_715 : Cond.code yX6_doorOf prog_1_method_37_code 2 (Option.some .int) ∈ sw_all := sw_q (qt_4 _ (List.mem_of_getElem? (i := 226) rfl)) rfl
theorem q_716 : Cond.methodLink RX6 216 yX6_requireEntry ∈ sw_all := sw_q (qt_4 _ (List.mem_of_getElem? (i := 227) rfl)) rfl
theorem q_717 : Cond.instanceMethod yX6_requireEntry ∈ sw_all := sw_q (qt_4 _ (List.mem_of_getElem? (i := 229) rfl)) rfl
theorem q_718 : Cond.code yX6_requireEntry prog_1_method_60_code 2 none ∈ sw_all := sw_q (qt_4 _ (List.mem_of_getElem? (i := 230) rfl)) rfl
theorem q_719 : Cond.methodLink RX6 328 yX5_hasEntry ∈ sw_all := sw_q (qt_4 _ (List.mem_of_getElem? (i := 231) rfl)) rfl
theorem q_720 : Cond.instanceMethod yX5_hasEntry ∈ sw_all := sw_q (qt_4 _ (List.mem_of_getElem? (i := 232) rfl)) rfl
theorem q_721 : Cond.selects RX5 yX5_hasEntry yX5_hasEntry ∈ sw_all := sw_q (qt_4 _ (List.mem_of_getElem? (i := 233) rfl)) rfl
theorem q_722 : Cond.code yX5_hasEntry prog_7_method_6_code 2 (Option.some .boolean) ∈ sw_all := sw_q (qt_4 _ (List.mem_of_getElem? (i := 234) rfl)) rfl
theorem q_723 : Cond.methodLink RL 296 yL_isRevoked ∈ sw_all := sw_q (qt_4 _ (List.mem_of_getElem? (i := 235) rfl)) rfl
theorem q_724 : Cond.static yL_isRevoked ∈ sw_all := sw_q (qt_4 _ (List.mem_of_getElem? (i := 236) rfl)) rfl
theorem q_725 : Cond.methodLink RL 115 yX6_isRevoked ∈ sw_all := sw_q (qt_4 _ (List.mem_of_getElem? (i := 238) rfl)) rfl
theorem q_726 : Cond.instanceMethod yX6_isRevoked ∈ sw_all := sw_q (qt_4 _ (List.mem_of_getElem? (i := 239) rfl)) rfl
theorem q_727 : Cond.selects RX6 yX6_isRevoked yX6_isRevoked ∈ sw_all := sw_q (qt_5 _ (List.mem_of_getElem? (i := 0) rfl)) rfl
theorem q_728 : Cond.code yX6_isRevoked prog_1_method_38_code 2 (Option.some .boolean) ∈ sw_all := sw_q (qt_5 _ (List.mem_of_getElem? (i := 1) rfl)) rfl
theorem q_729 : Cond.methodLink RL 298 yX6_meanGrade ∈ sw_all := sw_q (qt_5 _ (List.mem_of_getElem? (i := 2) rfl)) rfl
theorem q_730 : Cond.instanceMethod yX6_meanGrade ∈ sw_all := sw_q (qt_5 _ (List.mem_of_getElem? (i := 3) rfl)) rfl
theorem q_731 : Cond.selects RX6 yX6_meanGrade yX6_meanGrade ∈ sw_all := sw_q (qt_5 _ (List.mem_of_getElem? (i := 4) rfl)) rfl
theorem q_732 : Cond.code yX6_meanGrade prog_1_method_42_code 3 (Option.some .double) ∈ sw_all := sw_q (qt_5 _ (List.mem_of_getElem? (i := 5) rfl)) rfl
theorem q_733 : Cond.classLink RX6 228 "java/lang/ArithmeticException" ∈ sw_all := sw_q (qt_5 _ (List.mem_of_getElem? (i := 6) rfl)) rfl
theorem q_734 : Cond.instantiable "java/lang/ArithmeticException" 6 ∈ sw_all := sw_q (qt_5 _ (List.mem_of_getElem? (i := 7) rfl)) rfl
theorem q_735 : Cond.selects "java/lang/ArithmeticException" ⟨"java/lang/Throwable", "fillInStackTrace", "(I)Ljava/lang/Throwable;"⟩ ⟨"java/lang/Throwable", "fillInStackTrace", "(I)Ljava/lang/Throwable;"⟩ ∈ sw_all := sw_q (qt_5 _ (List.mem_of_getElem? (i := 9) rfl)) rfl
theorem q_736 : Cond.methodLink RX6 230 ⟨"java/lang/ArithmeticException", "<init>", "()V"⟩ ∈ sw_all := sw_q (qt_5 _ (List.mem_of_getElem? (i := 15) rfl)) rfl
theorem q_737 : Cond.instanceMethod ⟨"java/lang/ArithmeticException", "<init>", "()V"⟩ ∈ sw_all := sw_q (qt_5 _ (List.mem_of_getElem? (i := 16) rfl)) rfl
theorem q_738 : Cond.code ⟨"java/lang/ArithmeticException", "<init>", "()V"⟩ prog_13_method_1_code 1 none ∈ sw_all := sw_q (qt_5 _ (List.mem_of_getElem? (i := 17) rfl)) rfl
theorem q_739 : Cond.methodLink "java/lang/ArithmeticException" 1 ⟨"java/lang/RuntimeException", "<init>", "()V"⟩ ∈ sw_all := sw_q (qt_5 _ (List.mem_of_getElem? (i := 18) rfl)) rfl
theorem q_740 : Cond.methodLink RX6 231 yX6_gradeTotal ∈ sw_all := sw_q (qt_5 _ (List.mem_of_getElem? (i := 21) rfl)) rfl
theorem q_741 : Cond.instanceMethod yX6_gradeTotal ∈ sw_all := sw_q (qt_5 _ (List.mem_of_getElem? (i := 22) rfl)) rfl
theorem q_742 : Cond.selects RX6 yX6_gradeTotal yX6_gradeTotal ∈ sw_all := sw_q (qt_5 _ (List.mem_of_getElem? (i := 23) rfl)) rfl
theorem q_743 : Cond.code yX6_gradeTotal prog_1_method_41_code 4 (Option.some .long) ∈ sw_all := sw_q (qt_5 _ (List.mem_of_getElem? (i := 24) rfl)) rfl
theorem q_744 : Cond.methodLink RX6 225 yX5_gradeSum ∈ sw_all := sw_q (qt_5 _ (List.mem_of_getElem? (i := 25) rfl)) rfl
theorem q_745 : Cond.methodLink RL 302 yX6_passShare ∈ sw_all := sw_q (qt_5 _ (List.mem_of_getElem? (i := 26) rfl)) rfl
theorem q_746 : Cond.instanceMethod yX6_passShare ∈ sw_all := sw_q (qt_5 _ (List.mem_of_getElem? (i := 27) rfl)) rfl
theorem q_747 : Cond.selects RX6 yX6_passShare yX6_passShare ∈ sw_all := sw_q (qt_5 _ (List.mem_of_getElem? (i := 28) rfl)) rfl
theorem q_748 : Cond.code yX6_passShare prog_1_method_43_code 4 (Option.some .float) ∈ sw_all := sw_q (qt_5 _ (List.mem_of_getElem? (i := 29) rfl)) rfl
theorem q_749 : Cond.methodLink RL 306 yX6_assignments ∈ sw_all := sw_q (qt_5 _ (List.mem_of_getElem? (i := 30) rfl)) rfl
theorem q_750 : Cond.instanceMethod yX6_assignments ∈ sw_all := sw_q (qt_5 _ (List.mem_of_getElem? (i := 31) rfl)) rfl
theorem q_751 : Cond.selects RX6 yX6_assignments yX6_assignments ∈ sw_all := sw_q (qt_5 _ (List.mem_of_getElem? (i := 32) rfl)) rfl
theorem q_752 : Cond.code yX6_assignments prog_1_method_39_code 3 (Option.some .int) ∈ sw_all := sw_q (qt_5 _ (List.mem_of_getElem? (i := 33) rfl)) rfl
theorem q_753 : Cond.methodLink RL 309 yX6_assignmentsByDoors ∈ sw_all := sw_q (qt_5 _ (List.mem_of_getElem? (i := 34) rfl)) rfl
theorem q_754 : Cond.instanceMethod yX6_assignmentsByDoors ∈ sw_all := sw_q (qt_5 _ (List.mem_of_getElem? (i := 35) rfl)) rfl
theorem q_755 : Cond.selects RX6 yX6_assignmentsByDoors yX6_assignmentsByDoors ∈ sw_all := sw_q (qt_5 _ (List.mem_of_getElem? (i := 36) rfl)) rfl
theorem q_756 : Cond.code yX6_assignmentsByDoors prog_1_method_40_code 3 (Option.some .int) ∈ sw_all := sw_q (qt_5 _ (List.mem_of_getElem? (i := 37) rfl)) rfl
theorem q_757 : Cond.methodLink RL 312 yX6_gradeTotal ∈ sw_all := sw_q (qt_5 _ (List.mem_of_getElem? (i := 38) rfl)) rfl
theorem q_758 : Cond.methodLink RL 316 yX6_isConsistent ∈ sw_all := sw_q (qt_5 _ (List.mem_of_getElem? (i := 39) rfl)) rfl
theorem q_759 : Cond.instanceMethod yX6_isConsistent ∈ sw_all := sw_q (qt_5 _ (List.mem_of_getElem? (i := 40) rfl)) rfl
theorem q_760 : Cond.selects RX6 yX6_isConsistent yX6_isConsistent ∈ sw_all := sw_q (qt_5 _ (List.mem_of_getElem? (i := 41) rfl)) rfl
theorem q_761 : Cond.code yX6_isConsistent prog_1_method_44_code 1 (Option.some .boolean) ∈ sw_all := sw_q (qt_5 _ (List.mem_of_getElem? (i := 42) rfl)) rfl
theorem q_762 : Cond.methodLink RX6 235 yX6_assignments ∈ sw_all := sw_q (qt_5 _ (List.mem_of_getElem? (i := 43) rfl)) rfl
theorem q_763 : Cond.methodLink RX6 239 yX6_assignmentsByDoors ∈ sw_all := sw_q (qt_5 _ (List.mem_of_getElem? (i := 44) rfl)) rfl
theorem q_764 : Cond.methodLink RX6 242 yX6_panelCountsAgree ∈ sw_all := sw_q (qt_5 _ (List.mem_of_getElem? (i := 45) rfl)) rfl
theorem q_765 : Cond.instanceMethod yX6_panelCountsAgree ∈ sw_all := sw_q (qt_5 _ (List.mem_of_getElem? (i := 47) rfl)) rfl
theorem q_766 : Cond.code yX6_panelCountsAgree prog_1_method_62_code 2 (Option.some .boolean) ∈ sw_all := sw_q (qt_5 _ (List.mem_of_getElem? (i := 48) rfl)) rfl
theorem q_767 : Cond.methodLink RX6 246 yX6_framesDiffer ∈ sw_all := sw_q (qt_5 _ (List.mem_of_getElem? (i := 49) rfl)) rfl
theorem q_768 : Cond.instanceMethod yX6_framesDiffer ∈ sw_all := sw_q (qt_5 _ (List.mem_of_getElem? (i := 51) rfl)) rfl
theorem q_769 : Cond.code yX6_framesDiffer prog_1_method_63_code 3 (Option.some .boolean) ∈ sw_all := sw_q (qt_5 _ (List.mem_of_getElem? (i := 52) rfl)) rfl
theorem q_770 : Cond.methodLink RL 217 yL_lines ∈ sw_all := sw_q (qt_5 _ (List.mem_of_getElem? (i := 53) rfl)) rfl
theorem q_771 : Cond.static yL_lines ∈ sw_all := sw_q (qt_5 _ (List.mem_of_getElem? (i := 54) rfl)) rfl
theorem q_772 : Cond.code yL_lines method_52_code 5 (Option.some .boolean) ∈ sw_all := sw_q (qt_5 _ (List.mem_of_getElem? (i := 55) rfl)) rfl
theorem q_773 : Cond.classLink RL 322 RJ4 ∈ sw_all := sw_q (qt_5 _ (List.mem_of_getElem? (i := 56) rfl)) rfl
theorem q_774 : Cond.instantiable RJ4 4 ∈ sw_all := sw_q (qt_5 _ (List.mem_of_getElem? (i := 57) rfl)) rfl
theorem q_775 : Cond.methodLink RL 324 yJ4_init_da8c8 ∈ sw_all := sw_q (qt_5 _ (List.mem_of_getElem? (i := 58) rfl)) rfl
theorem q_776 : Cond.instanceMethod yJ4_init_da8c8 ∈ sw_all := sw_q (qt_5 _ (List.mem_of_getElem? (i := 59) rfl)) rfl
theorem q_777 : Cond.code yJ4_init_da8c8 prog_27_method_1_code 1 none ∈ sw_all := sw_q (qt_5 _ (List.mem_of_getElem? (i := 60) rfl)) rfl
theorem q_778 : Cond.methodLink RJ4 1 yJ5_init_d00df ∈ sw_all := sw_q (qt_5 _ (List.mem_of_getElem? (i := 61) rfl)) rfl
theorem q_779 : Cond.instanceMethod yJ5_init_d00df ∈ sw_all := sw_q (qt_5 _ (List.mem_of_getElem? (i := 62) rfl)) rfl
theorem q_780 : Cond.code yJ5_init_d00df prog_11_method_2_code 2 none ∈ sw_all := sw_q (qt_5 _ (List.mem_of_getElem? (i := 63) rfl)) rfl
theorem q_781 : Cond.methodLink RJ5 3 ⟨"java/lang/Object", "<init>", "()V"⟩ ∈ sw_all := sw_q (qt_5 _ (List.mem_of_getElem? (i := 64) rfl)) rfl
theorem q_782 : Cond.fieldLink RJ5 18 "java/lang/String" "COMPACT_STRINGS" "Z" ∈ sw_all := sw_q (qt_5 _ (List.mem_of_getElem? (i := 65) rfl)) rfl
theorem q_783 : Cond.methodLink RJ5 26 yJ2_newBytesFor_77867 ∈ sw_all := sw_q (qt_5 _ (List.mem_of_getElem? (i := 67) rfl)) rfl
theorem q_784 : Cond.static yJ2_newBytesFor_77867 ∈ sw_all := sw_q (qt_5 _ (List.mem_of_getElem? (i := 68) rfl)) rfl
theorem q_785 : Cond.code yJ2_newBytesFor_77867 prog_29_method_2_code 1 (Option.some (.array .byte)) ∈ sw_all := sw_q (qt_5 _ (List.mem_of_getElem? (i := 69) rfl)) rfl
theorem q_786 : Cond.methodLink RJ2 11 yJ2_newBytesLength_0f7a4 ∈ sw_all := sw_q (qt_5 _ (List.mem_of_getElem? (i := 70) rfl)) rfl
theorem q_787 : Cond.static yJ2_newBytesLength_0f7a4 ∈ sw_all := sw_q (qt_5 _ (List.mem_of_getElem? (i := 71) rfl)) rfl
theorem q_788 : Cond.code yJ2_newBytesLength_0f7a4 prog_29_method_3_code 1 (Option.some .int) ∈ sw_all := sw_q (qt_5 _ (List.mem_of_getElem? (i := 72) rfl)) rfl
theorem q_789 : Cond.constant RJ2 20 1073741823 ∈ sw_all := sw_q (qt_5 _ (List.mem_of_getElem? (i := 73) rfl)) rfl
theorem q_790 : Cond.fieldLink RJ5 15 "java/lang/AbstractStringBuilder" "value" "[B" ∈ sw_all := sw_q (qt_5 _ (List.mem_of_getElem? (i := 74) rfl)) rfl
theorem q_791 : Cond.fieldLink RJ5 22 "java/lang/AbstractStringBuilder" "coder" "B" ∈ sw_all := sw_q (qt_5 _ (List.mem_of_getElem? (i := 75) rfl)) rfl
theorem q_792 : Cond.fieldLink RJ0 1048 "java/lang/AbstractStringBuilder" "maybeLatin1" "Z" ∈ sw_all := sw_q (qt_5 _ (List.mem_of_getElem? (i := 76) rfl)) rfl
theorem q_793 : Cond.fieldLink RJ5 79 "java/lang/AbstractStringBuilder" "count" "I" ∈ sw_all := sw_q (qt_5 _ (List.mem_of_getElem? (i := 77) rfl)) rfl
theorem q_794 : Cond.methodLink RL 327 yJ4_append_15ec4 ∈ sw_all := sw_q (qt_5 _ (List.mem_of_getElem? (i := 88) rfl)) rfl
theorem q_795 : Cond.instanceMethod yJ4_append_15ec4 ∈ sw_all := sw_q (qt_5 _ (List.mem_of_getElem? (i := 89) rfl)) rfl
theorem q_796 : Cond.selects RJ4 yJ4_append_15ec4 yJ4_append_15ec4 ∈ sw_all := sw_q (qt_5 _ (List.mem_of_getElem? (i := 90) rfl)) rfl
theorem q_797 : Cond.code yJ4_append_15ec4 prog_27_method_7_code 2 (Option.some (.object "java/lang/StringBuilder")) ∈ sw_all := sw_q (qt_5 _ (List.mem_of_getElem? (i := 91) rfl)) rfl
theorem q_798 : Cond.methodLink RJ4 29 yJ5_append_cf1ce ∈ sw_all := sw_q (qt_5 _ (List.mem_of_getElem? (i := 92) rfl)) rfl
theorem q_799 : Cond.instanceMethod yJ5_append_cf1ce ∈ sw_all := sw_q (qt_5 _ (List.mem_of_getElem? (i := 93) rfl)) rfl
theorem q_800 : Cond.code yJ5_append_cf1ce prog_11_method_22_code 3 (Option.some (.object "java/lang/AbstractStringBuilder")) ∈ sw_all := sw_q (qt_5 _ (List.mem_of_getElem? (i := 94) rfl)) rfl
theorem q_801 : Cond.methodLink RJ5 204 yJ5_appendNull_278bc ∈ sw_all := sw_q (qt_5 _ (List.mem_of_getElem? (i := 95) rfl)) rfl
theorem q_802 : Cond.instanceMethod yJ5_appendNull_278bc ∈ sw_all := sw_q (qt_5 _ (List.mem_of_getElem? (i := 97) rfl)) rfl
theorem q_803 : Cond.code yJ5_appendNull_278bc prog_11_method_26_code 3 (Option.some (.object "java/lang/AbstractStringBuilder")) ∈ sw_all := sw_q (qt_5 _ (List.mem_of_getElem? (i := 98) rfl)) rfl
theorem q_804 : Cond.methodLink RJ5 100 yJ5_ensureCapacityInternal_d00df ∈ sw_all := sw_q (qt_5 _ (List.mem_of_getElem? (i := 99) rfl)) rfl
theorem q_805 : Cond.instanceMethod yJ5_ensureCapacityInternal_d00df ∈ sw_all := sw_q (qt_5 _ (List.mem_of_getElem? (i := 101) rfl)) rfl
theorem q_806 : Cond.code yJ5_ensureCapacityInternal_d00df prog_11_method_9_code 3 none ∈ sw_all := sw_q (qt_5 _ (List.mem_of_getElem? (i := 102) rfl)) rfl
theorem q_807 : Cond.methodLink RJ5 104 yJ5_newCapacity_0f7a4 ∈ sw_all := sw_q (qt_5 _ (List.mem_of_getElem? (i := 103) rfl)) rfl
theorem q_808 : Cond.instanceMethod yJ5_newCapacity_0f7a4 ∈ sw_all := sw_q (qt_5 _ (List.mem_of_getElem? (i := 105) rfl)) rfl
theorem q_809 : Cond.code yJ5_newCapacity_0f7a4 prog_11_method_10_code 6 (Option.some .int) ∈ sw_all := sw_q (qt_5 _ (List.mem_of_getElem? (i := 106) rfl)) rfl
theorem q_810 : Cond.methodLink RJ5 114 yJ8_newLength_cabcc ∈ sw_all := sw_q (qt_5 _ (List.mem_of_getElem? (i := 107) rfl)) rfl
theorem q_811 : Cond.static yJ8_newLength_cabcc ∈ sw_all := sw_q (qt_5 _ (List.mem_of_getElem? (i := 108) rfl)) rfl
theorem q_812 : Cond.code yJ8_newLength_cabcc prog_37_method_27_code 4 (Option.some .int) ∈ sw_all := sw_q (qt_5 _ (List.mem_of_getElem? (i := 109) rfl)) rfl
theorem q_813 : Cond.methodLink RJ8 194 yJ9_max_7cf53 ∈ sw_all := sw_q (qt_5 _ (List.mem_of_getElem? (i := 110) rfl)) rfl
theorem q_814 : Cond.constant RJ8 200 2147483639 ∈ sw_all := sw_q (qt_5 _ (List.mem_of_getElem? (i := 111) rfl)) rfl
theorem q_815 : Cond.methodLink RJ8 201 yJ8_hugeLength_7cf53 ∈ sw_all := sw_q (qt_5 _ (List.mem_of_getElem? (i := 112) rfl)) rfl
theorem q_816 : Cond.static yJ8_hugeLength_7cf53 ∈ sw_all := sw_q (qt_5 _ (List.mem_of_getElem? (i := 113) rfl)) rfl
theorem q_817 : Cond.code yJ8_hugeLength_7cf53 prog_37_method_28_code 3 (Option.some .int) ∈ sw_all := sw_q (qt_5 _ (List.mem_of_getElem? (i := 114) rfl)) rfl
theorem q_818 : Cond.constant RJ5 39 2147483647 ∈ sw_all := sw_q (qt_5 _ (List.mem_of_getElem? (i := 115) rfl)) rfl
theorem q_819 : Cond.methodLink RJ5 108 yJ7_copyOf_9075b ∈ sw_all := sw_q (qt_5 _ (List.mem_of_getElem? (i := 116) rfl)) rfl
theorem q_820 : Cond.static yJ7_copyOf_9075b ∈ sw_all := sw_q (qt_5 _ (List.mem_of_getElem? (i := 117) rfl)) rfl
theorem q_821 : Cond.code yJ7_copyOf_9075b prog_35_method_121_code 3 (Option.some (.array .byte)) ∈ sw_all := sw_q (qt_5 _ (List.mem_of_getElem? (i := 118) rfl)) rfl
theorem q_822 : Cond.methodLink RJ7 310 ⟨"[B", "clone", "()Ljava/lang/Object;"⟩ ∈ sw_all := sw_q (qt_5 _ (List.mem_of_getElem? (i := 119) rfl)) rfl
theorem q_823 : Cond.native ⟨"java/lang/Object", "clone", "()Ljava/lang/Object;"⟩ ∈ sw_all := sw_q (qt_5 _ (List.mem_of_getElem? (i := 121) rfl)) rfl
theorem q_824 : Cond.instanceMethod ⟨"java/lang/Object", "clone", "()Ljava/lang/Object;"⟩ ∈ sw_all := sw_q (qt_5 _ (List.mem_of_getElem? (i := 122) rfl)) rfl
theorem q_825 : Cond.selects "[B" ⟨"[B", "clone", "()Ljava/lang/Object;"⟩ ⟨"java/lang/Object", "clone", "()Ljava/lang/Object;"⟩ ∈ sw_all := sw_q (qt_5 _ (List.mem_of_getElem? (i := 123) rfl)) rfl
theorem q_826 : Cond.classLink RJ7 311 "[B" ∈ sw_all := sw_q (qt_5 _ (List.mem_of_getElem? (i := 125) rfl)) rfl
theorem q_827 : Cond.methodLink RJ7 304 yJ9_min_7cf53 ∈ sw_all := sw_q (qt_5 _ (List.mem_of_getElem? (i := 126) rfl)) rfl
theorem q_828 : Cond.methodLink RJ7 150 ⟨RJ10, "arraycopy", "(Ljava/lang/Object;ILjava/lang/Object;II)V"⟩ ∈ sw_all := sw_q (qt_5 _ (List.mem_of_getElem? (i := 127) rfl)) rfl
theorem q_829 : Cond.static ⟨RJ10, "arraycopy", "(Ljava/lang/Object;ILjava/lang/Object;II)V"⟩ ∈ sw_all := sw_q (qt_5 _ (List.mem_of_getElem? (i := 128) rfl)) rfl
theorem q_830 : Cond.native ⟨RJ10, "arraycopy", "(Ljava/lang/Object;ILjava/lang/Object;II)V"⟩ ∈ sw_all := sw_q (qt_5 _ (List.mem_of_getElem? (i := 129) rfl)) rfl
theorem q_831 : Cond.methodLink RJ5 83 yJ5_isLatin1_aae02 ∈ sw_all := sw_q (qt_5 _ (List.mem_of_getElem? (i := 130) rfl)) rfl
theorem q_832 : Cond.instanceMethod yJ5_isLatin1_aae02 ∈ sw_all := sw_q (qt_5 _ (List.mem_of_getElem? (i := 131) rfl)) rfl
theorem q_833 : Cond.selects RJ4 yJ5_isLatin1_aae02 yJ5_isLatin1_aae02 ∈ sw_all := sw_q (qt_5 _ (List.mem_of_getElem? (i := 133) rfl)) rfl
theorem q_834 : Cond.code yJ5_isLatin1_aae02 prog_11_method_68_code 1 (Option.some .boolean) ∈ sw_all := sw_q (qt_5 _ (List.mem_of_getElem? (i := 134) rfl)) rfl
theorem q_835 : Cond.methodLink RJ5 226 yJ2_putCharsAt_cd4e5 ∈ sw_all := sw_q (qt_5 _ (List.mem_of_getElem? (i := 135) rfl)) rfl
theorem q_836 : Cond.static yJ2_putCharsAt_cd4e5 ∈ sw_all := sw_q (qt_5 _ (List.mem_of_getElem? (i := 136) rfl)) rfl
theorem q_837 : Cond.code yJ2_putCharsAt_cd4e5 prog_29_method_81_code 7 (Option.some .int) ∈ sw_all := sw_q (qt_5 _ (List.mem_of_getElem? (i := 137) rfl)) rfl
theorem q_838 : Cond.methodLink RJ2 96 yJ2_checkBoundsBeginEnd_d044e ∈ sw_all := sw_q (qt_5 _ (List.mem_of_getElem? (i := 138) rfl)) rfl
theorem q_839 : Cond.static yJ2_checkBoundsBeginEnd_d044e ∈ sw_all := sw_q (qt_5 _ (List.mem_of_getElem? (i := 139) rfl)) rfl
theorem q_840 : Cond.code yJ2_checkBoundsBeginEnd_d044e prog_29_method_93_code 3 none ∈ sw_all := sw_q (qt_5 _ (List.mem_of_getElem? (i := 140) rfl)) rfl
theorem q_841 : Cond.methodLink RJ2 48 yJ2_length_9d52b ∈ sw_all := sw_q (qt_5 _ (List.mem_of_getElem? (i := 141) rfl)) rfl
theorem q_842 : Cond.static yJ2_length_9d52b ∈ sw_all := sw_q (qt_5 _ (List.mem_of_getElem? (i := 142) rfl)) rfl
theorem q_843 : Cond.code yJ2_length_9d52b prog_29_method_6_code 1 (Option.some .int) ∈ sw_all := sw_q (qt_5 _ (List.mem_of_getElem? (i := 143) rfl)) rfl
theorem q_844 : Cond.methodLink RJ2 241 yJ0_checkBoundsBeginEnd_23922 ∈ sw_all := sw_q (qt_5 _ (List.mem_of_getElem? (i := 144) rfl)) rfl
theorem q_845 : Cond.static yJ0_checkBoundsBeginEnd_23922 ∈ sw_all := sw_q (qt_5 _ (List.mem_of_getElem? (i := 145) rfl)) rfl
theorem q_846 : Cond.code yJ0_checkBoundsBeginEnd_23922 prog_26_method_158_code 3 none ∈ sw_all := sw_q (qt_5 _ (List.mem_of_getElem? (i := 146) rfl)) rfl
theorem q_847 : Cond.fieldLink RJ0 1053 "jdk/internal/util/Preconditions" "SIOOBE_FORMATTER" "Ljava/util/function/BiFunction;" ∈ sw_all := sw_q (qt_5 _ (List.mem_of_getElem? (i := 147) rfl)) rfl
theorem q_848 : Cond.methodLink RJ0 1062 yJ3_checkFromToIndex_8c36e ∈ sw_all := sw_q (qt_5 _ (List.mem_of_getElem? (i := 149) rfl)) rfl
theorem q_849 : Cond.static yJ3_checkFromToIndex_8c36e ∈ sw_all := sw_q (qt_5 _ (List.mem_of_getElem? (i := 150) rfl)) rfl
theorem q_850 : Cond.code yJ3_checkFromToIndex_8c36e prog_38_method_12_code 4 (Option.some .int) ∈ sw_all := sw_q (qt_5 _ (List.mem_of_getElem? (i := 151) rfl)) rfl
theorem q_851 : Cond.methodLink RJ2 111 yJ2_putChar_b72d1 ∈ sw_all := sw_q (qt_5 _ (List.mem_of_getElem? (i := 152) rfl)) rfl
theorem q_852 : Cond.static yJ2_putChar_b72d1 ∈ sw_all := sw_q (qt_5 _ (List.mem_of_getElem? (i := 153) rfl)) rfl
theorem q_853 : Cond.code yJ2_putChar_b72d1 prog_29_method_4_code 3 none ∈ sw_all := sw_q (qt_5 _ (List.mem_of_getElem? (i := 154) rfl)) rfl
theorem q_854 : Cond.fieldLink RJ2 44 "java/lang/StringUTF16" "$assertionsDisabled" "Z" ∈ sw_all := sw_q (qt_5 _ (List.mem_of_getElem? (i := 155) rfl)) rfl
theorem q_855 : Cond.fieldLink RJ2 59 "java/lang/StringUTF16" "HI_BYTE_SHIFT" "I" ∈ sw_all := sw_q (qt_5 _ (List.mem_of_getElem? (i := 157) rfl)) rfl
theorem q_856 : Cond.fieldLink RJ2 63 "java/lang/StringUTF16" "LO_BYTE_SHIFT" "I" ∈ sw_all := sw_q (qt_5 _ (List.mem_of_getElem? (i := 159) rfl)) rfl
theorem q_857 : Cond.methodLink RJ5 32 yJ0_length_8abf5 ∈ sw_all := sw_q (qt_5 _ (List.mem_of_getElem? (i := 161) rfl)) rfl
theorem q_858 : Cond.instanceMethod yJ0_length_8abf5 ∈ sw_all := sw_q (qt_5 _ (List.mem_of_getElem? (i := 162) rfl)) rfl
theorem q_859 : Cond.selects RJ0 yJ0_length_8abf5 yJ0_length_8abf5 ∈ sw_all := sw_q (qt_5 _ (List.mem_of_getElem? (i := 163) rfl)) rfl
theorem q_860 : Cond.code yJ0_length_8abf5 prog_26_method_54_code 1 (Option.some .int) ∈ sw_all := sw_q (qt_5 _ (List.mem_of_getElem? (i := 164) rfl)) rfl
theorem q_861 : Cond.methodLink RJ0 335 yJ0_coder_7d493 ∈ sw_all := sw_q (qt_5 _ (List.mem_of_getElem? (i := 165) rfl)) rfl
theorem q_862 : Cond.instanceMethod yJ0_coder_7d493 ∈ sw_all := sw_q (qt_5 _ (List.mem_of_getElem? (i := 166) rfl)) rfl
theorem q_863 : Cond.selects RJ0 yJ0_coder_7d493 yJ0_coder_7d493 ∈ sw_all := sw_q (qt_5 _ (List.mem_of_getElem? (i := 167) rfl)) rfl
theorem q_864 : Cond.code yJ0_coder_7d493 prog_26_method_152_code 1 (Option.some .byte) ∈ sw_all := sw_q (qt_5 _ (List.mem_of_getElem? (i := 168) rfl)) rfl
theorem q_865 : Cond.fieldLink RJ0 38 "java/lang/String" "COMPACT_STRINGS" "Z" ∈ sw_all := sw_q (qt_5 _ (List.mem_of_getElem? (i := 169) rfl)) rfl
theorem q_866 : Cond.methodLink RJ5 208 yJ5_putStringAt_47b60 ∈ sw_all := sw_q (qt_5 _ (List.mem_of_getElem? (i := 170) rfl)) rfl
theorem q_867 : Cond.instanceMethod yJ5_putStringAt_47b60 ∈ sw_all := sw_q (qt_5 _ (List.mem_of_getElem? (i := 172) rfl)) rfl
theorem q_868 : Cond.code yJ5_putStringAt_47b60 prog_11_method_73_code 3 none ∈ sw_all := sw_q (qt_5 _ (List.mem_of_getElem? (i := 173) rfl)) rfl
theorem q_869 : Cond.methodLink RJ5 397 yJ5_inflateIfNeededFor_a7421 ∈ sw_all := sw_q (qt_5 _ (List.mem_of_getElem? (i := 174) rfl)) rfl
theorem q_870 : Cond.instanceMethod yJ5_inflateIfNeededFor_a7421 ∈ sw_all := sw_q (qt_5 _ (List.mem_of_getElem? (i := 176) rfl)) rfl
theorem q_871 : Cond.code yJ5_inflateIfNeededFor_a7421 prog_11_method_71_code 2 none ∈ sw_all := sw_q (qt_5 _ (List.mem_of_getElem? (i := 177) rfl)) rfl
theorem q_872 : Cond.methodLink RJ5 40 yJ0_coder_7d493 ∈ sw_all := sw_q (qt_5 _ (List.mem_of_getElem? (i := 178) rfl)) rfl
theorem q_873 : Cond.methodLink RJ5 195 yJ5_inflate_da8c8 ∈ sw_all := sw_q (qt_5 _ (List.mem_of_getElem? (i := 179) rfl)) rfl
theorem q_874 : Cond.instanceMethod yJ5_inflate_da8c8 ∈ sw_all := sw_q (qt_5 _ (List.mem_of_getElem? (i := 181) rfl)) rfl
theorem q_875 : Cond.code yJ5_inflate_da8c8 prog_11_method_11_code 2 none ∈ sw_all := sw_q (qt_5 _ (List.mem_of_getElem? (i := 182) rfl)) rfl
theorem q_876 : Cond.methodLink RJ5 125 yJ1_inflate_0e8fd ∈ sw_all := sw_q (qt_5 _ (List.mem_of_getElem? (i := 183) rfl)) rfl
theorem q_877 : Cond.static yJ1_inflate_0e8fd ∈ sw_all := sw_q (qt_5 _ (List.mem_of_getElem? (i := 184) rfl)) rfl
theorem q_878 : Cond.code yJ1_inflate_0e8fd prog_28_method_50_code 5 none ∈ sw_all := sw_q (qt_5 _ (List.mem_of_getElem? (i := 185) rfl)) rfl
theorem q_879 : Cond.methodLink RJ1 240 yJ2_inflate_0e8fd ∈ sw_all := sw_q (qt_5 _ (List.mem_of_getElem? (i := 186) rfl)) rfl
theorem q_880 : Cond.static yJ2_inflate_0e8fd ∈ sw_all := sw_q (qt_5 _ (List.mem_of_getElem? (i := 187) rfl)) rfl
theorem q_881 : Cond.code yJ2_inflate_0e8fd prog_29_method_86_code 6 none ∈ sw_all := sw_q (qt_5 _ (List.mem_of_getElem? (i := 188) rfl)) rfl
theorem q_882 : Cond.methodLink RJ2 173 yJ2_checkBoundsOffCount_d044e ∈ sw_all := sw_q (qt_5 _ (List.mem_of_getElem? (i := 189) rfl)) rfl
theorem q_883 : Cond.static yJ2_checkBoundsOffCount_d044e ∈ sw_all := sw_q (qt_5 _ (List.mem_of_getElem? (i := 190) rfl)) rfl
theorem q_884 : Cond.code yJ2_checkBoundsOffCount_d044e prog_29_method_94_code 3 none ∈ sw_all := sw_q (qt_5 _ (List.mem_of_getElem? (i := 191) rfl)) rfl
theorem q_885 : Cond.methodLink RJ2 419 yJ0_checkBoundsOffCount_cabcc ∈ sw_all := sw_q (qt_5 _ (List.mem_of_getElem? (i := 192) rfl)) rfl
theorem q_886 : Cond.static yJ0_checkBoundsOffCount_cabcc ∈ sw_all := sw_q (qt_5 _ (List.mem_of_getElem? (i := 193) rfl)) rfl
theorem q_887 : Cond.code yJ0_checkBoundsOffCount_cabcc prog_26_method_157_code 3 (Option.some .int) ∈ sw_all := sw_q (qt_5 _ (List.mem_of_getElem? (i := 194) rfl)) rfl
theorem q_888 : Cond.methodLink RJ0 1065 yJ3_checkFromIndexSize_8c36e ∈ sw_all := sw_q (qt_5 _ (List.mem_of_getElem? (i := 195) rfl)) rfl
theorem q_889 : Cond.static yJ3_checkFromIndexSize_8c36e ∈ sw_all := sw_q (qt_5 _ (List.mem_of_getElem? (i := 196) rfl)) rfl
theorem q_890 : Cond.code yJ3_checkFromIndexSize_8c36e prog_38_method_13_code 4 (Option.some .int) ∈ sw_all := sw_q (qt_5 _ (List.mem_of_getElem? (i := 197) rfl)) rfl
theorem q_891 : Cond.methodLink RJ5 399 yJ0_getBytes_840e7 ∈ sw_all := sw_q (qt_5 _ (List.mem_of_getElem? (i := 198) rfl)) rfl
theorem q_892 : Cond.instanceMethod yJ0_getBytes_840e7 ∈ sw_all := sw_q (qt_5 _ (List.mem_of_getElem? (i := 199) rfl)) rfl
theorem q_893 : Cond.selects RJ0 yJ0_getBytes_840e7 yJ0_getBytes_840e7 ∈ sw_all := sw_q (qt_5 _ (List.mem_of_getElem? (i := 200) rfl)) rfl
theorem q_894 : Cond.code yJ0_getBytes_840e7 prog_26_method_147_code 4 none ∈ sw_all := sw_q (qt_5 _ (List.mem_of_getElem? (i := 201) rfl)) rfl
theorem q_895 : Cond.methodLink RJ0 212 ⟨RJ10, "arraycopy", "(Ljava/lang/Object;ILjava/lang/Object;II)V"⟩ ∈ sw_all := sw_q (qt_5 _ (List.mem_of_getElem? (i := 202) rfl)) rfl
theorem q_896 : Cond.methodLink RJ0 106 yJ1_inflate_0e8fd ∈ sw_all := sw_q (qt_5 _ (List.mem_of_getElem? (i := 203) rfl)) rfl
theorem q_897 : Cond.methodLink RL 330 yJ4_append_cf468 ∈ sw_all := sw_q (qt_5 _ (List.mem_of_getElem? (i := 204) rfl)) rfl
theorem q_898 : Cond.instanceMethod yJ4_append_cf468 ∈ sw_all := sw_q (qt_5 _ (List.mem_of_getElem? (i := 205) rfl)) rfl
theorem q_899 : Cond.selects RJ4 yJ4_append_cf468 yJ4_append_cf468 ∈ sw_all := sw_q (qt_5 _ (List.mem_of_getElem? (i := 206) rfl)) rfl
theorem q_900 : Cond.code yJ4_append_cf468 prog_27_method_14_code 2 (Option.some (.object "java/lang/StringBuilder")) ∈ sw_all := sw_q (qt_5 _ (List.mem_of_getElem? (i := 207) rfl)) rfl
theorem q_901 : Cond.methodLink RJ4 50 yJ5_append_3fe6f ∈ sw_all := sw_q (qt_5 _ (List.mem_of_getElem? (i := 208) rfl)) rfl
theorem q_902 : Cond.instanceMethod yJ5_append_3fe6f ∈ sw_all := sw_q (qt_5 _ (List.mem_of_getElem? (i := 209) rfl)) rfl
theorem q_903 : Cond.code yJ5_append_3fe6f prog_11_method_31_code 2 (Option.some (.object "java/lang/AbstractStringBuilder")) ∈ sw_all := sw_q (qt_5 _ (List.mem_of_getElem? (i := 210) rfl)) rfl
theorem q_904 : Cond.methodLink RJ5 191 yJ1_canEncode_fc78d ∈ sw_all := sw_q (qt_5 _ (List.mem_of_getElem? (i := 211) rfl)) rfl
theorem q_905 : Cond.static yJ1_canEncode_fc78d ∈ sw_all := sw_q (qt_5 _ (List.mem_of_getElem? (i := 212) rfl)) rfl
theorem q_906 : Cond.code yJ1_canEncode_fc78d prog_28_method_3_code 1 (Option.some .boolean) ∈ sw_all := sw_q (qt_5 _ (List.mem_of_getElem? (i := 213) rfl)) rfl
theorem q_907 : Cond.methodLink RJ5 197 yJ2_putCharSB_b72d1 ∈ sw_all := sw_q (qt_5 _ (List.mem_of_getElem? (i := 214) rfl)) rfl
theorem q_908 : Cond.static yJ2_putCharSB_b72d1 ∈ sw_all := sw_q (qt_5 _ (List.mem_of_getElem? (i := 215) rfl)) rfl
theorem q_909 : Cond.code yJ2_putCharSB_b72d1 prog_29_method_71_code 3 none ∈ sw_all := sw_q (qt_5 _ (List.mem_of_getElem? (i := 216) rfl)) rfl
theorem q_910 : Cond.methodLink RJ2 67 yJ2_checkIndex_2214a ∈ sw_all := sw_q (qt_5 _ (List.mem_of_getElem? (i := 217) rfl)) rfl
theorem q_911 : Cond.static yJ2_checkIndex_2214a ∈ sw_all := sw_q (qt_5 _ (List.mem_of_getElem? (i := 218) rfl)) rfl
theorem q_912 : Cond.code yJ2_checkIndex_2214a prog_29_method_91_code 2 none ∈ sw_all := sw_q (qt_5 _ (List.mem_of_getElem? (i := 219) rfl)) rfl
theorem q_913 : Cond.methodLink RJ2 414 yJ0_checkIndex_df160 ∈ sw_all := sw_q (qt_5 _ (List.mem_of_getElem? (i := 220) rfl)) rfl
theorem q_914 : Cond.static yJ0_checkIndex_df160 ∈ sw_all := sw_q (qt_5 _ (List.mem_of_getElem? (i := 221) rfl)) rfl
theorem q_915 : Cond.code yJ0_checkIndex_df160 prog_26_method_155_code 2 none ∈ sw_all := sw_q (qt_5 _ (List.mem_of_getElem? (i := 222) rfl)) rfl
theorem q_916 : Cond.methodLink RJ0 1059 yJ3_checkIndex_8e157 ∈ sw_all := sw_q (qt_5 _ (List.mem_of_getElem? (i := 223) rfl)) rfl
theorem q_917 : Cond.static yJ3_checkIndex_8e157 ∈ sw_all := sw_q (qt_5 _ (List.mem_of_getElem? (i := 224) rfl)) rfl
theorem q_918 : Cond.code yJ3_checkIndex_8e157 prog_38_method_11_code 3 (Option.some .int) ∈ sw_all := sw_q (qt_5 _ (List.mem_of_getElem? (i := 225) rfl)) rfl
theorem q_919 : Cond.methodLink RL 333 yJ4_append_bf812 ∈ sw_all := sw_q (qt_5 _ (List.mem_of_getElem? (i := 226) rfl)) rfl
theorem q_920 : Cond.instanceMethod yJ4_append_bf812 ∈ sw_all := sw_q (qt_5 _ (List.mem_of_getElem? (i := 227) rfl)) rfl
theorem q_921 : Cond.selects RJ4 yJ4_append_bf812 yJ4_append_bf812 ∈ sw_all := sw_q (qt_5 _ (List.mem_of_getElem? (i := 228) rfl)) rfl
theorem q_922 : Cond.code yJ4_append_bf812 prog_27_method_15_code 2 (Option.some (.object "java/lang/StringBuilder")) ∈ sw_all := sw_q (qt_5 _ (List.mem_of_getElem? (i := 229) rfl)) rfl
theorem q_923 : Cond.methodLink RJ4 53 yJ5_append_c97b9 ∈ sw_all := sw_q (qt_5 _ (List.mem_of_getElem? (i := 230) rfl)) rfl
theorem q_924 : Cond.instanceMethod yJ5_append_c97b9 ∈ sw_all := sw_q (qt_5 _ (List.mem_of_getElem? (i := 231) rfl)) rfl
theorem q_925 : Cond.code yJ5_append_c97b9 prog_11_method_32_code 4 (Option.some (.object "java/lang/AbstractStringBuilder")) ∈ sw_all := sw_q (qt_5 _ (List.mem_of_getElem? (i := 232) rfl)) rfl
theorem q_926 : Cond.methodLink RJ5 245 yJ6_stringSize_0f7a4 ∈ sw_all := sw_q (qt_5 _ (List.mem_of_getElem? (i := 233) rfl)) rfl
theorem q_927 : Cond.static yJ6_stringSize_0f7a4 ∈ sw_all := sw_q (qt_5 _ (List.mem_of_getElem? (i := 234) rfl)) rfl
theorem q_928 : Cond.code yJ6_stringSize_0f7a4 prog_22_method_13_code 4 (Option.some .int) ∈ sw_all := sw_q (qt_5 _ (List.mem_of_getElem? (i := 235) rfl)) rfl
theorem q_929 : Cond.methodLink RJ5 248 yJ6_getChars_ba4f3 ∈ sw_all := sw_q (qt_5 _ (List.mem_of_getElem? (i := 236) rfl)) rfl
theorem q_930 : Cond.static yJ6_getChars_ba4f3 ∈ sw_all := sw_q (qt_5 _ (List.mem_of_getElem? (i := 237) rfl)) rfl
theorem q_931 : Cond.code yJ6_getChars_ba4f3 prog_22_method_12_code 7 (Option.some .int) ∈ sw_all := sw_q (qt_5 _ (List.mem_of_getElem? (i := 238) rfl)) rfl
theorem q_932 : Cond.fieldLink RJ6 83 "java/lang/Integer" "DigitOnes" "[B" ∈ sw_all := sw_q (qt_5 _ (List.mem_of_getElem? (i := 239) rfl)) rfl
theorem q_933 : Cond.fieldLink RJ6 87 "java/lang/Integer" "DigitTens" "[B" ∈ sw_all := sw_q (qt_6 _ (List.mem_of_getElem? (i := 1) rfl)) rfl
theorem q_934 : Cond.methodLink RJ5 251 yJ2_getChars_46870 ∈ sw_all := sw_q (qt_6 _ (List.mem_of_getElem? (i := 3) rfl)) rfl
theorem q_935 : Cond.static yJ2_getChars_46870 ∈ sw_all := sw_q (qt_6 _ (List.mem_of_getElem? (i := 4) rfl)) rfl
theorem q_936 : Cond.code yJ2_getChars_46870 prog_29_method_77_code 5 (Option.some .int) ∈ sw_all := sw_q (qt_6 _ (List.mem_of_getElem? (i := 5) rfl)) rfl
theorem q_937 : Cond.methodLink RJ2 393 yJ2_getChars_ba4f3 ∈ sw_all := sw_q (qt_6 _ (List.mem_of_getElem? (i := 6) rfl)) rfl
theorem q_938 : Cond.static yJ2_getChars_ba4f3 ∈ sw_all := sw_q (qt_6 _ (List.mem_of_getElem? (i := 7) rfl)) rfl
theorem q_939 : Cond.code yJ2_getChars_ba4f3 prog_29_method_89_code 7 (Option.some .int) ∈ sw_all := sw_q (qt_6 _ (List.mem_of_getElem? (i := 8) rfl)) rfl
theorem q_940 : Cond.fieldLink RJ2 403 "java/lang/Integer" "DigitOnes" "[B" ∈ sw_all := sw_q (qt_6 _ (List.mem_of_getElem? (i := 9) rfl)) rfl
theorem q_941 : Cond.fieldLink RJ2 407 "java/lang/Integer" "DigitTens" "[B" ∈ sw_all := sw_q (qt_6 _ (List.mem_of_getElem? (i := 10) rfl)) rfl
theorem q_942 : Cond.methodLink RL 336 yJ4_toString_0e30d ∈ sw_all := sw_q (qt_6 _ (List.mem_of_getElem? (i := 11) rfl)) rfl
theorem q_943 : Cond.instanceMethod yJ4_toString_0e30d ∈ sw_all := sw_q (qt_6 _ (List.mem_of_getElem? (i := 12) rfl)) rfl
theorem q_944 : Cond.selects RJ4 yJ4_toString_0e30d yJ4_toString_0e30d ∈ sw_all := sw_q (qt_6 _ (List.mem_of_getElem? (i := 13) rfl)) rfl
theorem q_945 : Cond.code yJ4_toString_0e30d prog_27_method_42_code 1 (Option.some (.object "java/lang/String")) ∈ sw_all := sw_q (qt_6 _ (List.mem_of_getElem? (i := 14) rfl)) rfl
theorem q_946 : Cond.classLink RJ4 18 RJ0 ∈ sw_all := sw_q (qt_6 _ (List.mem_of_getElem? (i := 15) rfl)) rfl
theorem q_947 : Cond.methodLink RJ4 137 yJ0_init_81219 ∈ sw_all := sw_q (qt_6 _ (List.mem_of_getElem? (i := 16) rfl)) rfl
theorem q_948 : Cond.instanceMethod yJ0_init_81219 ∈ sw_all := sw_q (qt_6 _ (List.mem_of_getElem? (i := 17) rfl)) rfl
theorem q_949 : Cond.code yJ0_init_81219 prog_26_method_53_code 2 none ∈ sw_all := sw_q (qt_6 _ (List.mem_of_getElem? (i := 18) rfl)) rfl
theorem q_950 : Cond.methodLink RJ0 489 yJ0_init_db425 ∈ sw_all := sw_q (qt_6 _ (List.mem_of_getElem? (i := 19) rfl)) rfl
theorem q_951 : Cond.instanceMethod yJ0_init_db425 ∈ sw_all := sw_q (qt_6 _ (List.mem_of_getElem? (i := 20) rfl)) rfl
theorem q_952 : Cond.code yJ0_init_db425 prog_26_method_150_code 5 none ∈ sw_all := sw_q (qt_6 _ (List.mem_of_getElem? (i := 21) rfl)) rfl
theorem q_953 : Cond.methodLink RJ0 1 ⟨"java/lang/Object", "<init>", "()V"⟩ ∈ sw_all := sw_q (qt_6 _ (List.mem_of_getElem? (i := 22) rfl)) rfl
theorem q_954 : Cond.methodLink RJ0 552 yJ5_getValue_6d5f1 ∈ sw_all := sw_q (qt_6 _ (List.mem_of_getElem? (i := 23) rfl)) rfl
theorem q_955 : Cond.instanceMethod yJ5_getValue_6d5f1 ∈ sw_all := sw_q (qt_6 _ (List.mem_of_getElem? (i := 24) rfl)) rfl
theorem q_956 : Cond.selects RJ4 yJ5_getValue_6d5f1 yJ5_getValue_6d5f1 ∈ sw_all := sw_q (qt_6 _ (List.mem_of_getElem? (i := 26) rfl)) rfl
theorem q_957 : Cond.code yJ5_getValue_6d5f1 prog_11_method_64_code 1 (Option.some (.array .byte)) ∈ sw_all := sw_q (qt_6 _ (List.mem_of_getElem? (i := 27) rfl)) rfl
theorem q_958 : Cond.methodLink RJ0 549 yJ5_length_8abf5 ∈ sw_all := sw_q (qt_6 _ (List.mem_of_getElem? (i := 28) rfl)) rfl
theorem q_959 : Cond.instanceMethod yJ5_length_8abf5 ∈ sw_all := sw_q (qt_6 _ (List.mem_of_getElem? (i := 29) rfl)) rfl
theorem q_960 : Cond.selects RJ4 yJ5_length_8abf5 yJ4_length_8abf5 ∈ sw_all := sw_q (qt_6 _ (List.mem_of_getElem? (i := 31) rfl)) rfl
theorem q_961 : Cond.instanceMethod yJ4_length_8abf5 ∈ sw_all := sw_q (qt_6 _ (List.mem_of_getElem? (i := 32) rfl)) rfl
theorem q_962 : Cond.code yJ4_length_8abf5 prog_27_method_93_code 1 (Option.some .int) ∈ sw_all := sw_q (qt_6 _ (List.mem_of_getElem? (i := 33) rfl)) rfl
theorem q_963 : Cond.methodLink RJ4 343 yJ5_length_8abf5 ∈ sw_all := sw_q (qt_6 _ (List.mem_of_getElem? (i := 34) rfl)) rfl
theorem q_964 : Cond.code yJ5_length_8abf5 prog_11_method_6_code 1 (Option.some .int) ∈ sw_all := sw_q (qt_6 _ (List.mem_of_getElem? (i := 35) rfl)) rfl
theorem q_965 : Cond.methodLink RJ0 1047 yJ5_isLatin1_aae02 ∈ sw_all := sw_q (qt_6 _ (List.mem_of_getElem? (i := 36) rfl)) rfl
theorem q_966 : Cond.methodLink RJ0 54 yJ7_copyOfRange_39247 ∈ sw_all := sw_q (qt_6 _ (List.mem_of_getElem? (i := 37) rfl)) rfl
theorem q_967 : Cond.static yJ7_copyOfRange_39247 ∈ sw_all := sw_q (qt_6 _ (List.mem_of_getElem? (i := 38) rfl)) rfl
theorem q_968 : Cond.code yJ7_copyOfRange_39247 prog_35_method_132_code 3 (Option.some (.array .byte)) ∈ sw_all := sw_q (qt_6 _ (List.mem_of_getElem? (i := 39) rfl)) rfl
theorem q_969 : Cond.methodLink RJ7 339 yJ7_copyOfRangeByte_39247 ∈ sw_all := sw_q (qt_6 _ (List.mem_of_getElem? (i := 40) rfl)) rfl
theorem q_970 : Cond.static yJ7_copyOfRangeByte_39247 ∈ sw_all := sw_q (qt_6 _ (List.mem_of_getElem? (i := 41) rfl)) rfl
theorem q_971 : Cond.code yJ7_copyOfRangeByte_39247 prog_35_method_133_code 5 (Option.some (.array .byte)) ∈ sw_all := sw_q (qt_6 _ (List.mem_of_getElem? (i := 42) rfl)) rfl
theorem q_972 : Cond.methodLink RJ7 343 yJ7_checkLength_df160 ∈ sw_all := sw_q (qt_6 _ (List.mem_of_getElem? (i := 43) rfl)) rfl
theorem q_973 : Cond.static yJ7_checkLength_df160 ∈ sw_all := sw_q (qt_6 _ (List.mem_of_getElem? (i := 44) rfl)) rfl
theorem q_974 : Cond.code yJ7_checkLength_df160 prog_35_method_131_code 2 none ∈ sw_all := sw_q (qt_6 _ (List.mem_of_getElem? (i := 45) rfl)) rfl
theorem q_975 : Cond.classLink RJ7 43 "java/lang/IllegalArgumentException" ∈ sw_all := sw_q (qt_6 _ (List.mem_of_getElem? (i := 46) rfl)) rfl
theorem q_976 : Cond.classLink RJ7 45 RJ4 ∈ sw_all := sw_q (qt_6 _ (List.mem_of_getElem? (i := 47) rfl)) rfl
theorem q_977 : Cond.methodLink RJ7 47 yJ4_init_da8c8 ∈ sw_all := sw_q (qt_6 _ (List.mem_of_getElem? (i := 48) rfl)) rfl
theorem q_978 : Cond.methodLink RJ7 54 yJ4_append_bf812 ∈ sw_all := sw_q (qt_6 _ (List.mem_of_getElem? (i := 49) rfl)) rfl
theorem q_979 : Cond.methodLink RJ7 50 yJ4_append_15ec4 ∈ sw_all := sw_q (qt_6 _ (List.mem_of_getElem? (i := 51) rfl)) rfl
theorem q_980 : Cond.methodLink RJ7 61 yJ4_toString_0e30d ∈ sw_all := sw_q (qt_6 _ (List.mem_of_getElem? (i := 52) rfl)) rfl
theorem q_981 : Cond.methodLink RJ7 65 ⟨"java/lang/IllegalArgumentException", "<init>", "(Ljava/lang/String;)V"⟩ ∈ sw_all := sw_q (qt_6 _ (List.mem_of_getElem? (i := 53) rfl)) rfl
theorem q_982 : Cond.instanceMethod ⟨"java/lang/IllegalArgumentException", "<init>", "(Ljava/lang/String;)V"⟩ ∈ sw_all := sw_q (qt_6 _ (List.mem_of_getElem? (i := 54) rfl)) rfl
theorem q_983 : Cond.code ⟨"java/lang/IllegalArgumentException", "<init>", "(Ljava/lang/String;)V"⟩ prog_19_method_2_code 2 none ∈ sw_all := sw_q (qt_6 _ (List.mem_of_getElem? (i := 55) rfl)) rfl
theorem q_984 : Cond.methodLink "java/lang/IllegalArgumentException" 7 ⟨"java/lang/RuntimeException", "<init>", "(Ljava/lang/String;)V"⟩ ∈ sw_all := sw_q (qt_6 _ (List.mem_of_getElem? (i := 56) rfl)) rfl
theorem q_985 : Cond.methodLink RJ0 1051 yJ2_compress_39247 ∈ sw_all := sw_q (qt_6 _ (List.mem_of_getElem? (i := 57) rfl)) rfl
theorem q_986 : Cond.static yJ2_compress_39247 ∈ sw_all := sw_q (qt_6 _ (List.mem_of_getElem? (i := 58) rfl)) rfl
theorem q_987 : Cond.code yJ2_compress_39247 prog_29_method_17_code 6 (Option.some (.array .byte)) ∈ sw_all := sw_q (qt_6 _ (List.mem_of_getElem? (i := 59) rfl)) rfl
theorem q_988 : Cond.methodLink RJ2 123 yJ2_compress_5af95 ∈ sw_all := sw_q (qt_6 _ (List.mem_of_getElem? (i := 60) rfl)) rfl
theorem q_989 : Cond.static yJ2_compress_5af95 ∈ sw_all := sw_q (qt_6 _ (List.mem_of_getElem? (i := 61) rfl)) rfl
theorem q_990 : Cond.code yJ2_compress_5af95 prog_29_method_22_code 7 (Option.some .int) ∈ sw_all := sw_q (qt_6 _ (List.mem_of_getElem? (i := 62) rfl)) rfl
theorem q_991 : Cond.methodLink RJ2 71 yJ2_getChar_3b067 ∈ sw_all := sw_q (qt_6 _ (List.mem_of_getElem? (i := 63) rfl)) rfl
theorem q_992 : Cond.static yJ2_getChar_3b067 ∈ sw_all := sw_q (qt_6 _ (List.mem_of_getElem? (i := 64) rfl)) rfl
theorem q_993 : Cond.code yJ2_getChar_3b067 prog_29_method_5_code 2 (Option.some .char) ∈ sw_all := sw_q (qt_6 _ (List.mem_of_getElem? (i := 65) rfl)) rfl
theorem q_994 : Cond.methodLink RJ2 126 yJ7_copyOfRange_39247 ∈ sw_all := sw_q (qt_6 _ (List.mem_of_getElem? (i := 66) rfl)) rfl
theorem q_995 : Cond.methodLink RJ0 47 yJ2_coderFromArrayLen_85cad ∈ sw_all := sw_q (qt_6 _ (List.mem_of_getElem? (i := 67) rfl)) rfl
theorem q_996 : Cond.static yJ2_coderFromArrayLen_85cad ∈ sw_all := sw_q (qt_6 _ (List.mem_of_getElem? (i := 68) rfl)) rfl
theorem q_997 : Cond.code yJ2_coderFromArrayLen_85cad prog_29_method_15_code 2 (Option.some .byte) ∈ sw_all := sw_q (qt_6 _ (List.mem_of_getElem? (i := 69) rfl)) rfl
theorem q_998 : Cond.fieldLink RJ0 9 "java/lang/String" "value" "[B" ∈ sw_all := sw_q (qt_6 _ (List.mem_of_getElem? (i := 70) rfl)) rfl
theorem q_999 : Cond.fieldLink RJ0 15 "java/lang/String" "coder" "B" ∈ sw_all := sw_q (qt_6 _ (List.mem_of_getElem? (i := 71) rfl)) rfl
theorem q_1000 : Cond.methodLink RL 348 yL_writeDoor ∈ sw_all := sw_q (qt_6 _ (List.mem_of_getElem? (i := 81) rfl)) rfl
theorem q_1001 : Cond.static yL_writeDoor ∈ sw_all := sw_q (qt_6 _ (List.mem_of_getElem? (i := 82) rfl)) rfl
theorem q_1002 : Cond.methodLink RL 132 yX6_writeDoor ∈ sw_all := sw_q (qt_6 _ (List.mem_of_getElem? (i := 84) rfl)) rfl
theorem q_1003 : Cond.instanceMethod yX6_writeDoor ∈ sw_all := sw_q (qt_6 _ (List.mem_of_getElem? (i := 85) rfl)) rfl
theorem q_1004 : Cond.selects RX6 yX6_writeDoor yX6_writeDoor ∈ sw_all := sw_q (qt_6 _ (List.mem_of_getElem? (i := 86) rfl)) rfl
theorem q_1005 : Cond.code yX6_writeDoor prog_1_method_49_code 2 (Option.some .int) ∈ sw_all := sw_q (qt_6 _ (List.mem_of_getElem? (i := 87) rfl)) rfl
theorem q_1006 : Cond.methodLink RX6 290 yX1_showDoor ∈ sw_all := sw_q (qt_6 _ (List.mem_of_getElem? (i := 88) rfl)) rfl
theorem q_1007 : Cond.instanceMethod yX1_showDoor ∈ sw_all := sw_q (qt_6 _ (List.mem_of_getElem? (i := 89) rfl)) rfl
theorem q_1008 : Cond.selects RX1 yX1_showDoor yX1_showDoor ∈ sw_all := sw_q (qt_6 _ (List.mem_of_getElem? (i := 90) rfl)) rfl
theorem q_1009 : Cond.code yX1_showDoor prog_3_method_2_code 4 none ∈ sw_all := sw_q (qt_6 _ (List.mem_of_getElem? (i := 91) rfl)) rfl
theorem q_1010 : Cond.methodLink RX1 24 yX1_put ∈ sw_all := sw_q (qt_6 _ (List.mem_of_getElem? (i := 92) rfl)) rfl
theorem q_1011 : Cond.instanceMethod yX1_put ∈ sw_all := sw_q (qt_6 _ (List.mem_of_getElem? (i := 94) rfl)) rfl
theorem q_1012 : Cond.code yX1_put prog_3_method_6_code 2 none ∈ sw_all := sw_q (qt_6 _ (List.mem_of_getElem? (i := 95) rfl)) rfl
theorem q_1013 : Cond.methodLink RX1 32 yX1_putNumber ∈ sw_all := sw_q (qt_6 _ (List.mem_of_getElem? (i := 96) rfl)) rfl
theorem q_1014 : Cond.instanceMethod yX1_putNumber ∈ sw_all := sw_q (qt_6 _ (List.mem_of_getElem? (i := 98) rfl)) rfl
theorem q_1015 : Cond.code yX1_putNumber prog_3_method_5_code 2 none ∈ sw_all := sw_q (qt_6 _ (List.mem_of_getElem? (i := 99) rfl)) rfl
theorem q_1016 : Cond.methodLink RX1 39 yX5_assigned ∈ sw_all := sw_q (qt_6 _ (List.mem_of_getElem? (i := 100) rfl)) rfl
theorem q_1017 : Cond.methodLink RX1 47 yX1_putIfThere ∈ sw_all := sw_q (qt_6 _ (List.mem_of_getElem? (i := 101) rfl)) rfl
theorem q_1018 : Cond.instanceMethod yX1_putIfThere ∈ sw_all := sw_q (qt_6 _ (List.mem_of_getElem? (i := 103) rfl)) rfl
theorem q_1019 : Cond.code yX1_putIfThere prog_3_method_4_code 3 none ∈ sw_all := sw_q (qt_6 _ (List.mem_of_getElem? (i := 104) rfl)) rfl
theorem q_1020 : Cond.methodLink RX1 51 yX5_median ∈ sw_all := sw_q (qt_6 _ (List.mem_of_getElem? (i := 105) rfl)) rfl
theorem q_1021 : Cond.methodLink RX1 55 yX5_holdsDegree ∈ sw_all := sw_q (qt_6 _ (List.mem_of_getElem? (i := 106) rfl)) rfl
theorem q_1022 : Cond.instanceMethod yX5_holdsDegree ∈ sw_all := sw_q (qt_6 _ (List.mem_of_getElem? (i := 107) rfl)) rfl
theorem q_1023 : Cond.selects RX5 yX5_holdsDegree yX5_holdsDegree ∈ sw_all := sw_q (qt_6 _ (List.mem_of_getElem? (i := 108) rfl)) rfl
theorem q_1024 : Cond.code yX5_holdsDegree prog_7_method_20_code 3 (Option.some .boolean) ∈ sw_all := sw_q (qt_6 _ (List.mem_of_getElem? (i := 109) rfl)) rfl
theorem q_1025 : Cond.methodLink RL 350 yL_spells ∈ sw_all := sw_q (qt_6 _ (List.mem_of_getElem? (i := 110) rfl)) rfl
theorem q_1026 : Cond.static yL_spells ∈ sw_all := sw_q (qt_6 _ (List.mem_of_getElem? (i := 111) rfl)) rfl
theorem q_1027 : Cond.code yL_spells method_51_code 5 (Option.some .boolean) ∈ sw_all := sw_q (qt_6 _ (List.mem_of_getElem? (i := 112) rfl)) rfl
theorem q_1028 : Cond.methodLink RL 144 yJ0_length_8abf5 ∈ sw_all := sw_q (qt_6 _ (List.mem_of_getElem? (i := 113) rfl)) rfl
theorem q_1029 : Cond.methodLink RL 320 yL_outputAt ∈ sw_all := sw_q (qt_6 _ (List.mem_of_getElem? (i := 114) rfl)) rfl
theorem q_1030 : Cond.static yL_outputAt ∈ sw_all := sw_q (qt_6 _ (List.mem_of_getElem? (i := 115) rfl)) rfl
theorem q_1031 : Cond.methodLink RL 138 yX6_outputAt ∈ sw_all := sw_q (qt_6 _ (List.mem_of_getElem? (i := 117) rfl)) rfl
theorem q_1032 : Cond.instanceMethod yX6_outputAt ∈ sw_all := sw_q (qt_6 _ (List.mem_of_getElem? (i := 118) rfl)) rfl
theorem q_1033 : Cond.selects RX6 yX6_outputAt yX6_outputAt ∈ sw_all := sw_q (qt_6 _ (List.mem_of_getElem? (i := 119) rfl)) rfl
theorem q_1034 : Cond.code yX6_outputAt prog_1_method_51_code 2 (Option.some .char) ∈ sw_all := sw_q (qt_6 _ (List.mem_of_getElem? (i := 120) rfl)) rfl
theorem q_1035 : Cond.methodLink RL 149 yJ0_charAt_5068e ∈ sw_all := sw_q (qt_6 _ (List.mem_of_getElem? (i := 121) rfl)) rfl
theorem q_1036 : Cond.instanceMethod yJ0_charAt_5068e ∈ sw_all := sw_q (qt_6 _ (List.mem_of_getElem? (i := 122) rfl)) rfl
theorem q_1037 : Cond.selects RJ0 yJ0_charAt_5068e yJ0_charAt_5068e ∈ sw_all := sw_q (qt_6 _ (List.mem_of_getElem? (i := 123) rfl)) rfl
theorem q_1038 : Cond.code yJ0_charAt_5068e prog_26_method_56_code 2 (Option.some .char) ∈ sw_all := sw_q (qt_6 _ (List.mem_of_getElem? (i := 124) rfl)) rfl
theorem q_1039 : Cond.methodLink RJ0 492 yJ0_isLatin1_aae02 ∈ sw_all := sw_q (qt_6 _ (List.mem_of_getElem? (i := 125) rfl)) rfl
theorem q_1040 : Cond.instanceMethod yJ0_isLatin1_aae02 ∈ sw_all := sw_q (qt_6 _ (List.mem_of_getElem? (i := 126) rfl)) rfl
theorem q_1041 : Cond.selects RJ0 yJ0_isLatin1_aae02 yJ0_isLatin1_aae02 ∈ sw_all := sw_q (qt_6 _ (List.mem_of_getElem? (i := 127) rfl)) rfl
theorem q_1042 : Cond.code yJ0_isLatin1_aae02 prog_26_method_154_code 1 (Option.some .boolean) ∈ sw_all := sw_q (qt_6 _ (List.mem_of_getElem? (i := 128) rfl)) rfl
theorem q_1043 : Cond.methodLink RJ0 495 yJ1_charAt_3b067 ∈ sw_all := sw_q (qt_6 _ (List.mem_of_getElem? (i := 129) rfl)) rfl
theorem q_1044 : Cond.static yJ1_charAt_3b067 ∈ sw_all := sw_q (qt_6 _ (List.mem_of_getElem? (i := 130) rfl)) rfl
theorem q_1045 : Cond.code yJ1_charAt_3b067 prog_28_method_2_code 2 (Option.some .char) ∈ sw_all := sw_q (qt_6 _ (List.mem_of_getElem? (i := 131) rfl)) rfl
theorem q_1046 : Cond.methodLink RJ1 9 yJ0_checkIndex_df160 ∈ sw_all := sw_q (qt_6 _ (List.mem_of_getElem? (i := 132) rfl)) rfl
theorem q_1047 : Cond.methodLink RJ0 498 yJ2_charAt_3b067 ∈ sw_all := sw_q (qt_6 _ (List.mem_of_getElem? (i := 133) rfl)) rfl
theorem q_1048 : Cond.static yJ2_charAt_3b067 ∈ sw_all := sw_q (qt_6 _ (List.mem_of_getElem? (i := 134) rfl)) rfl
theorem q_1049 : Cond.code yJ2_charAt_3b067 prog_29_method_83_code 2 (Option.some .char) ∈ sw_all := sw_q (qt_6 _ (List.mem_of_getElem? (i := 135) rfl)) rfl
theorem q_1050 : Cond.methodLink RL 354 yL_writeExaminer ∈ sw_all := sw_q (qt_6 _ (List.mem_of_getElem? (i := 136) rfl)) rfl
theorem q_1051 : Cond.static yL_writeExaminer ∈ sw_all := sw_q (qt_6 _ (List.mem_of_getElem? (i := 137) rfl)) rfl
theorem q_1052 : Cond.methodLink RL 135 yX6_writeExaminer ∈ sw_all := sw_q (qt_6 _ (List.mem_of_getElem? (i := 139) rfl)) rfl
theorem q_1053 : Cond.instanceMethod yX6_writeExaminer ∈ sw_all := sw_q (qt_6 _ (List.mem_of_getElem? (i := 140) rfl)) rfl
theorem q_1054 : Cond.selects RX6 yX6_writeExaminer yX6_writeExaminer ∈ sw_all := sw_q (qt_6 _ (List.mem_of_getElem? (i := 141) rfl)) rfl
theorem q_1055 : Cond.code yX6_writeExaminer prog_1_method_50_code 2 (Option.some .int) ∈ sw_all := sw_q (qt_6 _ (List.mem_of_getElem? (i := 142) rfl)) rfl
theorem q_1056 : Cond.methodLink RX6 295 yX1_showExaminer ∈ sw_all := sw_q (qt_6 _ (List.mem_of_getElem? (i := 143) rfl)) rfl
theorem q_1057 : Cond.instanceMethod yX1_showExaminer ∈ sw_all := sw_q (qt_6 _ (List.mem_of_getElem? (i := 144) rfl)) rfl
theorem q_1058 : Cond.selects RX1 yX1_showExaminer yX1_showExaminer ∈ sw_all := sw_q (qt_6 _ (List.mem_of_getElem? (i := 145) rfl)) rfl
theorem q_1059 : Cond.code yX1_showExaminer prog_3_method_3_code 4 none ∈ sw_all := sw_q (qt_6 _ (List.mem_of_getElem? (i := 146) rfl)) rfl
theorem q_1060 : Cond.methodLink RX1 62 yX5_loadOf ∈ sw_all := sw_q (qt_6 _ (List.mem_of_getElem? (i := 147) rfl)) rfl
theorem q_1061 : Cond.methodLink RL 220 yL_undone ∈ sw_all := sw_q (qt_6 _ (List.mem_of_getElem? (i := 149) rfl)) rfl
theorem q_1062 : Cond.static yL_undone ∈ sw_all := sw_q (qt_6 _ (List.mem_of_getElem? (i := 150) rfl)) rfl
theorem q_1063 : Cond.code yL_undone method_54_code 8 (Option.some .boolean) ∈ sw_all := sw_q (qt_6 _ (List.mem_of_getElem? (i := 151) rfl)) rfl
theorem q_1064 : Cond.methodLink RL 366 yL_sum ∈ sw_all := sw_q (qt_6 _ (List.mem_of_getElem? (i := 152) rfl)) rfl
theorem q_1065 : Cond.static yL_sum ∈ sw_all := sw_q (qt_6 _ (List.mem_of_getElem? (i := 153) rfl)) rfl
theorem q_1066 : Cond.code yL_sum method_53_code 5 (Option.some .long) ∈ sw_all := sw_q (qt_6 _ (List.mem_of_getElem? (i := 154) rfl)) rfl
theorem q_1067 : Cond.methodLink RL 370 yL_revoke ∈ sw_all := sw_q (qt_6 _ (List.mem_of_getElem? (i := 160) rfl)) rfl
theorem q_1068 : Cond.static yL_revoke ∈ sw_all := sw_q (qt_6 _ (List.mem_of_getElem? (i := 161) rfl)) rfl
theorem q_1069 : Cond.methodLink RL 47 yX6_revoke ∈ sw_all := sw_q (qt_6 _ (List.mem_of_getElem? (i := 163) rfl)) rfl
theorem q_1070 : Cond.instanceMethod yX6_revoke ∈ sw_all := sw_q (qt_6 _ (List.mem_of_getElem? (i := 164) rfl)) rfl
theorem q_1071 : Cond.selects RX6 yX6_revoke yX6_revoke ∈ sw_all := sw_q (qt_6 _ (List.mem_of_getElem? (i := 165) rfl)) rfl
theorem q_1072 : Cond.code yX6_revoke prog_1_method_11_code 2 (Option.some .int) ∈ sw_all := sw_q (qt_6 _ (List.mem_of_getElem? (i := 166) rfl)) rfl
theorem q_1073 : Cond.methodLink RX6 113 yX5_tryRevocation ∈ sw_all := sw_q (qt_6 _ (List.mem_of_getElem? (i := 167) rfl)) rfl
theorem q_1074 : Cond.instanceMethod yX5_tryRevocation ∈ sw_all := sw_q (qt_6 _ (List.mem_of_getElem? (i := 168) rfl)) rfl
theorem q_1075 : Cond.selects RX5 yX5_tryRevocation yX5_tryRevocation ∈ sw_all := sw_q (qt_6 _ (List.mem_of_getElem? (i := 169) rfl)) rfl
theorem q_1076 : Cond.code yX5_tryRevocation prog_7_method_32_code 2 (Option.some .int) ∈ sw_all := sw_q (qt_6 _ (List.mem_of_getElem? (i := 170) rfl)) rfl
theorem q_1077 : Cond.methodLink RX5 145 yX5_hasEntry ∈ sw_all := sw_q (qt_6 _ (List.mem_of_getElem? (i := 171) rfl)) rfl
theorem q_1078 : Cond.methodLink RL 378 yL_run ∈ sw_all := sw_q (qt_6 _ (List.mem_of_getElem? (i := 175) rfl)) rfl
theorem q_1079 : Cond.static yL_run ∈ sw_all := sw_q (qt_6 _ (List.mem_of_getElem? (i := 176) rfl)) rfl
theorem q_1080 : Cond.code yL_run method_41_code 3 (Option.some .int) ∈ sw_all := sw_q (qt_6 _ (List.mem_of_getElem? (i := 177) rfl)) rfl
theorem q_1081 : Cond.methodLink RL 152 yL_append ∈ sw_all := sw_q (qt_6 _ (List.mem_of_getElem? (i := 178) rfl)) rfl
theorem q_1082 : Cond.static yL_append ∈ sw_all := sw_q (qt_6 _ (List.mem_of_getElem? (i := 179) rfl)) rfl
theorem q_1083 : Cond.methodLink RL 118 yX6_append ∈ sw_all := sw_q (qt_6 _ (List.mem_of_getElem? (i := 181) rfl)) rfl
theorem q_1084 : Cond.instanceMethod yX6_append ∈ sw_all := sw_q (qt_6 _ (List.mem_of_getElem? (i := 182) rfl)) rfl
theorem q_1085 : Cond.selects RX6 yX6_append yX6_append ∈ sw_all := sw_q (qt_6 _ (List.mem_of_getElem? (i := 183) rfl)) rfl
theorem q_1086 : Cond.code yX6_append prog_1_method_45_code 2 (Option.some .int) ∈ sw_all := sw_q (qt_6 _ (List.mem_of_getElem? (i := 184) rfl)) rfl
theorem q_1087 : Cond.methodLink RX6 249 yX4_isFull ∈ sw_all := sw_q (qt_6 _ (List.mem_of_getElem? (i := 185) rfl)) rfl
theorem q_1088 : Cond.instanceMethod yX4_isFull ∈ sw_all := sw_q (qt_6 _ (List.mem_of_getElem? (i := 186) rfl)) rfl
theorem q_1089 : Cond.selects RX4 yX4_isFull yX4_isFull ∈ sw_all := sw_q (qt_6 _ (List.mem_of_getElem? (i := 187) rfl)) rfl
theorem q_1090 : Cond.code yX4_isFull prog_6_method_2_code 1 (Option.some .boolean) ∈ sw_all := sw_q (qt_6 _ (List.mem_of_getElem? (i := 188) rfl)) rfl
theorem q_1091 : Cond.methodLink RX6 255 yX4_extend ∈ sw_all := sw_q (qt_6 _ (List.mem_of_getElem? (i := 189) rfl)) rfl
theorem q_1092 : Cond.instanceMethod yX4_extend ∈ sw_all := sw_q (qt_6 _ (List.mem_of_getElem? (i := 190) rfl)) rfl
theorem q_1093 : Cond.selects RX4 yX4_extend yX4_extend ∈ sw_all := sw_q (qt_6 _ (List.mem_of_getElem? (i := 191) rfl)) rfl
theorem q_1094 : Cond.code yX4_extend prog_6_method_3_code 2 none ∈ sw_all := sw_q (qt_6 _ (List.mem_of_getElem? (i := 192) rfl)) rfl
theorem q_1095 : Cond.methodLink RL 157 yL_runs ∈ sw_all := sw_q (qt_6 _ (List.mem_of_getElem? (i := 193) rfl)) rfl
theorem q_1096 : Cond.static yL_runs ∈ sw_all := sw_q (qt_6 _ (List.mem_of_getElem? (i := 194) rfl)) rfl
theorem q_1097 : Cond.methodLink RL 122 yX6_run ∈ sw_all := sw_q (qt_6 _ (List.mem_of_getElem? (i := 196) rfl)) rfl
theorem q_1098 : Cond.instanceMethod yX6_run ∈ sw_all := sw_q (qt_6 _ (List.mem_of_getElem? (i := 197) rfl)) rfl
theorem q_1099 : Cond.selects RX6 yX6_run yX6_run ∈ sw_all := sw_q (qt_6 _ (List.mem_of_getElem? (i := 198) rfl)) rfl
theorem q_1100 : Cond.code yX6_run prog_1_method_46_code 3 (Option.some .int) ∈ sw_all := sw_q (qt_6 _ (List.mem_of_getElem? (i := 199) rfl)) rfl
theorem q_1101 : Cond.methodLink RX6 262 yX4_parse ∈ sw_all := sw_q (qt_6 _ (List.mem_of_getElem? (i := 200) rfl)) rfl
theorem q_1102 : Cond.instanceMethod yX4_parse ∈ sw_all := sw_q (qt_6 _ (List.mem_of_getElem? (i := 201) rfl)) rfl
theorem q_1103 : Cond.selects RX4 yX4_parse yX4_parse ∈ sw_all := sw_q (qt_6 _ (List.mem_of_getElem? (i := 202) rfl)) rfl
theorem q_1104 : Cond.code yX4_parse prog_6_method_5_code 4 (Option.some .int) ∈ sw_all := sw_q (qt_6 _ (List.mem_of_getElem? (i := 203) rfl)) rfl
theorem q_1105 : Cond.methodLink RX4 31 yX4_readCommand ∈ sw_all := sw_q (qt_6 _ (List.mem_of_getElem? (i := 204) rfl)) rfl
theorem q_1106 : Cond.instanceMethod yX4_readCommand ∈ sw_all := sw_q (qt_6 _ (List.mem_of_getElem? (i := 206) rfl)) rfl
theorem q_1107 : Cond.code yX4_readCommand prog_6_method_6_code 6 (Option.some .int) ∈ sw_all := sw_q (qt_6 _ (List.mem_of_getElem? (i := 207) rfl)) rfl
theorem q_1108 : Cond.methodLink RX4 39 yX4_shapeOf ∈ sw_all := sw_q (qt_6 _ (List.mem_of_getElem? (i := 208) rfl)) rfl
theorem q_1109 : Cond.static yX4_shapeOf ∈ sw_all := sw_q (qt_6 _ (List.mem_of_getElem? (i := 209) rfl)) rfl
theorem q_1110 : Cond.code yX4_shapeOf prog_6_method_8_code 1 (Option.some (.object "java/lang/String")) ∈ sw_all := sw_q (qt_6 _ (List.mem_of_getElem? (i := 210) rfl)) rfl
theorem q_1111 : Cond.methodLink RX4 43 yX4_match ∈ sw_all := sw_q (qt_6 _ (List.mem_of_getElem? (i := 221) rfl)) rfl
theorem q_1112 : Cond.instanceMethod yX4_match ∈ sw_all := sw_q (qt_6 _ (List.mem_of_getElem? (i := 223) rfl)) rfl
theorem q_1113 : Cond.code yX4_match prog_6_method_7_code 9 (Option.some .int) ∈ sw_all := sw_q (qt_6 _ (List.mem_of_getElem? (i := 224) rfl)) rfl
theorem q_1114 : Cond.methodLink RX4 55 yJ0_length_8abf5 ∈ sw_all := sw_q (qt_6 _ (List.mem_of_getElem? (i := 225) rfl)) rfl
theorem q_1115 : Cond.methodLink RX4 60 yJ0_charAt_5068e ∈ sw_all := sw_q (qt_6 _ (List.mem_of_getElem? (i := 226) rfl)) rfl
theorem q_1116 : Cond.methodLink RX4 64 yX4_fits ∈ sw_all := sw_q (qt_6 _ (List.mem_of_getElem? (i := 227) rfl)) rfl
theorem q_1117 : Cond.static yX4_fits ∈ sw_all := sw_q (qt_6 _ (List.mem_of_getElem? (i := 228) rfl)) rfl
theorem q_1118 : Cond.code yX4_fits prog_6_method_9_code 2 (Option.some .boolean) ∈ sw_all := sw_q (qt_6 _ (List.mem_of_getElem? (i := 229) rfl)) rfl
theorem q_1119 : Cond.methodLink RX4 68 yX4_isDigit ∈ sw_all := sw_q (qt_6 _ (List.mem_of_getElem? (i := 231) rfl)) rfl
theorem q_1120 : Cond.static yX4_isDigit ∈ sw_all := sw_q (qt_6 _ (List.mem_of_getElem? (i := 232) rfl)) rfl
theorem q_1121 : Cond.code yX4_isDigit prog_6_method_11_code 1 (Option.some .boolean) ∈ sw_all := sw_q (qt_6 _ (List.mem_of_getElem? (i := 233) rfl)) rfl
theorem q_1122 : Cond.methodLink RX4 52 yX4_errorAt ∈ sw_all := sw_q (qt_6 _ (List.mem_of_getElem? (i := 234) rfl)) rfl
theorem q_1123 : Cond.static yX4_errorAt ∈ sw_all := sw_q (qt_6 _ (List.mem_of_getElem? (i := 235) rfl)) rfl
theorem q_1124 : Cond.code yX4_errorAt prog_6_method_12_code 1 (Option.some .int) ∈ sw_all := sw_q (qt_6 _ (List.mem_of_getElem? (i := 236) rfl)) rfl
theorem q_1125 : Cond.methodLink RX4 72 yX4_isOperand ∈ sw_all := sw_q (qt_6 _ (List.mem_of_getElem? (i := 237) rfl)) rfl
theorem q_1126 : Cond.static yX4_isOperand ∈ sw_all := sw_q (qt_6 _ (List.mem_of_getElem? (i := 238) rfl)) rfl
theorem q_1127 : Cond.code yX4_isOperand prog_6_method_10_code 1 (Option.some .boolean) ∈ sw_all := sw_q (qt_6 _ (List.mem_of_getElem? (i := 239) rfl)) rfl
theorem q_1128 : Cond.methodLink RX4 35 yX4_errorOf ∈ sw_all := sw_q (qt_7 _ (List.mem_of_getElem? (i := 0) rfl)) rfl
theorem q_1129 : Cond.static yX4_errorOf ∈ sw_all := sw_q (qt_7 _ (List.mem_of_getElem? (i := 1) rfl)) rfl
theorem q_1130 : Cond.code yX4_errorOf prog_6_method_13_code 1 (Option.some .int) ∈ sw_all := sw_q (qt_7 _ (List.mem_of_getElem? (i := 2) rfl)) rfl
theorem q_1131 : Cond.methodLink RX4 47 yJ9_max_7cf53 ∈ sw_all := sw_q (qt_7 _ (List.mem_of_getElem? (i := 3) rfl)) rfl
theorem q_1132 : Cond.methodLink RX6 265 yX4_empty ∈ sw_all := sw_q (qt_7 _ (List.mem_of_getElem? (i := 4) rfl)) rfl
theorem q_1133 : Cond.instanceMethod yX4_empty ∈ sw_all := sw_q (qt_7 _ (List.mem_of_getElem? (i := 5) rfl)) rfl
theorem q_1134 : Cond.selects RX4 yX4_empty yX4_empty ∈ sw_all := sw_q (qt_7 _ (List.mem_of_getElem? (i := 6) rfl)) rfl
theorem q_1135 : Cond.code yX4_empty prog_6_method_4_code 1 none ∈ sw_all := sw_q (qt_7 _ (List.mem_of_getElem? (i := 7) rfl)) rfl
theorem q_1136 : Cond.methodLink RX6 277 yX6_perform ∈ sw_all := sw_q (qt_7 _ (List.mem_of_getElem? (i := 8) rfl)) rfl
theorem q_1137 : Cond.instanceMethod yX6_perform ∈ sw_all := sw_q (qt_7 _ (List.mem_of_getElem? (i := 10) rfl)) rfl
theorem q_1138 : Cond.code yX6_perform prog_1_method_64_code 6 (Option.some .int) ∈ sw_all := sw_q (qt_7 _ (List.mem_of_getElem? (i := 11) rfl)) rfl
theorem q_1139 : Cond.methodLink RX6 281 yX0_takeBack ∈ sw_all := sw_q (qt_7 _ (List.mem_of_getElem? (i := 12) rfl)) rfl
theorem q_1140 : Cond.instanceMethod yX0_takeBack ∈ sw_all := sw_q (qt_7 _ (List.mem_of_getElem? (i := 13) rfl)) rfl
theorem q_1141 : Cond.selects RX0 yX0_takeBack yX0_takeBack ∈ sw_all := sw_q (qt_7 _ (List.mem_of_getElem? (i := 14) rfl)) rfl
theorem q_1142 : Cond.code yX0_takeBack prog_2_method_3_code 2 none ∈ sw_all := sw_q (qt_7 _ (List.mem_of_getElem? (i := 15) rfl)) rfl
theorem q_1143 : Cond.methodLink RL 381 yL_undo ∈ sw_all := sw_q (qt_7 _ (List.mem_of_getElem? (i := 16) rfl)) rfl
theorem q_1144 : Cond.static yL_undo ∈ sw_all := sw_q (qt_7 _ (List.mem_of_getElem? (i := 17) rfl)) rfl
theorem q_1145 : Cond.methodLink RL 141 yX6_undo ∈ sw_all := sw_q (qt_7 _ (List.mem_of_getElem? (i := 19) rfl)) rfl
theorem q_1146 : Cond.instanceMethod yX6_undo ∈ sw_all := sw_q (qt_7 _ (List.mem_of_getElem? (i := 20) rfl)) rfl
theorem q_1147 : Cond.selects RX6 yX6_undo yX6_undo ∈ sw_all := sw_q (qt_7 _ (List.mem_of_getElem? (i := 21) rfl)) rfl
theorem q_1148 : Cond.code yX6_undo prog_1_method_52_code 1 (Option.some .int) ∈ sw_all := sw_q (qt_7 _ (List.mem_of_getElem? (i := 22) rfl)) rfl
theorem q_1149 : Cond.methodLink RX6 307 yX0_stepBack ∈ sw_all := sw_q (qt_7 _ (List.mem_of_getElem? (i := 23) rfl)) rfl
theorem q_1150 : Cond.instanceMethod yX0_stepBack ∈ sw_all := sw_q (qt_7 _ (List.mem_of_getElem? (i := 24) rfl)) rfl
theorem q_1151 : Cond.selects RX0 yX0_stepBack yX0_stepBack ∈ sw_all := sw_q (qt_7 _ (List.mem_of_getElem? (i := 25) rfl)) rfl
theorem q_1152 : Cond.code yX0_stepBack prog_2_method_5_code 2 none ∈ sw_all := sw_q (qt_7 _ (List.mem_of_getElem? (i := 26) rfl)) rfl
theorem q_1153 : Cond.methodLink RX0 33 yX0_takeBack ∈ sw_all := sw_q (qt_7 _ (List.mem_of_getElem? (i := 27) rfl)) rfl
theorem q_1154 : Cond.selects RX6 yX6_conclude yX6_conclude ∈ sw_all := sw_q (List.mem_append_left _ (List.mem_map.mpr ⟨(yX6_conclude, 10), List.mem_append_left _ (List.mem_of_getElem? (i := 0) rfl), rfl⟩)) rfl
theorem q_1155 : Cond.selects RX3 yX3_survey yX3_survey ∈ sw_all := sw_q (List.mem_append_left _ (List.mem_map.mpr ⟨(yX3_survey, 9), List.mem_append_left _ (List.mem_of_getElem? (i := 2) rfl), rfl⟩)) rfl
theorem q_1156 : Cond.selects RX3 yX3_greatestFrom yX3_greatestFrom ∈ sw_all := sw_q (List.mem_append_left _ (List.mem_map.mpr ⟨(yX3_greatestFrom, 9), List.mem_append_left _ (List.mem_of_getElem? (i := 3) rfl), rfl⟩)) rfl
theorem q_1157 : Cond.selects RX3 yX3_addByExchanges yX3_addByExchanges ∈ sw_all := sw_q (List.mem_append_left _ (List.mem_map.mpr ⟨(yX3_addByExchanges, 9), List.mem_append_left _ (List.mem_of_getElem? (i := 4) rfl), rfl⟩)) rfl
theorem q_1158 : Cond.selects RX3 yX3_exchange yX3_exchange ∈ sw_all := sw_q (List.mem_append_left _ (List.mem_map.mpr ⟨(yX3_exchange, 9), List.mem_append_left _ (List.mem_of_getElem? (i := 5) rfl), rfl⟩)) rfl
theorem q_1159 : Cond.selects RX3 yX3_enqueueDoorsOf yX3_enqueueDoorsOf ∈ sw_all := sw_q (List.mem_append_left _ (List.mem_map.mpr ⟨(yX3_enqueueDoorsOf, 9), List.mem_append_left _ (List.mem_of_getElem? (i := 6) rfl), rfl⟩)) rfl
theorem q_1160 : Cond.selects RX3 yX3_bestChoice yX3_bestChoice ∈ sw_all := sw_q (List.mem_append_left _ (List.mem_map.mpr ⟨(yX3_bestChoice, 9), List.mem_append_left _ (List.mem_of_getElem? (i := 7) rfl), rfl⟩)) rfl
theorem q_1161 : Cond.selects RX6 yX6_requirePair yX6_requirePair ∈ sw_all := sw_q (List.mem_append_left _ (List.mem_map.mpr ⟨(yX6_requirePair, 10), List.mem_append_left _ (List.mem_of_getElem? (i := 8) rfl), rfl⟩)) rfl
theorem q_1162 : Cond.selects RX6 yX6_requireExaminer yX6_requireExaminer ∈ sw_all := sw_q (List.mem_append_left _ (List.mem_map.mpr ⟨(yX6_requireExaminer, 10), List.mem_append_left _ (List.mem_of_getElem? (i := 9) rfl), rfl⟩)) rfl
theorem q_1163 : Cond.selects RX6 yX6_requireDoor yX6_requireDoor ∈ sw_all := sw_q (List.mem_append_left _ (List.mem_map.mpr ⟨(yX6_requireDoor, 10), List.mem_append_left _ (List.mem_of_getElem? (i := 10) rfl), rfl⟩)) rfl
theorem q_1164 : Cond.selects RX3 yX3_extendSets yX3_extendSets ∈ sw_all := sw_q (List.mem_append_left _ (List.mem_map.mpr ⟨(yX3_extendSets, 9), List.mem_append_left _ (List.mem_of_getElem? (i := 11) rfl), rfl⟩)) rfl
theorem q_1165 : Cond.selects RX6 yX6_requireEntry yX6_requireEntry ∈ sw_all := sw_q (List.mem_append_left _ (List.mem_map.mpr ⟨(yX6_requireEntry, 10), List.mem_append_left _ (List.mem_of_getElem? (i := 12) rfl), rfl⟩)) rfl
theorem q_1166 : Cond.selects RX6 yX6_panelCountsAgree yX6_panelCountsAgree ∈ sw_all := sw_q (List.mem_append_left _ (List.mem_map.mpr ⟨(yX6_panelCountsAgree, 10), List.mem_append_left _ (List.mem_of_getElem? (i := 13) rfl), rfl⟩)) rfl
theorem q_1167 : Cond.selects RX6 yX6_framesDiffer yX6_framesDiffer ∈ sw_all := sw_q (List.mem_append_left _ (List.mem_map.mpr ⟨(yX6_framesDiffer, 10), List.mem_append_left _ (List.mem_of_getElem? (i := 14) rfl), rfl⟩)) rfl
theorem q_1168 : Cond.selects RX1 yX1_put yX1_put ∈ sw_all := sw_q (List.mem_append_left _ (List.mem_map.mpr ⟨(yX1_put, 2), List.mem_append_left _ (List.mem_of_getElem? (i := 15) rfl), rfl⟩)) rfl
theorem q_1169 : Cond.selects RX1 yX1_putNumber yX1_putNumber ∈ sw_all := sw_q (List.mem_append_left _ (List.mem_map.mpr ⟨(yX1_putNumber, 2), List.mem_append_right _ (List.mem_of_getElem? (i := 0) rfl), rfl⟩)) rfl
theorem q_1170 : Cond.selects RX1 yX1_putIfThere yX1_putIfThere ∈ sw_all := sw_q (List.mem_append_left _ (List.mem_map.mpr ⟨(yX1_putIfThere, 2), List.mem_append_right _ (List.mem_of_getElem? (i := 1) rfl), rfl⟩)) rfl
theorem q_1171 : Cond.selects RX4 yX4_readCommand yX4_readCommand ∈ sw_all := sw_q (List.mem_append_left _ (List.mem_map.mpr ⟨(yX4_readCommand, 5), List.mem_append_right _ (List.mem_of_getElem? (i := 2) rfl), rfl⟩)) rfl
theorem q_1172 : Cond.selects RX4 yX4_match yX4_match ∈ sw_all := sw_q (List.mem_append_left _ (List.mem_map.mpr ⟨(yX4_match, 5), List.mem_append_right _ (List.mem_of_getElem? (i := 3) rfl), rfl⟩)) rfl
theorem q_1173 : Cond.selects RX6 yX6_perform yX6_perform ∈ sw_all := sw_q (List.mem_append_left _ (List.mem_map.mpr ⟨(yX6_perform, 10), List.mem_append_right _ (List.mem_of_getElem? (i := 4) rfl), rfl⟩)) rfl
theorem q_1174 : Cond.codeWith yL_addDoor method_3_code 4 (Option.some .int) [(0, 6, 7, 14), (0, 6, 10, 16)] ∈ sw_all := sw_q (qt_2 _ (List.mem_of_getElem? (i := 35) rfl)) rfl
theorem q_1175 : Cond.codeWith yL_addExaminer method_4_code 6 (Option.some .int) [(0, 9, 10, 14), (0, 9, 14, 16)] ∈ sw_all := sw_q (qt_2 _ (List.mem_of_getElem? (i := 201) rfl)) rfl
theorem q_1176 : Cond.codeWith yL_assign method_6_code 4 (Option.some .int) [(0, 6, 7, 26), (0, 6, 10, 16), (0, 6, 14, 31)] ∈ sw_all := sw_q (qt_2 _ (List.mem_of_getElem? (i := 212) rfl)) rfl
theorem q_1177 : Cond.codeWith yL_conflict method_5_code 4 (Option.some .int) [(0, 6, 7, 26), (0, 6, 10, 16)] ∈ sw_all := sw_q (qt_3 _ (List.mem_of_getElem? (i := 107) rfl)) rfl
theorem q_1178 : Cond.codeWith yL_grade method_7_code 5 (Option.some .int) [(0, 7, 8, 26), (0, 7, 12, 14), (0, 7, 17, 16)] ∈ sw_all := sw_q (qt_3 _ (List.mem_of_getElem? (i := 122) rfl)) rfl
theorem q_1179 : Cond.codeWith yL_setThreshold method_8_code 3 (Option.some .int) [(0, 5, 6, 14)] ∈ sw_all := sw_q (qt_3 _ (List.mem_of_getElem? (i := 137) rfl)) rfl
theorem q_1180 : Cond.codeWith yL_appeal method_9_code 3 (Option.some .int) [(0, 5, 6, 26), (0, 5, 9, 16), (0, 5, 13, 31)] ∈ sw_all := sw_q (qt_3 _ (List.mem_of_getElem? (i := 148) rfl)) rfl
theorem q_1181 : Cond.codeWith yL_award method_10_code 3 (Option.some .int) [(0, 5, 6, 26), (0, 5, 9, 16), (0, 5, 13, 31)] ∈ sw_all := sw_q (qt_3 _ (List.mem_of_getElem? (i := 189) rfl)) rfl
theorem q_1182 : Cond.codeWith yL_isAssigned method_25_code 4 (Option.some .int) [(0, 14, 15, 26)] ∈ sw_all := sw_q (qt_3 _ (List.mem_of_getElem? (i := 224) rfl)) rfl
theorem q_1183 : Cond.codeWith yL_gradeBy method_26_code 4 (Option.some .int) [(0, 6, 7, 26), (0, 6, 11, 50)] ∈ sw_all := sw_q (qt_4 _ (List.mem_of_getElem? (i := 6) rfl)) rfl
theorem q_1184 : Cond.codeWith yL_examinersOf method_14_code 3 (Option.some .int) [(0, 5, 6, 26)] ∈ sw_all := sw_q (qt_4 _ (List.mem_of_getElem? (i := 24) rfl)) rfl
theorem q_1185 : Cond.codeWith yL_gradesOf method_15_code 3 (Option.some .int) [(0, 5, 6, 26)] ∈ sw_all := sw_q (qt_4 _ (List.mem_of_getElem? (i := 32) rfl)) rfl
theorem q_1186 : Cond.codeWith yL_result method_16_code 3 (Option.some .int) [(0, 5, 6, 26), (0, 5, 10, 50)] ∈ sw_all := sw_q (qt_4 _ (List.mem_of_getElem? (i := 40) rfl)) rfl
theorem q_1187 : Cond.codeWith yL_passes method_17_code 3 (Option.some .int) [(0, 13, 14, 26)] ∈ sw_all := sw_q (qt_4 _ (List.mem_of_getElem? (i := 48) rfl)) rfl
theorem q_1188 : Cond.codeWith yL_isEntitled method_19_code 3 (Option.some .int) [(0, 13, 14, 26)] ∈ sw_all := sw_q (qt_4 _ (List.mem_of_getElem? (i := 56) rfl)) rfl
theorem q_1189 : Cond.codeWith yL_doorAtRank method_20_code 3 (Option.some .int) [(0, 5, 6, 50)] ∈ sw_all := sw_q (qt_4 _ (List.mem_of_getElem? (i := 69) rfl)) rfl
theorem q_1190 : Cond.codeWith yL_frameOfDoor method_12_code 3 (Option.some .int) [(0, 5, 6, 26)] ∈ sw_all := sw_q (qt_4 _ (List.mem_of_getElem? (i := 88) rfl)) rfl
theorem q_1191 : Cond.codeWith yL_topic method_13_code 3 (Option.some .int) [(0, 5, 6, 26)] ∈ sw_all := sw_q (qt_4 _ (List.mem_of_getElem? (i := 95) rfl)) rfl
theorem q_1192 : Cond.codeWith yL_wasGranted method_18_code 3 (Option.some .int) [(0, 13, 14, 26)] ∈ sw_all := sw_q (qt_4 _ (List.mem_of_getElem? (i := 102) rfl)) rfl
theorem q_1193 : Cond.codeWith yL_planned method_27_code 3 (Option.some .int) [(0, 5, 6, 26), (0, 5, 10, 50)] ∈ sw_all := sw_q (qt_4 _ (List.mem_of_getElem? (i := 108) rfl)) rfl
theorem q_1194 : Cond.codeWith yL_frameOfExaminer method_21_code 3 (Option.some .int) [(0, 5, 6, 26)] ∈ sw_all := sw_q (qt_4 _ (List.mem_of_getElem? (i := 115) rfl)) rfl
theorem q_1195 : Cond.codeWith yL_isNeutral method_23_code 4 (Option.some .int) [(0, 14, 15, 26)] ∈ sw_all := sw_q (qt_4 _ (List.mem_of_getElem? (i := 122) rfl)) rfl
theorem q_1196 : Cond.codeWith yL_mayJudge method_24_code 4 (Option.some .int) [(0, 14, 15, 26)] ∈ sw_all := sw_q (qt_4 _ (List.mem_of_getElem? (i := 130) rfl)) rfl
theorem q_1197 : Cond.codeWith yL_load method_22_code 3 (Option.some .int) [(0, 5, 6, 26)] ∈ sw_all := sw_q (qt_4 _ (List.mem_of_getElem? (i := 138) rfl)) rfl
theorem q_1198 : Cond.codeWith yL_member method_30_code 4 (Option.some .int) [(0, 6, 7, 26), (0, 6, 11, 14), (0, 6, 15, 50)] ∈ sw_all := sw_q (qt_4 _ (List.mem_of_getElem? (i := 178) rfl)) rfl
theorem q_1199 : Cond.codeWith yL_panels method_28_code 3 (Option.some .int) [(0, 5, 6, 26)] ∈ sw_all := sw_q (qt_4 _ (List.mem_of_getElem? (i := 189) rfl)) rfl
theorem q_1200 : Cond.codeWith yL_byFrames method_29_code 3 (Option.some .int) [(0, 5, 6, 26)] ∈ sw_all := sw_q (qt_4 _ (List.mem_of_getElem? (i := 200) rfl)) rfl
theorem q_1201 : Cond.codeWith yL_doorOf method_31_code 3 (Option.some .int) [(0, 5, 6, 50)] ∈ sw_all := sw_q (qt_4 _ (List.mem_of_getElem? (i := 222) rfl)) rfl
theorem q_1202 : Cond.codeWith yL_isRevoked method_32_code 3 (Option.some .int) [(0, 13, 14, 50)] ∈ sw_all := sw_q (qt_4 _ (List.mem_of_getElem? (i := 237) rfl)) rfl
theorem q_1203 : Cond.codeWith yL_writeDoor method_37_code 3 (Option.some .int) [(0, 5, 6, 26)] ∈ sw_all := sw_q (qt_6 _ (List.mem_of_getElem? (i := 83) rfl)) rfl
theorem q_1204 : Cond.codeWith yL_outputAt method_39_code 3 (Option.some .int) [(0, 5, 6, 26)] ∈ sw_all := sw_q (qt_6 _ (List.mem_of_getElem? (i := 116) rfl)) rfl
theorem q_1205 : Cond.codeWith yL_writeExaminer method_38_code 3 (Option.some .int) [(0, 5, 6, 26)] ∈ sw_all := sw_q (qt_6 _ (List.mem_of_getElem? (i := 138) rfl)) rfl
theorem q_1206 : Cond.codeWith yL_revoke method_11_code 3 (Option.some .int) [(0, 5, 6, 50), (0, 5, 9, 16)] ∈ sw_all := sw_q (qt_6 _ (List.mem_of_getElem? (i := 162) rfl)) rfl
theorem q_1207 : Cond.codeWith yL_append method_33_code 3 (Option.some .int) [(0, 5, 6, 16)] ∈ sw_all := sw_q (qt_6 _ (List.mem_of_getElem? (i := 180) rfl)) rfl
theorem q_1208 : Cond.codeWith yL_runs method_34_code 2 (Option.some .int) [(0, 4, 5, 14), (0, 4, 8, 31)] ∈ sw_all := sw_q (qt_6 _ (List.mem_of_getElem? (i := 195) rfl)) rfl
theorem q_1209 : Cond.codeWith yL_undo method_40_code 2 (Option.some .int) [(0, 4, 5, 16)] ∈ sw_all := sw_q (qt_7 _ (List.mem_of_getElem? (i := 18) rfl)) rfl
theorem qf_0 : ∀ w ∈ u_ws RX0 TX0 3, w ∈ sw_all := List.forall_mem_cons.mpr ⟨sw_q (qt_1 _ (List.mem_of_getElem? (i := 143) rfl)) rfl, List.forall_mem_cons.mpr ⟨sw_q (qt_1 _ (List.mem_of_getElem? (i := 145) rfl)) rfl, List.forall_mem_cons.mpr ⟨sw_q (qt_1 _ (List.mem_of_getElem? (i := 147) rfl)) rfl, fun _ h => absurd h List.not_mem_nil⟩⟩⟩
theorem qf_1 : ∀ w ∈ u_ws RX1 TX1 2, w ∈ sw_all := List.forall_mem_cons.mpr ⟨sw_q (qt_1 _ (List.mem_of_getElem? (i := 233) rfl)) rfl, List.forall_mem_cons.mpr ⟨sw_q (qt_1 _ (List.mem_of_getElem? (i := 235) rfl)) rfl, fun _ h => absurd h List.not_mem_nil⟩⟩
theorem qf_2 : ∀ w ∈ u_ws RX2 TX2 1, w ∈ sw_all := List.forall_mem_cons.mpr ⟨sw_q (qt_1 _ (List.mem_of_getElem? (i := 193) rfl)) rfl, fun _ h => absurd h List.not_mem_nil⟩
theorem qf_3 : ∀ w ∈ u_ws RX3 TX3 9, w ∈ sw_all := List.forall_mem_cons.mpr ⟨sw_q (qt_1 _ (List.mem_of_getElem? (i := 166) rfl)) rfl, List.forall_mem_cons.mpr ⟨sw_q (qt_1 _ (List.mem_of_getElem? (i := 168) rfl)) rfl, List.forall_mem_cons.mpr ⟨sw_q (qt_1 _ (List.mem_of_getElem? (i := 170) rfl)) rfl, List.forall_mem_cons.mpr ⟨sw_q (qt_1 _ (List.mem_of_getElem? (i := 172) rfl)) rfl, List.forall_mem_cons.mpr ⟨sw_q (qt_1 _ (List.mem_of_getElem? (i := 174) rfl)) rfl, List.forall_mem_cons.mpr ⟨sw_q (qt_1 _ (List.mem_of_getElem? (i := 176) rfl)) rfl, List.forall_mem_cons.mpr ⟨sw_q (qt_1 _ (List.mem_of_getElem? (i := 178) rfl)) rfl, List.forall_mem_cons.mpr ⟨sw_q (qt_1 _ (List.mem_of_getElem? (i := 180) rfl)) rfl, List.forall_mem_cons.mpr ⟨sw_q (qt_1 _ (List.mem_of_getElem? (i := 182) rfl)) rfl, fun _ h => absurd h List.not_mem_nil⟩⟩⟩⟩⟩⟩⟩⟩⟩
theorem qf_4 : ∀ w ∈ u_ws RX4 TX4 5, w ∈ sw_all := List.forall_mem_cons.mpr ⟨sw_q (qt_1 _ (List.mem_of_getElem? (i := 212) rfl)) rfl, List.forall_mem_cons.mpr ⟨sw_q (qt_1 _ (List.mem_of_getElem? (i := 214) rfl)) rfl, List.forall_mem_cons.mpr ⟨sw_q (qt_1 _ (List.mem_of_getElem? (i := 216) rfl)) rfl, List.forall_mem_cons.mpr ⟨sw_q (qt_1 _ (List.mem_of_getElem? (i := 218) rfl)) rfl, List.forall_mem_cons.mpr ⟨sw_q (qt_1 _ (List.mem_of_getElem? (i := 220) rfl)) rfl, fun _ h => absurd h List.not_mem_nil⟩⟩⟩⟩⟩
theorem qf_5 : ∀ w ∈ u_ws RX5 TX5 17, w ∈ sw_all := List.forall_mem_cons.mpr ⟨sw_q (qt_1 _ (List.mem_of_getElem? (i := 93) rfl)) rfl, List.forall_mem_cons.mpr ⟨sw_q (qt_1 _ (List.mem_of_getElem? (i := 95) rfl)) rfl, List.forall_mem_cons.mpr ⟨sw_q (qt_1 _ (List.mem_of_getElem? (i := 97) rfl)) rfl, List.forall_mem_cons.mpr ⟨sw_q (qt_1 _ (List.mem_of_getElem? (i := 99) rfl)) rfl, List.forall_mem_cons.mpr ⟨sw_q (qt_1 _ (List.mem_of_getElem? (i := 101) rfl)) rfl, List.forall_mem_cons.mpr ⟨sw_q (qt_1 _ (List.mem_of_getElem? (i := 103) rfl)) rfl, List.forall_mem_cons.mpr ⟨sw_q (qt_1 _ (List.mem_of_getElem? (i := 105) rfl)) rfl, List.forall_mem_cons.mpr ⟨sw_q (qt_1 _ (List.mem_of_getElem? (i := 107) rfl)) rfl, List.forall_mem_cons.mpr ⟨sw_q (qt_1 _ (List.mem_of_getElem? (i := 109) rfl)) rfl, List.forall_mem_cons.mpr ⟨sw_q (qt_1 _ (List.mem_of_getElem? (i := 111) rfl)) rfl, List.forall_mem_cons.mpr ⟨sw_q (qt_1 _ (List.mem_of_getElem? (i := 113) rfl)) rfl, List.forall_mem_cons.mpr ⟨sw_q (qt_1 _ (List.mem_of_getElem? (i := 115) rfl)) rfl, List.forall_mem_cons.mpr ⟨sw_q (qt_1 _ (List.mem_of_getElem? (i := 117) rfl)) rfl, List.forall_mem_cons.mpr ⟨sw_q (qt_1 _ (List.mem_of_getElem? (i := 119) rfl)) rfl, List.forall_mem_cons.mpr ⟨sw_q (qt_1 _ (List.mem_of_getElem? (i := 121) rfl)) rfl, List.forall_mem_cons.mpr ⟨sw_q (qt_1 _ (List.mem_of_getElem? (i := 123) rfl)) rfl, List.forall_mem_cons.mpr ⟨sw_q (qt_1 _ (List.mem_of_getElem? (i := 125) rfl)) rfl, fun _ h => absurd h List.not_mem_nil⟩⟩⟩⟩⟩⟩⟩⟩⟩⟩⟩⟩⟩⟩⟩⟩⟩
theorem qf_6 : ∀ w ∈ u_ws RX6 TX6 10, w ∈ sw_all := List.forall_mem_cons.mpr ⟨sw_q (qt_2 _ (List.mem_of_getElem? (i := 8) rfl)) rfl, List.forall_mem_cons.mpr ⟨sw_q (qt_2 _ (List.mem_of_getElem? (i := 10) rfl)) rfl, List.forall_mem_cons.mpr ⟨sw_q (qt_2 _ (List.mem_of_getElem? (i := 12) rfl)) rfl, List.forall_mem_cons.mpr ⟨sw_q (qt_2 _ (List.mem_of_getElem? (i := 14) rfl)) rfl, List.forall_mem_cons.mpr ⟨sw_q (qt_2 _ (List.mem_of_getElem? (i := 16) rfl)) rfl, List.forall_mem_cons.mpr ⟨sw_q (qt_2 _ (List.mem_of_getElem? (i := 18) rfl)) rfl, List.forall_mem_cons.mpr ⟨sw_q (qt_2 _ (List.mem_of_getElem? (i := 20) rfl)) rfl, List.forall_mem_cons.mpr ⟨sw_q (qt_2 _ (List.mem_of_getElem? (i := 22) rfl)) rfl, List.forall_mem_cons.mpr ⟨sw_q (qt_2 _ (List.mem_of_getElem? (i := 24) rfl)) rfl, List.forall_mem_cons.mpr ⟨sw_q (qt_2 _ (List.mem_of_getElem? (i := 26) rfl)) rfl, fun _ h => absurd h List.not_mem_nil⟩⟩⟩⟩⟩⟩⟩⟩⟩⟩
theorem qf_J : ∀ w ∈ u_ws RJ0 TJ0 4, w ∈ sw_all := List.forall_mem_cons.mpr ⟨sw_q (qt_3 _ (List.mem_of_getElem? (i := 2) rfl)) rfl, List.forall_mem_cons.mpr ⟨sw_q (qt_3 _ (List.mem_of_getElem? (i := 4) rfl)) rfl, List.forall_mem_cons.mpr ⟨sw_q (qt_6 _ (List.mem_of_getElem? (i := 72) rfl)) rfl, List.forall_mem_cons.mpr ⟨sw_q (qt_6 _ (List.mem_of_getElem? (i := 74) rfl)) rfl, fun _ h => absurd h List.not_mem_nil⟩⟩⟩⟩
theorem qf_B : ∀ w ∈ u_ws RJ4 TJ4 4, w ∈ sw_all := List.forall_mem_cons.mpr ⟨sw_q (qt_5 _ (List.mem_of_getElem? (i := 78) rfl)) rfl, List.forall_mem_cons.mpr ⟨sw_q (qt_5 _ (List.mem_of_getElem? (i := 80) rfl)) rfl, List.forall_mem_cons.mpr ⟨sw_q (qt_5 _ (List.mem_of_getElem? (i := 82) rfl)) rfl, List.forall_mem_cons.mpr ⟨sw_q (qt_5 _ (List.mem_of_getElem? (i := 84) rfl)) rfl, fun _ h => absurd h List.not_mem_nil⟩⟩⟩⟩
