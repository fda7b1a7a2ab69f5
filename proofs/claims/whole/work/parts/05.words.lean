/-! The words of the tables that stay true, each by its place. -/
def sw_all : List Cond := lw_tbl.filter goodWord
theorem sw_q {w : Cond} (h : w ∈ lw_tbl) (hg : goodWord w = true) : w ∈ sw_all := List.mem_filter.mpr ⟨h, hg⟩
theorem sw_q_tbl {w : Cond} (h : w ∈ sw_all) : w ∈ lw_tbl := (List.mem_filter.mp h).1
theorem qt_1 : ∀ w ∈ tables_1_1, w ∈ lw_tbl := fun w h => List.mem_append_right _ (List.mem_append_left _ h)
theorem qt_2 : ∀ w ∈ tables_1_2, w ∈ lw_tbl := fun w h => List.mem_append_right _ (List.mem_append_right _ (List.mem_append_left _ h))
theorem qt_3 : ∀ w ∈ tables_1_3, w ∈ lw_tbl := fun w h => List.mem_append_right _ (List.mem_append_right _ (List.mem_append_right _ (List.mem_append_left _ h)))
theorem qt_4 : ∀ w ∈ tables_1_4, w ∈ lw_tbl := fun w h => List.mem_append_right _ (List.mem_append_right _ (List.mem_append_right _ (List.mem_append_right _ (List.mem_append_left _ h))))
theorem qt_5 : ∀ w ∈ tables_1_5, w ∈ lw_tbl := fun w h => List.mem_append_right _ (List.mem_append_right _ (List.mem_append_right _ (List.mem_append_right _ (List.mem_append_right _ (List.mem_append_left _ h)))))
theorem qt_6 : ∀ w ∈ tables_1_6, w ∈ lw_tbl := fun w h => List.mem_append_right _ (List.mem_append_right _ (List.mem_append_right _ (List.mem_append_right _ (List.mem_append_right _ (List.mem_append_right _ (List.mem_append_left _ h))))))
theorem qt_7 : ∀ w ∈ tables_1_7, w ∈ lw_tbl := fun w h => List.mem_append_right _ (List.mem_append_right _ (List.mem_append_right _ (List.mem_append_right _ (List.mem_append_right _ (List.mem_append_right _ (List.mem_append_right _ (List.mem_append_left _ h)))))))
theorem qt_8 : ∀ w ∈ tables_1_8, w ∈ lw_tbl := fun w h => List.mem_append_right _ (List.mem_append_right _ (List.mem_append_right _ (List.mem_append_right _ (List.mem_append_right _ (List.mem_append_right _ (List.mem_append_right _ (List.mem_append_right _ (h))))))))
theorem q_1 : Cond.initialized RL ∈ sw_all := sw_q (qt_1 _ (List.mem_of_getElem? (i := 0) rfl)) rfl
theorem q_2 : Cond.initialized RX6 ∈ sw_all := sw_q (qt_1 _ (List.mem_of_getElem? (i := 1) rfl)) rfl
theorem q_3 : Cond.initialized RX5 ∈ sw_all := sw_q (qt_1 _ (List.mem_of_getElem? (i := 2) rfl)) rfl
theorem q_4 : Cond.initialized RX0 ∈ sw_all := sw_q (qt_1 _ (List.mem_of_getElem? (i := 3) rfl)) rfl
theorem q_5 : Cond.initialized RX3 ∈ sw_all := sw_q (qt_1 _ (List.mem_of_getElem? (i := 4) rfl)) rfl
theorem q_6 : Cond.initialized RX2 ∈ sw_all := sw_q (qt_1 _ (List.mem_of_getElem? (i := 5) rfl)) rfl
theorem q_7 : Cond.initialized RX4 ∈ sw_all := sw_q (qt_1 _ (List.mem_of_getElem? (i := 6) rfl)) rfl
theorem q_8 : Cond.initialized RX1 ∈ sw_all := sw_q (qt_1 _ (List.mem_of_getElem? (i := 7) rfl)) rfl
theorem q_9 : Cond.initialized RX7 ∈ sw_all := sw_q (qt_1 _ (List.mem_of_getElem? (i := 8) rfl)) rfl
theorem q_10 : Cond.initialized "java/lang/Throwable" ∈ sw_all := sw_q (qt_1 _ (List.mem_of_getElem? (i := 9) rfl)) rfl
theorem q_11 : Cond.initialized "java/lang/Exception" ∈ sw_all := sw_q (qt_1 _ (List.mem_of_getElem? (i := 10) rfl)) rfl
theorem q_12 : Cond.initialized "java/lang/RuntimeException" ∈ sw_all := sw_q (qt_1 _ (List.mem_of_getElem? (i := 11) rfl)) rfl
theorem q_13 : Cond.initialized "java/lang/IndexOutOfBoundsException" ∈ sw_all := sw_q (qt_1 _ (List.mem_of_getElem? (i := 12) rfl)) rfl
theorem q_14 : Cond.initialized "java/lang/IllegalArgumentException" ∈ sw_all := sw_q (qt_1 _ (List.mem_of_getElem? (i := 13) rfl)) rfl
theorem q_15 : Cond.initialized "java/lang/IllegalStateException" ∈ sw_all := sw_q (qt_1 _ (List.mem_of_getElem? (i := 14) rfl)) rfl
theorem q_16 : Cond.initialized "java/lang/UnsupportedOperationException" ∈ sw_all := sw_q (qt_1 _ (List.mem_of_getElem? (i := 15) rfl)) rfl
theorem q_17 : Cond.initialized "java/util/NoSuchElementException" ∈ sw_all := sw_q (qt_1 _ (List.mem_of_getElem? (i := 16) rfl)) rfl
theorem q_18 : Cond.initialized RJ9 ∈ sw_all := sw_q (qt_1 _ (List.mem_of_getElem? (i := 17) rfl)) rfl
theorem q_19 : Cond.initialized RJ10 ∈ sw_all := sw_q (qt_1 _ (List.mem_of_getElem? (i := 18) rfl)) rfl
theorem q_20 : Cond.initialized RJx00060 ∈ sw_all := sw_q (qt_1 _ (List.mem_of_getElem? (i := 19) rfl)) rfl
theorem q_21 : Cond.initialized RJ0 ∈ sw_all := sw_q (qt_1 _ (List.mem_of_getElem? (i := 20) rfl)) rfl
theorem q_22 : Cond.initialized RJ6 ∈ sw_all := sw_q (qt_1 _ (List.mem_of_getElem? (i := 21) rfl)) rfl
theorem q_23 : Cond.initialized "java/lang/ArithmeticException" ∈ sw_all := sw_q (qt_1 _ (List.mem_of_getElem? (i := 22) rfl)) rfl
theorem q_24 : Cond.initialized RJ1 ∈ sw_all := sw_q (qt_1 _ (List.mem_of_getElem? (i := 23) rfl)) rfl
theorem q_25 : Cond.initialized RJ3 ∈ sw_all := sw_q (qt_1 _ (List.mem_of_getElem? (i := 24) rfl)) rfl
theorem q_26 : Cond.initialized RJ2 ∈ sw_all := sw_q (qt_1 _ (List.mem_of_getElem? (i := 25) rfl)) rfl
theorem q_27 : Cond.classLink RL 8 RX6 ∈ sw_all := sw_q (qt_1 _ (List.mem_of_getElem? (i := 26) rfl)) rfl
theorem q_28 : Cond.instantiable RX6 10 ∈ sw_all := sw_q (qt_1 _ (List.mem_of_getElem? (i := 27) rfl)) rfl
theorem q_29 : Cond.methodLink RL 156 yX6_init ∈ sw_all := sw_q (qt_1 _ (List.mem_of_getElem? (i := 28) rfl)) rfl
theorem q_30 : Cond.instanceMethod yX6_init ∈ sw_all := sw_q (qt_1 _ (List.mem_of_getElem? (i := 29) rfl)) rfl
theorem q_31 : Cond.code yX6_init prog_1_method_1_code 1 none ∈ sw_all := sw_q (qt_1 _ (List.mem_of_getElem? (i := 30) rfl)) rfl
theorem q_32 : Cond.methodLink RX6 1 ⟨"java/lang/Object", "<init>", "()V"⟩ ∈ sw_all := sw_q (qt_1 _ (List.mem_of_getElem? (i := 31) rfl)) rfl
theorem q_33 : Cond.instanceMethod ⟨"java/lang/Object", "<init>", "()V"⟩ ∈ sw_all := sw_q (qt_1 _ (List.mem_of_getElem? (i := 32) rfl)) rfl
theorem q_34 : Cond.code ⟨"java/lang/Object", "<init>", "()V"⟩ object_method_1_code 1 none ∈ sw_all := sw_q (qt_1 _ (List.mem_of_getElem? (i := 33) rfl)) rfl
theorem q_35 : Cond.classLink RX6 7 RX5 ∈ sw_all := sw_q (qt_1 _ (List.mem_of_getElem? (i := 34) rfl)) rfl
theorem q_36 : Cond.instantiable RX5 17 ∈ sw_all := sw_q (qt_1 _ (List.mem_of_getElem? (i := 35) rfl)) rfl
theorem q_37 : Cond.methodLink RX6 9 yX5_init ∈ sw_all := sw_q (qt_1 _ (List.mem_of_getElem? (i := 36) rfl)) rfl
theorem q_38 : Cond.instanceMethod yX5_init ∈ sw_all := sw_q (qt_1 _ (List.mem_of_getElem? (i := 37) rfl)) rfl
theorem q_39 : Cond.code yX5_init prog_7_method_1_code 3 none ∈ sw_all := sw_q (qt_1 _ (List.mem_of_getElem? (i := 38) rfl)) rfl
theorem q_40 : Cond.methodLink RX5 3 ⟨"java/lang/Object", "<init>", "()V"⟩ ∈ sw_all := sw_q (qt_1 _ (List.mem_of_getElem? (i := 39) rfl)) rfl
theorem q_41 : Cond.classLink RX5 53 "[[I" ∈ sw_all := sw_q (qt_1 _ (List.mem_of_getElem? (i := 40) rfl)) rfl
theorem q_42 : Cond.fieldLink RX5 9 "DoorAcademy$State" "appealed" "I" ∈ sw_all := sw_q (qt_1 _ (List.mem_of_getElem? (i := 42) rfl)) rfl
theorem q_43 : Cond.fieldLink RX2 37 "DoorAcademy$State" "appealed" "I" ∈ sw_all := sw_q (qt_1 _ (List.mem_of_getElem? (i := 43) rfl)) rfl
theorem q_44 : Cond.fieldLink RX5 15 "DoorAcademy$State" "granted" "I" ∈ sw_all := sw_q (qt_1 _ (List.mem_of_getElem? (i := 44) rfl)) rfl
theorem q_45 : Cond.fieldLink RX2 52 "DoorAcademy$State" "granted" "I" ∈ sw_all := sw_q (qt_1 _ (List.mem_of_getElem? (i := 45) rfl)) rfl
theorem q_46 : Cond.fieldLink RX6 146 "DoorAcademy$State" "granted" "I" ∈ sw_all := sw_q (qt_1 _ (List.mem_of_getElem? (i := 46) rfl)) rfl
theorem q_47 : Cond.fieldLink RX5 18 "DoorAcademy$State" "revoked" "I" ∈ sw_all := sw_q (qt_1 _ (List.mem_of_getElem? (i := 47) rfl)) rfl
theorem q_48 : Cond.fieldLink RX6 222 "DoorAcademy$State" "revoked" "I" ∈ sw_all := sw_q (qt_1 _ (List.mem_of_getElem? (i := 48) rfl)) rfl
theorem q_49 : Cond.fieldLink RX5 21 "DoorAcademy$State" "doors" "I" ∈ sw_all := sw_q (qt_1 _ (List.mem_of_getElem? (i := 49) rfl)) rfl
theorem q_50 : Cond.fieldLink RX3 67 "DoorAcademy$State" "doors" "I" ∈ sw_all := sw_q (qt_1 _ (List.mem_of_getElem? (i := 50) rfl)) rfl
theorem q_51 : Cond.fieldLink RX6 116 "DoorAcademy$State" "doors" "I" ∈ sw_all := sw_q (qt_1 _ (List.mem_of_getElem? (i := 51) rfl)) rfl
theorem q_52 : Cond.fieldLink RX5 24 "DoorAcademy$State" "doorFrames" "[C" ∈ sw_all := sw_q (qt_1 _ (List.mem_of_getElem? (i := 52) rfl)) rfl
theorem q_53 : Cond.fieldLink RX1 19 "DoorAcademy$State" "doorFrames" "[C" ∈ sw_all := sw_q (qt_1 _ (List.mem_of_getElem? (i := 53) rfl)) rfl
theorem q_54 : Cond.fieldLink RX6 123 "DoorAcademy$State" "doorFrames" "[C" ∈ sw_all := sw_q (qt_1 _ (List.mem_of_getElem? (i := 54) rfl)) rfl
theorem q_55 : Cond.fieldLink RX5 28 "DoorAcademy$State" "doorTopics" "[I" ∈ sw_all := sw_q (qt_1 _ (List.mem_of_getElem? (i := 55) rfl)) rfl
theorem q_56 : Cond.fieldLink RX1 28 "DoorAcademy$State" "doorTopics" "[I" ∈ sw_all := sw_q (qt_1 _ (List.mem_of_getElem? (i := 56) rfl)) rfl
theorem q_57 : Cond.fieldLink RX6 127 "DoorAcademy$State" "doorTopics" "[I" ∈ sw_all := sw_q (qt_1 _ (List.mem_of_getElem? (i := 57) rfl)) rfl
theorem q_58 : Cond.fieldLink RX5 32 "DoorAcademy$State" "examiners" "I" ∈ sw_all := sw_q (qt_1 _ (List.mem_of_getElem? (i := 58) rfl)) rfl
theorem q_59 : Cond.fieldLink RX1 36 "DoorAcademy$State" "examiners" "I" ∈ sw_all := sw_q (qt_1 _ (List.mem_of_getElem? (i := 59) rfl)) rfl
theorem q_60 : Cond.fieldLink RX2 55 "DoorAcademy$State" "examiners" "I" ∈ sw_all := sw_q (qt_1 _ (List.mem_of_getElem? (i := 60) rfl)) rfl
theorem q_61 : Cond.fieldLink RX3 84 "DoorAcademy$State" "examiners" "I" ∈ sw_all := sw_q (qt_1 _ (List.mem_of_getElem? (i := 61) rfl)) rfl
theorem q_62 : Cond.fieldLink RX6 159 "DoorAcademy$State" "examiners" "I" ∈ sw_all := sw_q (qt_1 _ (List.mem_of_getElem? (i := 62) rfl)) rfl
theorem q_63 : Cond.fieldLink RX5 35 "DoorAcademy$State" "examinerFrames" "[C" ∈ sw_all := sw_q (qt_1 _ (List.mem_of_getElem? (i := 63) rfl)) rfl
theorem q_64 : Cond.fieldLink RX1 59 "DoorAcademy$State" "examinerFrames" "[C" ∈ sw_all := sw_q (qt_1 _ (List.mem_of_getElem? (i := 64) rfl)) rfl
theorem q_65 : Cond.fieldLink RX2 65 "DoorAcademy$State" "examinerFrames" "[C" ∈ sw_all := sw_q (qt_1 _ (List.mem_of_getElem? (i := 65) rfl)) rfl
theorem q_66 : Cond.fieldLink RX6 165 "DoorAcademy$State" "examinerFrames" "[C" ∈ sw_all := sw_q (qt_1 _ (List.mem_of_getElem? (i := 66) rfl)) rfl
theorem q_67 : Cond.fieldLink RX5 38 "DoorAcademy$State" "topicSets" "[I" ∈ sw_all := sw_q (qt_1 _ (List.mem_of_getElem? (i := 67) rfl)) rfl
theorem q_68 : Cond.fieldLink RX1 68 "DoorAcademy$State" "topicSets" "[I" ∈ sw_all := sw_q (qt_1 _ (List.mem_of_getElem? (i := 68) rfl)) rfl
theorem q_69 : Cond.fieldLink RX5 41 "DoorAcademy$State" "capacities" "[I" ∈ sw_all := sw_q (qt_1 _ (List.mem_of_getElem? (i := 69) rfl)) rfl
theorem q_70 : Cond.fieldLink RX1 65 "DoorAcademy$State" "capacities" "[I" ∈ sw_all := sw_q (qt_1 _ (List.mem_of_getElem? (i := 70) rfl)) rfl
theorem q_71 : Cond.fieldLink RX5 44 "DoorAcademy$State" "leniences" "[I" ∈ sw_all := sw_q (qt_1 _ (List.mem_of_getElem? (i := 71) rfl)) rfl
theorem q_72 : Cond.fieldLink RX1 74 "DoorAcademy$State" "leniences" "[I" ∈ sw_all := sw_q (qt_1 _ (List.mem_of_getElem? (i := 72) rfl)) rfl
theorem q_73 : Cond.fieldLink RX2 58 "DoorAcademy$State" "leniences" "[I" ∈ sw_all := sw_q (qt_1 _ (List.mem_of_getElem? (i := 73) rfl)) rfl
theorem q_74 : Cond.fieldLink RX5 47 "DoorAcademy$State" "conflicts" "[I" ∈ sw_all := sw_q (qt_1 _ (List.mem_of_getElem? (i := 74) rfl)) rfl
theorem q_75 : Cond.fieldLink RX5 50 "DoorAcademy$State" "assignments" "[I" ∈ sw_all := sw_q (qt_1 _ (List.mem_of_getElem? (i := 75) rfl)) rfl
theorem q_76 : Cond.fieldLink RX5 55 "DoorAcademy$State" "grades" "[[I" ∈ sw_all := sw_q (qt_1 _ (List.mem_of_getElem? (i := 76) rfl)) rfl
theorem q_77 : Cond.fieldLink RX1 43 "DoorAcademy$State" "grades" "[[I" ∈ sw_all := sw_q (qt_1 _ (List.mem_of_getElem? (i := 77) rfl)) rfl
theorem q_78 : Cond.fieldLink RX6 184 "DoorAcademy$State" "grades" "[[I" ∈ sw_all := sw_q (qt_1 _ (List.mem_of_getElem? (i := 78) rfl)) rfl
theorem q_79 : Cond.fieldLink RX5 58 "DoorAcademy$State" "threshold" "I" ∈ sw_all := sw_q (qt_1 _ (List.mem_of_getElem? (i := 79) rfl)) rfl
theorem q_80 : Cond.fieldLink RX2 33 "DoorAcademy$State" "threshold" "I" ∈ sw_all := sw_q (qt_1 _ (List.mem_of_getElem? (i := 80) rfl)) rfl
theorem q_81 : Cond.fieldLink RX6 210 "DoorAcademy$State" "threshold" "I" ∈ sw_all := sw_q (qt_1 _ (List.mem_of_getElem? (i := 81) rfl)) rfl
theorem q_82 : Cond.fieldLink RX5 61 "DoorAcademy$State" "entries" "I" ∈ sw_all := sw_q (qt_1 _ (List.mem_of_getElem? (i := 82) rfl)) rfl
theorem q_83 : Cond.fieldLink RX6 213 "DoorAcademy$State" "entries" "I" ∈ sw_all := sw_q (qt_1 _ (List.mem_of_getElem? (i := 83) rfl)) rfl
theorem q_84 : Cond.fieldLink RX5 64 "DoorAcademy$State" "entryDoors" "[I" ∈ sw_all := sw_q (qt_1 _ (List.mem_of_getElem? (i := 84) rfl)) rfl
theorem q_85 : Cond.fieldLink RX6 219 "DoorAcademy$State" "entryDoors" "[I" ∈ sw_all := sw_q (qt_1 _ (List.mem_of_getElem? (i := 85) rfl)) rfl
theorem q_86 : Cond.classLink RX6 23 RX0 ∈ sw_all := sw_q (qt_1 _ (List.mem_of_getElem? (i := 123) rfl)) rfl
theorem q_87 : Cond.instantiable RX0 3 ∈ sw_all := sw_q (qt_1 _ (List.mem_of_getElem? (i := 124) rfl)) rfl
theorem q_88 : Cond.methodLink RX6 25 yX0_init ∈ sw_all := sw_q (qt_1 _ (List.mem_of_getElem? (i := 125) rfl)) rfl
theorem q_89 : Cond.instanceMethod yX0_init ∈ sw_all := sw_q (qt_1 _ (List.mem_of_getElem? (i := 126) rfl)) rfl
theorem q_90 : Cond.code yX0_init prog_2_method_1_code 2 none ∈ sw_all := sw_q (qt_1 _ (List.mem_of_getElem? (i := 127) rfl)) rfl
theorem q_91 : Cond.methodLink RX0 3 ⟨"java/lang/Object", "<init>", "()V"⟩ ∈ sw_all := sw_q (qt_1 _ (List.mem_of_getElem? (i := 128) rfl)) rfl
theorem q_92 : Cond.classLink RX0 9 RX5 ∈ sw_all := sw_q (qt_1 _ (List.mem_of_getElem? (i := 129) rfl)) rfl
theorem q_93 : Cond.methodLink RX0 22 yX5_init ∈ sw_all := sw_q (qt_1 _ (List.mem_of_getElem? (i := 131) rfl)) rfl
theorem q_94 : Cond.fieldLink RX0 11 "DoorAcademy$History" "slots" "[LDoorAcademy$State;" ∈ sw_all := sw_q (qt_1 _ (List.mem_of_getElem? (i := 132) rfl)) rfl
theorem q_95 : Cond.fieldLink RX0 15 "DoorAcademy$History" "free" "I" ∈ sw_all := sw_q (qt_1 _ (List.mem_of_getElem? (i := 133) rfl)) rfl
theorem q_96 : Cond.fieldLink RX0 19 "DoorAcademy$History" "kept" "I" ∈ sw_all := sw_q (qt_1 _ (List.mem_of_getElem? (i := 134) rfl)) rfl
theorem q_97 : Cond.fieldLink RX6 304 "DoorAcademy$History" "kept" "I" ∈ sw_all := sw_q (qt_1 _ (List.mem_of_getElem? (i := 135) rfl)) rfl
theorem q_98 : Cond.classLink RX6 30 RX3 ∈ sw_all := sw_q (qt_1 _ (List.mem_of_getElem? (i := 143) rfl)) rfl
theorem q_99 : Cond.instantiable RX3 9 ∈ sw_all := sw_q (qt_1 _ (List.mem_of_getElem? (i := 144) rfl)) rfl
theorem q_100 : Cond.instanceMethod yX3_init ∈ sw_all := sw_q (qt_1 _ (List.mem_of_getElem? (i := 146) rfl)) rfl
theorem q_101 : Cond.code yX3_init prog_5_method_1_code 1 none ∈ sw_all := sw_q (qt_1 _ (List.mem_of_getElem? (i := 147) rfl)) rfl
theorem q_102 : Cond.methodLink RX3 3 ⟨"java/lang/Object", "<init>", "()V"⟩ ∈ sw_all := sw_q (qt_1 _ (List.mem_of_getElem? (i := 148) rfl)) rfl
theorem q_103 : Cond.fieldLink RX3 9 "DoorAcademy$Planner" "doors" "I" ∈ sw_all := sw_q (qt_1 _ (List.mem_of_getElem? (i := 149) rfl)) rfl
theorem q_104 : Cond.fieldLink RX3 15 "DoorAcademy$Planner" "candidates" "[I" ∈ sw_all := sw_q (qt_1 _ (List.mem_of_getElem? (i := 150) rfl)) rfl
theorem q_105 : Cond.fieldLink RX3 19 "DoorAcademy$Planner" "room" "[I" ∈ sw_all := sw_q (qt_1 _ (List.mem_of_getElem? (i := 151) rfl)) rfl
theorem q_106 : Cond.fieldLink RX3 22 "DoorAcademy$Planner" "choices" "[I" ∈ sw_all := sw_q (qt_1 _ (List.mem_of_getElem? (i := 152) rfl)) rfl
theorem q_107 : Cond.fieldLink RX6 91 "DoorAcademy$Planner" "choices" "[I" ∈ sw_all := sw_q (qt_1 _ (List.mem_of_getElem? (i := 153) rfl)) rfl
theorem q_108 : Cond.fieldLink RX3 25 "DoorAcademy$Planner" "given" "[I" ∈ sw_all := sw_q (qt_1 _ (List.mem_of_getElem? (i := 154) rfl)) rfl
theorem q_109 : Cond.fieldLink RX3 28 "DoorAcademy$Planner" "used" "[I" ∈ sw_all := sw_q (qt_1 _ (List.mem_of_getElem? (i := 155) rfl)) rfl
theorem q_110 : Cond.fieldLink RX3 31 "DoorAcademy$Planner" "reachedFrom" "[I" ∈ sw_all := sw_q (qt_1 _ (List.mem_of_getElem? (i := 156) rfl)) rfl
theorem q_111 : Cond.fieldLink RX3 34 "DoorAcademy$Planner" "queue" "[I" ∈ sw_all := sw_q (qt_1 _ (List.mem_of_getElem? (i := 157) rfl)) rfl
theorem q_112 : Cond.fieldLink RX3 37 "DoorAcademy$Planner" "reachable" "[Z" ∈ sw_all := sw_q (qt_1 _ (List.mem_of_getElem? (i := 158) rfl)) rfl
theorem q_113 : Cond.classLink RX6 37 RX2 ∈ sw_all := sw_q (qt_1 _ (List.mem_of_getElem? (i := 179) rfl)) rfl
theorem q_114 : Cond.instantiable RX2 1 ∈ sw_all := sw_q (qt_1 _ (List.mem_of_getElem? (i := 180) rfl)) rfl
theorem q_115 : Cond.instanceMethod yX2_init ∈ sw_all := sw_q (qt_1 _ (List.mem_of_getElem? (i := 182) rfl)) rfl
theorem q_116 : Cond.code yX2_init prog_4_method_1_code 1 none ∈ sw_all := sw_q (qt_1 _ (List.mem_of_getElem? (i := 183) rfl)) rfl
theorem q_117 : Cond.methodLink RX2 3 ⟨"java/lang/Object", "<init>", "()V"⟩ ∈ sw_all := sw_q (qt_1 _ (List.mem_of_getElem? (i := 184) rfl)) rfl
theorem q_118 : Cond.fieldLink RX2 11 "DoorAcademy$Panels" "suitableByFrame" "[I" ∈ sw_all := sw_q (qt_1 _ (List.mem_of_getElem? (i := 185) rfl)) rfl
theorem q_119 : Cond.classLink RX6 44 RX4 ∈ sw_all := sw_q (qt_1 _ (List.mem_of_getElem? (i := 189) rfl)) rfl
theorem q_120 : Cond.instantiable RX4 5 ∈ sw_all := sw_q (qt_1 _ (List.mem_of_getElem? (i := 190) rfl)) rfl
theorem q_121 : Cond.instanceMethod yX4_init ∈ sw_all := sw_q (qt_1 _ (List.mem_of_getElem? (i := 192) rfl)) rfl
theorem q_122 : Cond.code yX4_init prog_6_method_1_code 1 none ∈ sw_all := sw_q (qt_1 _ (List.mem_of_getElem? (i := 193) rfl)) rfl
theorem q_123 : Cond.methodLink RX4 5 ⟨"java/lang/Object", "<init>", "()V"⟩ ∈ sw_all := sw_q (qt_1 _ (List.mem_of_getElem? (i := 194) rfl)) rfl
theorem q_124 : Cond.classLink RX4 26 "[[I" ∈ sw_all := sw_q (qt_1 _ (List.mem_of_getElem? (i := 195) rfl)) rfl
theorem q_125 : Cond.fieldLink RX4 11 "DoorAcademy$Program" "text" "[C" ∈ sw_all := sw_q (qt_1 _ (List.mem_of_getElem? (i := 196) rfl)) rfl
theorem q_126 : Cond.fieldLink RX4 15 "DoorAcademy$Program" "length" "I" ∈ sw_all := sw_q (qt_1 _ (List.mem_of_getElem? (i := 197) rfl)) rfl
theorem q_127 : Cond.fieldLink RX6 259 "DoorAcademy$Program" "length" "I" ∈ sw_all := sw_q (qt_1 _ (List.mem_of_getElem? (i := 198) rfl)) rfl
theorem q_128 : Cond.fieldLink RX4 19 "DoorAcademy$Program" "commands" "I" ∈ sw_all := sw_q (qt_1 _ (List.mem_of_getElem? (i := 199) rfl)) rfl
theorem q_129 : Cond.fieldLink RX6 268 "DoorAcademy$Program" "commands" "I" ∈ sw_all := sw_q (qt_1 _ (List.mem_of_getElem? (i := 200) rfl)) rfl
theorem q_130 : Cond.fieldLink RX4 22 "DoorAcademy$Program" "kinds" "[I" ∈ sw_all := sw_q (qt_1 _ (List.mem_of_getElem? (i := 201) rfl)) rfl
theorem q_131 : Cond.fieldLink RX6 271 "DoorAcademy$Program" "kinds" "[I" ∈ sw_all := sw_q (qt_1 _ (List.mem_of_getElem? (i := 202) rfl)) rfl
theorem q_132 : Cond.fieldLink RX4 28 "DoorAcademy$Program" "operands" "[[I" ∈ sw_all := sw_q (qt_1 _ (List.mem_of_getElem? (i := 203) rfl)) rfl
theorem q_133 : Cond.fieldLink RX6 274 "DoorAcademy$Program" "operands" "[[I" ∈ sw_all := sw_q (qt_1 _ (List.mem_of_getElem? (i := 204) rfl)) rfl
theorem q_134 : Cond.classLink RX6 51 RX1 ∈ sw_all := sw_q (qt_1 _ (List.mem_of_getElem? (i := 216) rfl)) rfl
theorem q_135 : Cond.instantiable RX1 2 ∈ sw_all := sw_q (qt_1 _ (List.mem_of_getElem? (i := 217) rfl)) rfl
theorem q_136 : Cond.instanceMethod yX1_init ∈ sw_all := sw_q (qt_1 _ (List.mem_of_getElem? (i := 219) rfl)) rfl
theorem q_137 : Cond.code yX1_init prog_3_method_1_code 1 none ∈ sw_all := sw_q (qt_1 _ (List.mem_of_getElem? (i := 220) rfl)) rfl
theorem q_138 : Cond.methodLink RX1 3 ⟨"java/lang/Object", "<init>", "()V"⟩ ∈ sw_all := sw_q (qt_1 _ (List.mem_of_getElem? (i := 221) rfl)) rfl
theorem q_139 : Cond.fieldLink RX1 11 "DoorAcademy$Line" "characters" "[C" ∈ sw_all := sw_q (qt_1 _ (List.mem_of_getElem? (i := 222) rfl)) rfl
theorem q_140 : Cond.fieldLink RX6 301 "DoorAcademy$Line" "characters" "[C" ∈ sw_all := sw_q (qt_1 _ (List.mem_of_getElem? (i := 223) rfl)) rfl
theorem q_141 : Cond.fieldLink RX1 15 "DoorAcademy$Line" "length" "I" ∈ sw_all := sw_q (qt_1 _ (List.mem_of_getElem? (i := 224) rfl)) rfl
theorem q_142 : Cond.fieldLink RX6 294 "DoorAcademy$Line" "length" "I" ∈ sw_all := sw_q (qt_1 _ (List.mem_of_getElem? (i := 225) rfl)) rfl
theorem q_143 : Cond.fieldLink RX6 10 "DoorAcademy" "present" "LDoorAcademy$State;" ∈ sw_all := sw_q (qt_1 _ (List.mem_of_getElem? (i := 231) rfl)) rfl
theorem q_144 : Cond.fieldLink RX6 16 "DoorAcademy" "saved" "LDoorAcademy$State;" ∈ sw_all := sw_q (qt_1 _ (List.mem_of_getElem? (i := 232) rfl)) rfl
theorem q_145 : Cond.fieldLink RX6 19 "DoorAcademy" "hasSaved" "Z" ∈ sw_all := sw_q (qt_1 _ (List.mem_of_getElem? (i := 233) rfl)) rfl
theorem q_146 : Cond.fieldLink RX6 26 "DoorAcademy" "history" "LDoorAcademy$History;" ∈ sw_all := sw_q (qt_1 _ (List.mem_of_getElem? (i := 234) rfl)) rfl
theorem q_147 : Cond.fieldLink RX6 33 "DoorAcademy" "planner" "LDoorAcademy$Planner;" ∈ sw_all := sw_q (qt_1 _ (List.mem_of_getElem? (i := 235) rfl)) rfl
theorem q_148 : Cond.fieldLink RX6 40 "DoorAcademy" "panels" "LDoorAcademy$Panels;" ∈ sw_all := sw_q (qt_1 _ (List.mem_of_getElem? (i := 236) rfl)) rfl
theorem q_149 : Cond.fieldLink RX6 47 "DoorAcademy" "program" "LDoorAcademy$Program;" ∈ sw_all := sw_q (qt_1 _ (List.mem_of_getElem? (i := 237) rfl)) rfl
theorem q_150 : Cond.fieldLink RX6 54 "DoorAcademy" "line" "LDoorAcademy$Line;" ∈ sw_all := sw_q (qt_1 _ (List.mem_of_getElem? (i := 238) rfl)) rfl
theorem q_151 : Cond.fieldLink RX6 58 "DoorAcademy" "storedErrorPosition" "I" ∈ sw_all := sw_q (qt_1 _ (List.mem_of_getElem? (i := 239) rfl)) rfl
theorem q_152 : Cond.fieldLink RX6 62 "DoorAcademy" "storedFailedCommand" "I" ∈ sw_all := sw_q (qt_2 _ (List.mem_of_getElem? (i := 0) rfl)) rfl
theorem q_153 : Cond.methodLink RL 180 yX6_carryOutPlan ∈ sw_all := sw_q (qt_2 _ (List.mem_of_getElem? (i := 22) rfl)) rfl
theorem q_154 : Cond.instanceMethod yX6_carryOutPlan ∈ sw_all := sw_q (qt_2 _ (List.mem_of_getElem? (i := 23) rfl)) rfl
theorem q_155 : Cond.selects RX6 yX6_carryOutPlan yX6_carryOutPlan ∈ sw_all := sw_q (qt_2 _ (List.mem_of_getElem? (i := 24) rfl)) rfl
theorem q_156 : Cond.code yX6_carryOutPlan prog_1_method_6_code 1 (Option.some .int) ∈ sw_all := sw_q (qt_2 _ (List.mem_of_getElem? (i := 25) rfl)) rfl
theorem q_157 : Cond.methodLink RX6 65 yX0_prepare ∈ sw_all := sw_q (qt_2 _ (List.mem_of_getElem? (i := 26) rfl)) rfl
theorem q_158 : Cond.instanceMethod yX0_prepare ∈ sw_all := sw_q (qt_2 _ (List.mem_of_getElem? (i := 27) rfl)) rfl
theorem q_159 : Cond.selects RX0 yX0_prepare yX0_prepare ∈ sw_all := sw_q (qt_2 _ (List.mem_of_getElem? (i := 28) rfl)) rfl
theorem q_160 : Cond.code yX0_prepare prog_2_method_2_code 2 none ∈ sw_all := sw_q (qt_2 _ (List.mem_of_getElem? (i := 29) rfl)) rfl
theorem q_161 : Cond.methodLink RX0 23 yX5_copyFrom ∈ sw_all := sw_q (qt_2 _ (List.mem_of_getElem? (i := 30) rfl)) rfl
theorem q_162 : Cond.instanceMethod yX5_copyFrom ∈ sw_all := sw_q (qt_2 _ (List.mem_of_getElem? (i := 31) rfl)) rfl
theorem q_163 : Cond.selects RX5 yX5_copyFrom yX5_copyFrom ∈ sw_all := sw_q (qt_2 _ (List.mem_of_getElem? (i := 32) rfl)) rfl
theorem q_164 : Cond.code yX5_copyFrom prog_7_method_2_code 4 none ∈ sw_all := sw_q (qt_2 _ (List.mem_of_getElem? (i := 33) rfl)) rfl
theorem q_165 : Cond.methodLink RX6 88 yX3_findBest ∈ sw_all := sw_q (qt_2 _ (List.mem_of_getElem? (i := 34) rfl)) rfl
theorem q_166 : Cond.instanceMethod yX3_findBest ∈ sw_all := sw_q (qt_2 _ (List.mem_of_getElem? (i := 35) rfl)) rfl
theorem q_167 : Cond.selects RX3 yX3_findBest yX3_findBest ∈ sw_all := sw_q (qt_2 _ (List.mem_of_getElem? (i := 36) rfl)) rfl
theorem q_168 : Cond.code yX3_findBest prog_5_method_4_code 4 none ∈ sw_all := sw_q (qt_2 _ (List.mem_of_getElem? (i := 37) rfl)) rfl
theorem q_169 : Cond.methodLink RX3 41 yX3_survey ∈ sw_all := sw_q (qt_2 _ (List.mem_of_getElem? (i := 38) rfl)) rfl
theorem q_170 : Cond.instanceMethod yX3_survey ∈ sw_all := sw_q (qt_2 _ (List.mem_of_getElem? (i := 40) rfl)) rfl
theorem q_171 : Cond.code yX3_survey prog_5_method_5_code 3 none ∈ sw_all := sw_q (qt_2 _ (List.mem_of_getElem? (i := 41) rfl)) rfl
theorem q_172 : Cond.methodLink RX3 70 yX5_hasExaminer ∈ sw_all := sw_q (qt_2 _ (List.mem_of_getElem? (i := 42) rfl)) rfl
theorem q_173 : Cond.instanceMethod yX5_hasExaminer ∈ sw_all := sw_q (qt_2 _ (List.mem_of_getElem? (i := 43) rfl)) rfl
theorem q_174 : Cond.selects RX5 yX5_hasExaminer yX5_hasExaminer ∈ sw_all := sw_q (qt_2 _ (List.mem_of_getElem? (i := 44) rfl)) rfl
theorem q_175 : Cond.code yX5_hasExaminer prog_7_method_4_code 2 (Option.some .boolean) ∈ sw_all := sw_q (qt_2 _ (List.mem_of_getElem? (i := 45) rfl)) rfl
theorem q_176 : Cond.methodLink RX3 74 yX5_freeCapacity ∈ sw_all := sw_q (qt_2 _ (List.mem_of_getElem? (i := 46) rfl)) rfl
theorem q_177 : Cond.instanceMethod yX5_freeCapacity ∈ sw_all := sw_q (qt_2 _ (List.mem_of_getElem? (i := 47) rfl)) rfl
theorem q_178 : Cond.selects RX5 yX5_freeCapacity yX5_freeCapacity ∈ sw_all := sw_q (qt_2 _ (List.mem_of_getElem? (i := 48) rfl)) rfl
theorem q_179 : Cond.code yX5_freeCapacity prog_7_method_11_code 2 (Option.some .int) ∈ sw_all := sw_q (qt_2 _ (List.mem_of_getElem? (i := 49) rfl)) rfl
theorem q_180 : Cond.methodLink RX5 87 yX5_loadOf ∈ sw_all := sw_q (qt_2 _ (List.mem_of_getElem? (i := 50) rfl)) rfl
theorem q_181 : Cond.instanceMethod yX5_loadOf ∈ sw_all := sw_q (qt_2 _ (List.mem_of_getElem? (i := 51) rfl)) rfl
theorem q_182 : Cond.selects RX5 yX5_loadOf yX5_loadOf ∈ sw_all := sw_q (qt_2 _ (List.mem_of_getElem? (i := 52) rfl)) rfl
theorem q_183 : Cond.code yX5_loadOf prog_7_method_10_code 2 (Option.some .int) ∈ sw_all := sw_q (qt_2 _ (List.mem_of_getElem? (i := 53) rfl)) rfl
theorem q_184 : Cond.methodLink RX5 81 yJ6_bitCount_0f7a4 ∈ sw_all := sw_q (qt_2 _ (List.mem_of_getElem? (i := 54) rfl)) rfl
theorem q_185 : Cond.static yJ6_bitCount_0f7a4 ∈ sw_all := sw_q (qt_2 _ (List.mem_of_getElem? (i := 55) rfl)) rfl
theorem q_186 : Cond.code yJ6_bitCount_0f7a4 prog_19_method_49_code 1 (Option.some .int) ∈ sw_all := sw_q (qt_2 _ (List.mem_of_getElem? (i := 56) rfl)) rfl
theorem q_187 : Cond.constant RJ6 265 1431655765 ∈ sw_all := sw_q (qt_2 _ (List.mem_of_getElem? (i := 57) rfl)) rfl
theorem q_188 : Cond.constant RJ6 266 858993459 ∈ sw_all := sw_q (qt_2 _ (List.mem_of_getElem? (i := 58) rfl)) rfl
theorem q_189 : Cond.constant RJ6 267 252645135 ∈ sw_all := sw_q (qt_2 _ (List.mem_of_getElem? (i := 59) rfl)) rfl
theorem q_190 : Cond.methodLink RX3 77 yX3_candidatesFor ∈ sw_all := sw_q (qt_2 _ (List.mem_of_getElem? (i := 60) rfl)) rfl
theorem q_191 : Cond.static yX3_candidatesFor ∈ sw_all := sw_q (qt_2 _ (List.mem_of_getElem? (i := 61) rfl)) rfl
theorem q_192 : Cond.code yX3_candidatesFor prog_5_method_6_code 4 (Option.some .int) ∈ sw_all := sw_q (qt_2 _ (List.mem_of_getElem? (i := 62) rfl)) rfl
theorem q_193 : Cond.methodLink RX3 81 yX5_assignedCount ∈ sw_all := sw_q (qt_2 _ (List.mem_of_getElem? (i := 63) rfl)) rfl
theorem q_194 : Cond.instanceMethod yX5_assignedCount ∈ sw_all := sw_q (qt_2 _ (List.mem_of_getElem? (i := 64) rfl)) rfl
theorem q_195 : Cond.selects RX5 yX5_assignedCount yX5_assignedCount ∈ sw_all := sw_q (qt_2 _ (List.mem_of_getElem? (i := 65) rfl)) rfl
theorem q_196 : Cond.code yX5_assignedCount prog_7_method_13_code 4 (Option.some .int) ∈ sw_all := sw_q (qt_2 _ (List.mem_of_getElem? (i := 66) rfl)) rfl
theorem q_197 : Cond.methodLink RX5 90 yX5_assigned ∈ sw_all := sw_q (qt_2 _ (List.mem_of_getElem? (i := 67) rfl)) rfl
theorem q_198 : Cond.instanceMethod yX5_assigned ∈ sw_all := sw_q (qt_2 _ (List.mem_of_getElem? (i := 68) rfl)) rfl
theorem q_199 : Cond.selects RX5 yX5_assigned yX5_assigned ∈ sw_all := sw_q (qt_2 _ (List.mem_of_getElem? (i := 69) rfl)) rfl
theorem q_200 : Cond.code yX5_assigned prog_7_method_9_code 3 (Option.some .boolean) ∈ sw_all := sw_q (qt_2 _ (List.mem_of_getElem? (i := 70) rfl)) rfl
theorem q_201 : Cond.methodLink RX3 87 yX5_canJudge ∈ sw_all := sw_q (qt_2 _ (List.mem_of_getElem? (i := 71) rfl)) rfl
theorem q_202 : Cond.instanceMethod yX5_canJudge ∈ sw_all := sw_q (qt_2 _ (List.mem_of_getElem? (i := 72) rfl)) rfl
theorem q_203 : Cond.selects RX5 yX5_canJudge yX5_canJudge ∈ sw_all := sw_q (qt_2 _ (List.mem_of_getElem? (i := 73) rfl)) rfl
theorem q_204 : Cond.code yX5_canJudge prog_7_method_8_code 3 (Option.some .boolean) ∈ sw_all := sw_q (qt_2 _ (List.mem_of_getElem? (i := 74) rfl)) rfl
theorem q_205 : Cond.methodLink RX5 74 yX5_neutral ∈ sw_all := sw_q (qt_2 _ (List.mem_of_getElem? (i := 75) rfl)) rfl
theorem q_206 : Cond.instanceMethod yX5_neutral ∈ sw_all := sw_q (qt_2 _ (List.mem_of_getElem? (i := 76) rfl)) rfl
theorem q_207 : Cond.selects RX5 yX5_neutral yX5_neutral ∈ sw_all := sw_q (qt_2 _ (List.mem_of_getElem? (i := 77) rfl)) rfl
theorem q_208 : Cond.code yX5_neutral prog_7_method_7_code 3 (Option.some .boolean) ∈ sw_all := sw_q (qt_2 _ (List.mem_of_getElem? (i := 78) rfl)) rfl
theorem q_209 : Cond.static yX6_contains ∈ sw_all := sw_q (qt_2 _ (List.mem_of_getElem? (i := 80) rfl)) rfl
theorem q_210 : Cond.code yX6_contains prog_1_method_66_code 2 (Option.some .boolean) ∈ sw_all := sw_q (qt_2 _ (List.mem_of_getElem? (i := 81) rfl)) rfl
theorem q_211 : Cond.methodLink RX3 91 yX5_assigned ∈ sw_all := sw_q (qt_2 _ (List.mem_of_getElem? (i := 82) rfl)) rfl
theorem q_212 : Cond.methodLink RX3 45 yX3_greatestFrom ∈ sw_all := sw_q (qt_2 _ (List.mem_of_getElem? (i := 83) rfl)) rfl
theorem q_213 : Cond.instanceMethod yX3_greatestFrom ∈ sw_all := sw_q (qt_2 _ (List.mem_of_getElem? (i := 85) rfl)) rfl
theorem q_214 : Cond.code yX3_greatestFrom prog_5_method_8_code 4 (Option.some .int) ∈ sw_all := sw_q (qt_2 _ (List.mem_of_getElem? (i := 86) rfl)) rfl
theorem q_215 : Cond.methodLink RX3 97 yX3_addByExchanges ∈ sw_all := sw_q (qt_2 _ (List.mem_of_getElem? (i := 87) rfl)) rfl
theorem q_216 : Cond.instanceMethod yX3_addByExchanges ∈ sw_all := sw_q (qt_2 _ (List.mem_of_getElem? (i := 89) rfl)) rfl
theorem q_217 : Cond.code yX3_addByExchanges prog_5_method_9_code 7 (Option.some .boolean) ∈ sw_all := sw_q (qt_2 _ (List.mem_of_getElem? (i := 90) rfl)) rfl
theorem q_218 : Cond.methodLink RX3 100 yX3_exchange ∈ sw_all := sw_q (qt_2 _ (List.mem_of_getElem? (i := 92) rfl)) rfl
theorem q_219 : Cond.instanceMethod yX3_exchange ∈ sw_all := sw_q (qt_2 _ (List.mem_of_getElem? (i := 94) rfl)) rfl
theorem q_220 : Cond.code yX3_exchange prog_5_method_11_code 6 none ∈ sw_all := sw_q (qt_2 _ (List.mem_of_getElem? (i := 95) rfl)) rfl
theorem q_221 : Cond.methodLink RX3 103 yX3_enqueueDoorsOf ∈ sw_all := sw_q (qt_2 _ (List.mem_of_getElem? (i := 96) rfl)) rfl
theorem q_222 : Cond.instanceMethod yX3_enqueueDoorsOf ∈ sw_all := sw_q (qt_2 _ (List.mem_of_getElem? (i := 98) rfl)) rfl
theorem q_223 : Cond.code yX3_enqueueDoorsOf prog_5_method_10_code 5 (Option.some .int) ∈ sw_all := sw_q (qt_2 _ (List.mem_of_getElem? (i := 99) rfl)) rfl
theorem q_224 : Cond.methodLink RX3 64 yX3_bestChoice ∈ sw_all := sw_q (qt_2 _ (List.mem_of_getElem? (i := 100) rfl)) rfl
theorem q_225 : Cond.instanceMethod yX3_bestChoice ∈ sw_all := sw_q (qt_2 _ (List.mem_of_getElem? (i := 102) rfl)) rfl
theorem q_226 : Cond.code yX3_bestChoice prog_5_method_7_code 5 (Option.some .int) ∈ sw_all := sw_q (qt_2 _ (List.mem_of_getElem? (i := 103) rfl)) rfl
theorem q_227 : Cond.methodLink RX6 95 yX5_putPlan ∈ sw_all := sw_q (qt_2 _ (List.mem_of_getElem? (i := 104) rfl)) rfl
theorem q_228 : Cond.instanceMethod yX5_putPlan ∈ sw_all := sw_q (qt_2 _ (List.mem_of_getElem? (i := 105) rfl)) rfl
theorem q_229 : Cond.selects RX5 yX5_putPlan yX5_putPlan ∈ sw_all := sw_q (qt_2 _ (List.mem_of_getElem? (i := 106) rfl)) rfl
theorem q_230 : Cond.code yX5_putPlan prog_7_method_28_code 4 (Option.some .int) ∈ sw_all := sw_q (qt_2 _ (List.mem_of_getElem? (i := 107) rfl)) rfl
theorem q_231 : Cond.methodLink RX6 73 yX6_conclude ∈ sw_all := sw_q (qt_2 _ (List.mem_of_getElem? (i := 108) rfl)) rfl
theorem q_232 : Cond.instanceMethod yX6_conclude ∈ sw_all := sw_q (qt_2 _ (List.mem_of_getElem? (i := 110) rfl)) rfl
theorem q_233 : Cond.code yX6_conclude prog_1_method_55_code 2 (Option.some .int) ∈ sw_all := sw_q (qt_2 _ (List.mem_of_getElem? (i := 111) rfl)) rfl
theorem q_234 : Cond.methodLink RX6 316 yX6_refuse ∈ sw_all := sw_q (qt_2 _ (List.mem_of_getElem? (i := 112) rfl)) rfl
theorem q_235 : Cond.static yX6_refuse ∈ sw_all := sw_q (qt_2 _ (List.mem_of_getElem? (i := 113) rfl)) rfl
theorem q_236 : Cond.code yX6_refuse prog_1_method_56_code 1 none ∈ sw_all := sw_q (qt_2 _ (List.mem_of_getElem? (i := 114) rfl)) rfl
theorem q_237 : Cond.classLink RX6 298 "java/lang/IndexOutOfBoundsException" ∈ sw_all := sw_q (qt_2 _ (List.mem_of_getElem? (i := 115) rfl)) rfl
theorem q_238 : Cond.instantiable "java/lang/IndexOutOfBoundsException" 6 ∈ sw_all := sw_q (qt_2 _ (List.mem_of_getElem? (i := 116) rfl)) rfl
theorem q_239 : Cond.selects "java/lang/IndexOutOfBoundsException" ⟨"java/lang/Throwable", "fillInStackTrace", "(I)Ljava/lang/Throwable;"⟩ ⟨"java/lang/Throwable", "fillInStackTrace", "(I)Ljava/lang/Throwable;"⟩ ∈ sw_all := sw_q (qt_2 _ (List.mem_of_getElem? (i := 124) rfl)) rfl
theorem q_240 : Cond.selects "java/lang/IndexOutOfBoundsException" ⟨"java/lang/Throwable", "fillInStackTrace", "()Ljava/lang/Throwable;"⟩ ⟨"java/lang/Throwable", "fillInStackTrace", "()Ljava/lang/Throwable;"⟩ ∈ sw_all := sw_q (qt_2 _ (List.mem_of_getElem? (i := 125) rfl)) rfl
theorem q_241 : Cond.fieldLink "java/lang/Throwable" 198 "java/lang/Throwable" "backtrace" "Ljava/lang/Object;" ∈ sw_all := sw_q (qt_2 _ (List.mem_of_getElem? (i := 136) rfl)) rfl
theorem q_242 : Cond.instanceMethod ⟨"java/lang/Throwable", "<init>", "()V"⟩ ∈ sw_all := sw_q (qt_2 _ (List.mem_of_getElem? (i := 138) rfl)) rfl
theorem q_243 : Cond.code ⟨"java/lang/Throwable", "<init>", "()V"⟩ prog_26_method_1_code 1 none ∈ sw_all := sw_q (qt_2 _ (List.mem_of_getElem? (i := 139) rfl)) rfl
theorem q_244 : Cond.methodLink "java/lang/Throwable" 1 ⟨"java/lang/Object", "<init>", "()V"⟩ ∈ sw_all := sw_q (qt_2 _ (List.mem_of_getElem? (i := 140) rfl)) rfl
theorem q_245 : Cond.fieldLink "java/lang/Throwable" 13 "java/lang/Throwable" "UNASSIGNED_STACK" "[Ljava/lang/StackTraceElement;" ∈ sw_all := sw_q (qt_2 _ (List.mem_of_getElem? (i := 141) rfl)) rfl
theorem q_246 : Cond.fieldLink "java/lang/Throwable" 20 "java/lang/Throwable" "SUPPRESSED_SENTINEL" "Ljava/util/List;" ∈ sw_all := sw_q (qt_2 _ (List.mem_of_getElem? (i := 143) rfl)) rfl
theorem q_247 : Cond.methodLink "java/lang/Throwable" 27 ⟨"java/lang/Throwable", "fillInStackTrace", "()Ljava/lang/Throwable;"⟩ ∈ sw_all := sw_q (qt_2 _ (List.mem_of_getElem? (i := 145) rfl)) rfl
theorem q_248 : Cond.instanceMethod ⟨"java/lang/Throwable", "fillInStackTrace", "()Ljava/lang/Throwable;"⟩ ∈ sw_all := sw_q (qt_2 _ (List.mem_of_getElem? (i := 146) rfl)) rfl
theorem q_249 : Cond.selects "java/lang/ArithmeticException" ⟨"java/lang/Throwable", "fillInStackTrace", "()Ljava/lang/Throwable;"⟩ ⟨"java/lang/Throwable", "fillInStackTrace", "()Ljava/lang/Throwable;"⟩ ∈ sw_all := sw_q (qt_2 _ (List.mem_of_getElem? (i := 148) rfl)) rfl
theorem q_250 : Cond.selects RJx00060 ⟨"java/lang/Throwable", "fillInStackTrace", "()Ljava/lang/Throwable;"⟩ ⟨"java/lang/Throwable", "fillInStackTrace", "()Ljava/lang/Throwable;"⟩ ∈ sw_all := sw_q (qt_2 _ (List.mem_of_getElem? (i := 149) rfl)) rfl
theorem q_251 : Cond.selects "java/lang/IllegalArgumentException" ⟨"java/lang/Throwable", "fillInStackTrace", "()Ljava/lang/Throwable;"⟩ ⟨"java/lang/Throwable", "fillInStackTrace", "()Ljava/lang/Throwable;"⟩ ∈ sw_all := sw_q (qt_2 _ (List.mem_of_getElem? (i := 150) rfl)) rfl
theorem q_252 : Cond.selects "java/lang/IllegalStateException" ⟨"java/lang/Throwable", "fillInStackTrace", "()Ljava/lang/Throwable;"⟩ ⟨"java/lang/Throwable", "fillInStackTrace", "()Ljava/lang/Throwable;"⟩ ∈ sw_all := sw_q (qt_2 _ (List.mem_of_getElem? (i := 151) rfl)) rfl
theorem q_253 : Cond.selects "java/lang/UnsupportedOperationException" ⟨"java/lang/Throwable", "fillInStackTrace", "()Ljava/lang/Throwable;"⟩ ⟨"java/lang/Throwable", "fillInStackTrace", "()Ljava/lang/Throwable;"⟩ ∈ sw_all := sw_q (qt_2 _ (List.mem_of_getElem? (i := 152) rfl)) rfl
theorem q_254 : Cond.selects "java/util/NoSuchElementException" ⟨"java/lang/Throwable", "fillInStackTrace", "()Ljava/lang/Throwable;"⟩ ⟨"java/lang/Throwable", "fillInStackTrace", "()Ljava/lang/Throwable;"⟩ ∈ sw_all := sw_q (qt_2 _ (List.mem_of_getElem? (i := 153) rfl)) rfl
theorem q_255 : Cond.methodLink "java/lang/Throwable" 202 ⟨"java/lang/Throwable", "fillInStackTrace", "(I)Ljava/lang/Throwable;"⟩ ∈ sw_all := sw_q (qt_2 _ (List.mem_of_getElem? (i := 155) rfl)) rfl
theorem q_256 : Cond.instanceMethod ⟨"java/lang/Throwable", "fillInStackTrace", "(I)Ljava/lang/Throwable;"⟩ ∈ sw_all := sw_q (qt_2 _ (List.mem_of_getElem? (i := 157) rfl)) rfl
theorem q_257 : Cond.instantiable "java/lang/Throwable" 6 ∈ sw_all := sw_q (qt_2 _ (List.mem_of_getElem? (i := 158) rfl)) rfl
theorem q_258 : Cond.native ⟨"java/lang/Throwable", "fillInStackTrace", "(I)Ljava/lang/Throwable;"⟩ ∈ sw_all := sw_q (qt_2 _ (List.mem_of_getElem? (i := 159) rfl)) rfl
theorem q_259 : Cond.methodLink RX6 300 ⟨"java/lang/IndexOutOfBoundsException", "<init>", "()V"⟩ ∈ sw_all := sw_q (qt_2 _ (List.mem_of_getElem? (i := 160) rfl)) rfl
theorem q_260 : Cond.instanceMethod ⟨"java/lang/IndexOutOfBoundsException", "<init>", "()V"⟩ ∈ sw_all := sw_q (qt_2 _ (List.mem_of_getElem? (i := 161) rfl)) rfl
theorem q_261 : Cond.code ⟨"java/lang/IndexOutOfBoundsException", "<init>", "()V"⟩ prog_18_method_1_code 1 none ∈ sw_all := sw_q (qt_2 _ (List.mem_of_getElem? (i := 162) rfl)) rfl
theorem q_262 : Cond.methodLink "java/lang/IndexOutOfBoundsException" 1 ⟨"java/lang/RuntimeException", "<init>", "()V"⟩ ∈ sw_all := sw_q (qt_2 _ (List.mem_of_getElem? (i := 163) rfl)) rfl
theorem q_263 : Cond.instanceMethod ⟨"java/lang/RuntimeException", "<init>", "()V"⟩ ∈ sw_all := sw_q (qt_2 _ (List.mem_of_getElem? (i := 164) rfl)) rfl
theorem q_264 : Cond.code ⟨"java/lang/RuntimeException", "<init>", "()V"⟩ prog_21_method_1_code 1 none ∈ sw_all := sw_q (qt_2 _ (List.mem_of_getElem? (i := 165) rfl)) rfl
theorem q_265 : Cond.methodLink "java/lang/RuntimeException" 1 ⟨"java/lang/Exception", "<init>", "()V"⟩ ∈ sw_all := sw_q (qt_2 _ (List.mem_of_getElem? (i := 166) rfl)) rfl
theorem q_266 : Cond.instanceMethod ⟨"java/lang/Exception", "<init>", "()V"⟩ ∈ sw_all := sw_q (qt_2 _ (List.mem_of_getElem? (i := 167) rfl)) rfl
theorem q_267 : Cond.code ⟨"java/lang/Exception", "<init>", "()V"⟩ prog_15_method_1_code 1 none ∈ sw_all := sw_q (qt_2 _ (List.mem_of_getElem? (i := 168) rfl)) rfl
theorem q_268 : Cond.methodLink "java/lang/Exception" 1 ⟨"java/lang/Throwable", "<init>", "()V"⟩ ∈ sw_all := sw_q (qt_2 _ (List.mem_of_getElem? (i := 169) rfl)) rfl
theorem q_269 : Cond.fieldLink "java/lang/Throwable" 31 "java/lang/Throwable" "detailMessage" "Ljava/lang/String;" ∈ sw_all := sw_q (qt_2 _ (List.mem_of_getElem? (i := 171) rfl)) rfl
theorem q_270 : Cond.fieldLink "java/lang/Throwable" 7 "java/lang/Throwable" "cause" "Ljava/lang/Throwable;" ∈ sw_all := sw_q (qt_2 _ (List.mem_of_getElem? (i := 172) rfl)) rfl
theorem q_271 : Cond.fieldLink "java/lang/Throwable" 17 "java/lang/Throwable" "stackTrace" "[Ljava/lang/StackTraceElement;" ∈ sw_all := sw_q (qt_2 _ (List.mem_of_getElem? (i := 173) rfl)) rfl
theorem q_272 : Cond.fieldLink "java/lang/Throwable" 24 "java/lang/Throwable" "suppressedExceptions" "Ljava/util/List;" ∈ sw_all := sw_q (qt_2 _ (List.mem_of_getElem? (i := 174) rfl)) rfl
theorem q_273 : Cond.classLink RX6 201 "java/lang/IllegalArgumentException" ∈ sw_all := sw_q (qt_2 _ (List.mem_of_getElem? (i := 183) rfl)) rfl
theorem q_274 : Cond.instantiable "java/lang/IllegalArgumentException" 6 ∈ sw_all := sw_q (qt_2 _ (List.mem_of_getElem? (i := 184) rfl)) rfl
theorem q_275 : Cond.selects "java/lang/IllegalArgumentException" ⟨"java/lang/Throwable", "fillInStackTrace", "(I)Ljava/lang/Throwable;"⟩ ⟨"java/lang/Throwable", "fillInStackTrace", "(I)Ljava/lang/Throwable;"⟩ ∈ sw_all := sw_q (qt_2 _ (List.mem_of_getElem? (i := 186) rfl)) rfl
theorem q_276 : Cond.methodLink RX6 203 ⟨"java/lang/IllegalArgumentException", "<init>", "()V"⟩ ∈ sw_all := sw_q (qt_2 _ (List.mem_of_getElem? (i := 192) rfl)) rfl
theorem q_277 : Cond.instanceMethod ⟨"java/lang/IllegalArgumentException", "<init>", "()V"⟩ ∈ sw_all := sw_q (qt_2 _ (List.mem_of_getElem? (i := 193) rfl)) rfl
theorem q_278 : Cond.code ⟨"java/lang/IllegalArgumentException", "<init>", "()V"⟩ prog_16_method_1_code 1 none ∈ sw_all := sw_q (qt_2 _ (List.mem_of_getElem? (i := 194) rfl)) rfl
theorem q_279 : Cond.methodLink "java/lang/IllegalArgumentException" 1 ⟨"java/lang/RuntimeException", "<init>", "()V"⟩ ∈ sw_all := sw_q (qt_2 _ (List.mem_of_getElem? (i := 195) rfl)) rfl
theorem q_280 : Cond.classLink RX6 252 "java/lang/IllegalStateException" ∈ sw_all := sw_q (qt_2 _ (List.mem_of_getElem? (i := 198) rfl)) rfl
theorem q_281 : Cond.instantiable "java/lang/IllegalStateException" 6 ∈ sw_all := sw_q (qt_2 _ (List.mem_of_getElem? (i := 199) rfl)) rfl
theorem q_282 : Cond.selects "java/lang/IllegalStateException" ⟨"java/lang/Throwable", "fillInStackTrace", "(I)Ljava/lang/Throwable;"⟩ ⟨"java/lang/Throwable", "fillInStackTrace", "(I)Ljava/lang/Throwable;"⟩ ∈ sw_all := sw_q (qt_2 _ (List.mem_of_getElem? (i := 201) rfl)) rfl
theorem q_283 : Cond.methodLink RX6 254 ⟨"java/lang/IllegalStateException", "<init>", "()V"⟩ ∈ sw_all := sw_q (qt_2 _ (List.mem_of_getElem? (i := 207) rfl)) rfl
theorem q_284 : Cond.instanceMethod ⟨"java/lang/IllegalStateException", "<init>", "()V"⟩ ∈ sw_all := sw_q (qt_2 _ (List.mem_of_getElem? (i := 208) rfl)) rfl
theorem q_285 : Cond.code ⟨"java/lang/IllegalStateException", "<init>", "()V"⟩ prog_17_method_1_code 1 none ∈ sw_all := sw_q (qt_2 _ (List.mem_of_getElem? (i := 209) rfl)) rfl
theorem q_286 : Cond.methodLink "java/lang/IllegalStateException" 1 ⟨"java/lang/RuntimeException", "<init>", "()V"⟩ ∈ sw_all := sw_q (qt_2 _ (List.mem_of_getElem? (i := 210) rfl)) rfl
theorem q_287 : Cond.classLink RX6 284 "java/lang/UnsupportedOperationException" ∈ sw_all := sw_q (qt_2 _ (List.mem_of_getElem? (i := 213) rfl)) rfl
theorem q_288 : Cond.instantiable "java/lang/UnsupportedOperationException" 6 ∈ sw_all := sw_q (qt_2 _ (List.mem_of_getElem? (i := 214) rfl)) rfl
theorem q_289 : Cond.selects "java/lang/UnsupportedOperationException" ⟨"java/lang/Throwable", "fillInStackTrace", "(I)Ljava/lang/Throwable;"⟩ ⟨"java/lang/Throwable", "fillInStackTrace", "(I)Ljava/lang/Throwable;"⟩ ∈ sw_all := sw_q (qt_2 _ (List.mem_of_getElem? (i := 216) rfl)) rfl
theorem q_290 : Cond.methodLink RX6 286 ⟨"java/lang/UnsupportedOperationException", "<init>", "()V"⟩ ∈ sw_all := sw_q (qt_2 _ (List.mem_of_getElem? (i := 222) rfl)) rfl
theorem q_291 : Cond.instanceMethod ⟨"java/lang/UnsupportedOperationException", "<init>", "()V"⟩ ∈ sw_all := sw_q (qt_2 _ (List.mem_of_getElem? (i := 223) rfl)) rfl
theorem q_292 : Cond.code ⟨"java/lang/UnsupportedOperationException", "<init>", "()V"⟩ prog_27_method_1_code 1 none ∈ sw_all := sw_q (qt_2 _ (List.mem_of_getElem? (i := 224) rfl)) rfl
theorem q_293 : Cond.methodLink "java/lang/UnsupportedOperationException" 1 ⟨"java/lang/RuntimeException", "<init>", "()V"⟩ ∈ sw_all := sw_q (qt_2 _ (List.mem_of_getElem? (i := 225) rfl)) rfl
theorem q_294 : Cond.classLink RX6 319 "java/util/NoSuchElementException" ∈ sw_all := sw_q (qt_2 _ (List.mem_of_getElem? (i := 228) rfl)) rfl
theorem q_295 : Cond.instantiable "java/util/NoSuchElementException" 6 ∈ sw_all := sw_q (qt_2 _ (List.mem_of_getElem? (i := 229) rfl)) rfl
theorem q_296 : Cond.selects "java/util/NoSuchElementException" ⟨"java/lang/Throwable", "fillInStackTrace", "(I)Ljava/lang/Throwable;"⟩ ⟨"java/lang/Throwable", "fillInStackTrace", "(I)Ljava/lang/Throwable;"⟩ ∈ sw_all := sw_q (qt_2 _ (List.mem_of_getElem? (i := 231) rfl)) rfl
theorem q_297 : Cond.methodLink RX6 321 ⟨"java/util/NoSuchElementException", "<init>", "()V"⟩ ∈ sw_all := sw_q (qt_2 _ (List.mem_of_getElem? (i := 237) rfl)) rfl
theorem q_298 : Cond.instanceMethod ⟨"java/util/NoSuchElementException", "<init>", "()V"⟩ ∈ sw_all := sw_q (qt_2 _ (List.mem_of_getElem? (i := 238) rfl)) rfl
theorem q_299 : Cond.code ⟨"java/util/NoSuchElementException", "<init>", "()V"⟩ prog_30_method_1_code 1 none ∈ sw_all := sw_q (qt_2 _ (List.mem_of_getElem? (i := 239) rfl)) rfl
theorem q_300 : Cond.methodLink "java/util/NoSuchElementException" 1 ⟨"java/lang/RuntimeException", "<init>", "()V"⟩ ∈ sw_all := sw_q (qt_3 _ (List.mem_of_getElem? (i := 0) rfl)) rfl
theorem q_301 : Cond.methodLink RX6 287 yX0_commit ∈ sw_all := sw_q (qt_3 _ (List.mem_of_getElem? (i := 3) rfl)) rfl
theorem q_302 : Cond.instanceMethod yX0_commit ∈ sw_all := sw_q (qt_3 _ (List.mem_of_getElem? (i := 4) rfl)) rfl
theorem q_303 : Cond.selects RX0 yX0_commit yX0_commit ∈ sw_all := sw_q (qt_3 _ (List.mem_of_getElem? (i := 5) rfl)) rfl
theorem q_304 : Cond.code yX0_commit prog_2_method_4_code 1 none ∈ sw_all := sw_q (qt_3 _ (List.mem_of_getElem? (i := 6) rfl)) rfl
theorem q_305 : Cond.methodLink RX0 27 yJ9_min_7cf53 ∈ sw_all := sw_q (qt_3 _ (List.mem_of_getElem? (i := 7) rfl)) rfl
theorem q_306 : Cond.static yJ9_min_7cf53 ∈ sw_all := sw_q (qt_3 _ (List.mem_of_getElem? (i := 8) rfl)) rfl
theorem q_307 : Cond.code yJ9_min_7cf53 prog_20_method_69_code 2 (Option.some .int) ∈ sw_all := sw_q (qt_3 _ (List.mem_of_getElem? (i := 9) rfl)) rfl
theorem q_308 : Cond.methodLink RL 201 yX6_doorCount ∈ sw_all := sw_q (qt_3 _ (List.mem_of_getElem? (i := 10) rfl)) rfl
theorem q_309 : Cond.instanceMethod yX6_doorCount ∈ sw_all := sw_q (qt_3 _ (List.mem_of_getElem? (i := 11) rfl)) rfl
theorem q_310 : Cond.selects RX6 yX6_doorCount yX6_doorCount ∈ sw_all := sw_q (qt_3 _ (List.mem_of_getElem? (i := 12) rfl)) rfl
theorem q_311 : Cond.code yX6_doorCount prog_1_method_12_code 1 (Option.some .int) ∈ sw_all := sw_q (qt_3 _ (List.mem_of_getElem? (i := 13) rfl)) rfl
theorem q_312 : Cond.methodLink RL 232 yX6_examinerCount ∈ sw_all := sw_q (qt_3 _ (List.mem_of_getElem? (i := 14) rfl)) rfl
theorem q_313 : Cond.instanceMethod yX6_examinerCount ∈ sw_all := sw_q (qt_3 _ (List.mem_of_getElem? (i := 15) rfl)) rfl
theorem q_314 : Cond.selects RX6 yX6_examinerCount yX6_examinerCount ∈ sw_all := sw_q (qt_3 _ (List.mem_of_getElem? (i := 16) rfl)) rfl
theorem q_315 : Cond.code yX6_examinerCount prog_1_method_22_code 1 (Option.some .int) ∈ sw_all := sw_q (qt_3 _ (List.mem_of_getElem? (i := 17) rfl)) rfl
theorem q_316 : Cond.methodLink RL 254 yX6_planSize ∈ sw_all := sw_q (qt_3 _ (List.mem_of_getElem? (i := 18) rfl)) rfl
theorem q_317 : Cond.instanceMethod yX6_planSize ∈ sw_all := sw_q (qt_3 _ (List.mem_of_getElem? (i := 19) rfl)) rfl
theorem q_318 : Cond.selects RX6 yX6_planSize yX6_planSize ∈ sw_all := sw_q (qt_3 _ (List.mem_of_getElem? (i := 20) rfl)) rfl
theorem q_319 : Cond.code yX6_planSize prog_1_method_29_code 1 (Option.some .int) ∈ sw_all := sw_q (qt_3 _ (List.mem_of_getElem? (i := 21) rfl)) rfl
theorem q_320 : Cond.methodLink RX6 188 yX3_sizeByExchanges ∈ sw_all := sw_q (qt_3 _ (List.mem_of_getElem? (i := 22) rfl)) rfl
theorem q_321 : Cond.instanceMethod yX3_sizeByExchanges ∈ sw_all := sw_q (qt_3 _ (List.mem_of_getElem? (i := 23) rfl)) rfl
theorem q_322 : Cond.selects RX3 yX3_sizeByExchanges yX3_sizeByExchanges ∈ sw_all := sw_q (qt_3 _ (List.mem_of_getElem? (i := 24) rfl)) rfl
theorem q_323 : Cond.code yX3_sizeByExchanges prog_5_method_2_code 2 (Option.some .int) ∈ sw_all := sw_q (qt_3 _ (List.mem_of_getElem? (i := 25) rfl)) rfl
theorem q_324 : Cond.methodLink RL 258 yX6_planSizeBySets ∈ sw_all := sw_q (qt_3 _ (List.mem_of_getElem? (i := 26) rfl)) rfl
theorem q_325 : Cond.instanceMethod yX6_planSizeBySets ∈ sw_all := sw_q (qt_3 _ (List.mem_of_getElem? (i := 27) rfl)) rfl
theorem q_326 : Cond.selects RX6 yX6_planSizeBySets yX6_planSizeBySets ∈ sw_all := sw_q (qt_3 _ (List.mem_of_getElem? (i := 28) rfl)) rfl
theorem q_327 : Cond.code yX6_planSizeBySets prog_1_method_30_code 1 (Option.some .int) ∈ sw_all := sw_q (qt_3 _ (List.mem_of_getElem? (i := 29) rfl)) rfl
theorem q_328 : Cond.methodLink RX6 192 yX3_sizeBySets ∈ sw_all := sw_q (qt_3 _ (List.mem_of_getElem? (i := 30) rfl)) rfl
theorem q_329 : Cond.instanceMethod yX3_sizeBySets ∈ sw_all := sw_q (qt_3 _ (List.mem_of_getElem? (i := 31) rfl)) rfl
theorem q_330 : Cond.selects RX3 yX3_sizeBySets yX3_sizeBySets ∈ sw_all := sw_q (qt_3 _ (List.mem_of_getElem? (i := 32) rfl)) rfl
theorem q_331 : Cond.code yX3_sizeBySets prog_5_method_3_code 4 (Option.some .int) ∈ sw_all := sw_q (qt_3 _ (List.mem_of_getElem? (i := 33) rfl)) rfl
theorem q_332 : Cond.methodLink RX3 49 yX3_extendSets ∈ sw_all := sw_q (qt_3 _ (List.mem_of_getElem? (i := 34) rfl)) rfl
theorem q_333 : Cond.instanceMethod yX3_extendSets ∈ sw_all := sw_q (qt_3 _ (List.mem_of_getElem? (i := 36) rfl)) rfl
theorem q_334 : Cond.code yX3_extendSets prog_5_method_12_code 4 none ∈ sw_all := sw_q (qt_3 _ (List.mem_of_getElem? (i := 37) rfl)) rfl
theorem q_335 : Cond.methodLink RX3 53 yJ6_bitCount_0f7a4 ∈ sw_all := sw_q (qt_3 _ (List.mem_of_getElem? (i := 38) rfl)) rfl
theorem q_336 : Cond.methodLink RX3 58 yJ9_max_7cf53 ∈ sw_all := sw_q (qt_3 _ (List.mem_of_getElem? (i := 39) rfl)) rfl
theorem q_337 : Cond.static yJ9_max_7cf53 ∈ sw_all := sw_q (qt_3 _ (List.mem_of_getElem? (i := 40) rfl)) rfl
theorem q_338 : Cond.code yJ9_max_7cf53 prog_20_method_65_code 2 (Option.some .int) ∈ sw_all := sw_q (qt_3 _ (List.mem_of_getElem? (i := 41) rfl)) rfl
theorem q_339 : Cond.methodLink RL 274 yX6_threshold ∈ sw_all := sw_q (qt_3 _ (List.mem_of_getElem? (i := 42) rfl)) rfl
theorem q_340 : Cond.instanceMethod yX6_threshold ∈ sw_all := sw_q (qt_3 _ (List.mem_of_getElem? (i := 43) rfl)) rfl
theorem q_341 : Cond.selects RX6 yX6_threshold yX6_threshold ∈ sw_all := sw_q (qt_3 _ (List.mem_of_getElem? (i := 44) rfl)) rfl
theorem q_342 : Cond.code yX6_threshold prog_1_method_35_code 1 (Option.some .int) ∈ sw_all := sw_q (qt_3 _ (List.mem_of_getElem? (i := 45) rfl)) rfl
theorem q_343 : Cond.methodLink RL 278 yX6_entryCount ∈ sw_all := sw_q (qt_3 _ (List.mem_of_getElem? (i := 46) rfl)) rfl
theorem q_344 : Cond.instanceMethod yX6_entryCount ∈ sw_all := sw_q (qt_3 _ (List.mem_of_getElem? (i := 47) rfl)) rfl
theorem q_345 : Cond.selects RX6 yX6_entryCount yX6_entryCount ∈ sw_all := sw_q (qt_3 _ (List.mem_of_getElem? (i := 48) rfl)) rfl
theorem q_346 : Cond.code yX6_entryCount prog_1_method_36_code 1 (Option.some .int) ∈ sw_all := sw_q (qt_3 _ (List.mem_of_getElem? (i := 49) rfl)) rfl
theorem q_347 : Cond.methodLink RL 288 yX6_assignments ∈ sw_all := sw_q (qt_3 _ (List.mem_of_getElem? (i := 50) rfl)) rfl
theorem q_348 : Cond.instanceMethod yX6_assignments ∈ sw_all := sw_q (qt_3 _ (List.mem_of_getElem? (i := 51) rfl)) rfl
theorem q_349 : Cond.selects RX6 yX6_assignments yX6_assignments ∈ sw_all := sw_q (qt_3 _ (List.mem_of_getElem? (i := 52) rfl)) rfl
theorem q_350 : Cond.code yX6_assignments prog_1_method_39_code 3 (Option.some .int) ∈ sw_all := sw_q (qt_3 _ (List.mem_of_getElem? (i := 53) rfl)) rfl
theorem q_351 : Cond.methodLink RX6 168 yX5_loadOf ∈ sw_all := sw_q (qt_3 _ (List.mem_of_getElem? (i := 54) rfl)) rfl
theorem q_352 : Cond.methodLink RL 292 yX6_assignmentsByDoors ∈ sw_all := sw_q (qt_3 _ (List.mem_of_getElem? (i := 55) rfl)) rfl
theorem q_353 : Cond.instanceMethod yX6_assignmentsByDoors ∈ sw_all := sw_q (qt_3 _ (List.mem_of_getElem? (i := 56) rfl)) rfl
theorem q_354 : Cond.selects RX6 yX6_assignmentsByDoors yX6_assignmentsByDoors ∈ sw_all := sw_q (qt_3 _ (List.mem_of_getElem? (i := 57) rfl)) rfl
theorem q_355 : Cond.code yX6_assignmentsByDoors prog_1_method_40_code 3 (Option.some .int) ∈ sw_all := sw_q (qt_3 _ (List.mem_of_getElem? (i := 58) rfl)) rfl
theorem q_356 : Cond.methodLink RX6 130 yX5_assignedCount ∈ sw_all := sw_q (qt_3 _ (List.mem_of_getElem? (i := 59) rfl)) rfl
theorem q_357 : Cond.methodLink RL 296 yX6_gradeTotal ∈ sw_all := sw_q (qt_3 _ (List.mem_of_getElem? (i := 60) rfl)) rfl
theorem q_358 : Cond.instanceMethod yX6_gradeTotal ∈ sw_all := sw_q (qt_3 _ (List.mem_of_getElem? (i := 61) rfl)) rfl
theorem q_359 : Cond.selects RX6 yX6_gradeTotal yX6_gradeTotal ∈ sw_all := sw_q (qt_3 _ (List.mem_of_getElem? (i := 62) rfl)) rfl
theorem q_360 : Cond.code yX6_gradeTotal prog_1_method_41_code 4 (Option.some .long) ∈ sw_all := sw_q (qt_3 _ (List.mem_of_getElem? (i := 63) rfl)) rfl
theorem q_361 : Cond.methodLink RX6 225 yX5_gradeSum ∈ sw_all := sw_q (qt_3 _ (List.mem_of_getElem? (i := 64) rfl)) rfl
theorem q_362 : Cond.instanceMethod yX5_gradeSum ∈ sw_all := sw_q (qt_3 _ (List.mem_of_getElem? (i := 65) rfl)) rfl
theorem q_363 : Cond.selects RX5 yX5_gradeSum yX5_gradeSum ∈ sw_all := sw_q (qt_3 _ (List.mem_of_getElem? (i := 66) rfl)) rfl
theorem q_364 : Cond.code yX5_gradeSum prog_7_method_15_code 4 (Option.some .int) ∈ sw_all := sw_q (qt_3 _ (List.mem_of_getElem? (i := 67) rfl)) rfl
theorem q_365 : Cond.methodLink RL 308 yX6_isConsistent ∈ sw_all := sw_q (qt_3 _ (List.mem_of_getElem? (i := 68) rfl)) rfl
theorem q_366 : Cond.instanceMethod yX6_isConsistent ∈ sw_all := sw_q (qt_3 _ (List.mem_of_getElem? (i := 69) rfl)) rfl
theorem q_367 : Cond.selects RX6 yX6_isConsistent yX6_isConsistent ∈ sw_all := sw_q (qt_3 _ (List.mem_of_getElem? (i := 70) rfl)) rfl
theorem q_368 : Cond.code yX6_isConsistent prog_1_method_44_code 1 (Option.some .boolean) ∈ sw_all := sw_q (qt_3 _ (List.mem_of_getElem? (i := 71) rfl)) rfl
theorem q_369 : Cond.methodLink RX6 235 yX6_assignments ∈ sw_all := sw_q (qt_3 _ (List.mem_of_getElem? (i := 72) rfl)) rfl
theorem q_370 : Cond.methodLink RX6 239 yX6_assignmentsByDoors ∈ sw_all := sw_q (qt_3 _ (List.mem_of_getElem? (i := 73) rfl)) rfl
theorem q_371 : Cond.methodLink RX6 242 yX6_panelCountsAgree ∈ sw_all := sw_q (qt_3 _ (List.mem_of_getElem? (i := 74) rfl)) rfl
theorem q_372 : Cond.instanceMethod yX6_panelCountsAgree ∈ sw_all := sw_q (qt_3 _ (List.mem_of_getElem? (i := 76) rfl)) rfl
theorem q_373 : Cond.code yX6_panelCountsAgree prog_1_method_62_code 2 (Option.some .boolean) ∈ sw_all := sw_q (qt_3 _ (List.mem_of_getElem? (i := 77) rfl)) rfl
theorem q_374 : Cond.methodLink RX6 195 yX2_countByTrying ∈ sw_all := sw_q (qt_3 _ (List.mem_of_getElem? (i := 78) rfl)) rfl
theorem q_375 : Cond.instanceMethod yX2_countByTrying ∈ sw_all := sw_q (qt_3 _ (List.mem_of_getElem? (i := 79) rfl)) rfl
theorem q_376 : Cond.selects RX2 yX2_countByTrying yX2_countByTrying ∈ sw_all := sw_q (qt_3 _ (List.mem_of_getElem? (i := 80) rfl)) rfl
theorem q_377 : Cond.code yX2_countByTrying prog_4_method_2_code 7 (Option.some .int) ∈ sw_all := sw_q (qt_3 _ (List.mem_of_getElem? (i := 81) rfl)) rfl
theorem q_378 : Cond.methodLink RX2 15 yX2_isPanel ∈ sw_all := sw_q (qt_3 _ (List.mem_of_getElem? (i := 82) rfl)) rfl
theorem q_379 : Cond.static yX2_isPanel ∈ sw_all := sw_q (qt_3 _ (List.mem_of_getElem? (i := 83) rfl)) rfl
theorem q_380 : Cond.code yX2_isPanel prog_4_method_7_code 5 (Option.some .boolean) ∈ sw_all := sw_q (qt_3 _ (List.mem_of_getElem? (i := 84) rfl)) rfl
theorem q_381 : Cond.methodLink RX2 61 yX2_suits ∈ sw_all := sw_q (qt_3 _ (List.mem_of_getElem? (i := 85) rfl)) rfl
theorem q_382 : Cond.static yX2_suits ∈ sw_all := sw_q (qt_3 _ (List.mem_of_getElem? (i := 86) rfl)) rfl
theorem q_383 : Cond.code yX2_suits prog_4_method_8_code 3 (Option.some .boolean) ∈ sw_all := sw_q (qt_3 _ (List.mem_of_getElem? (i := 87) rfl)) rfl
theorem q_384 : Cond.methodLink RX2 69 yX5_hasExaminer ∈ sw_all := sw_q (qt_3 _ (List.mem_of_getElem? (i := 88) rfl)) rfl
theorem q_385 : Cond.methodLink RX2 72 yX5_neutral ∈ sw_all := sw_q (qt_3 _ (List.mem_of_getElem? (i := 89) rfl)) rfl
theorem q_386 : Cond.methodLink RX2 75 yX5_assigned ∈ sw_all := sw_q (qt_3 _ (List.mem_of_getElem? (i := 90) rfl)) rfl
theorem q_387 : Cond.methodLink RX6 198 yX2_countByFrames ∈ sw_all := sw_q (qt_3 _ (List.mem_of_getElem? (i := 91) rfl)) rfl
theorem q_388 : Cond.instanceMethod yX2_countByFrames ∈ sw_all := sw_q (qt_3 _ (List.mem_of_getElem? (i := 92) rfl)) rfl
theorem q_389 : Cond.selects RX2 yX2_countByFrames yX2_countByFrames ∈ sw_all := sw_q (qt_3 _ (List.mem_of_getElem? (i := 93) rfl)) rfl
theorem q_390 : Cond.code yX2_countByFrames prog_4_method_3_code 7 (Option.some .int) ∈ sw_all := sw_q (qt_3 _ (List.mem_of_getElem? (i := 94) rfl)) rfl
theorem q_391 : Cond.methodLink RX2 19 yX2_suitableWithFrame ∈ sw_all := sw_q (qt_3 _ (List.mem_of_getElem? (i := 95) rfl)) rfl
theorem q_392 : Cond.static yX2_suitableWithFrame ∈ sw_all := sw_q (qt_3 _ (List.mem_of_getElem? (i := 96) rfl)) rfl
theorem q_393 : Cond.code yX2_suitableWithFrame prog_4_method_9_code 5 (Option.some .int) ∈ sw_all := sw_q (qt_3 _ (List.mem_of_getElem? (i := 97) rfl)) rfl
theorem q_394 : Cond.methodLink RX6 246 yX6_framesDiffer ∈ sw_all := sw_q (qt_3 _ (List.mem_of_getElem? (i := 98) rfl)) rfl
theorem q_395 : Cond.instanceMethod yX6_framesDiffer ∈ sw_all := sw_q (qt_3 _ (List.mem_of_getElem? (i := 100) rfl)) rfl
theorem q_396 : Cond.code yX6_framesDiffer prog_1_method_63_code 3 (Option.some .boolean) ∈ sw_all := sw_q (qt_3 _ (List.mem_of_getElem? (i := 101) rfl)) rfl
theorem q_397 : Cond.methodLink RX6 181 yX5_assigned ∈ sw_all := sw_q (qt_3 _ (List.mem_of_getElem? (i := 102) rfl)) rfl
theorem q_398 : Cond.methodLink RL 339 yX6_save ∈ sw_all := sw_q (qt_3 _ (List.mem_of_getElem? (i := 103) rfl)) rfl
theorem q_399 : Cond.instanceMethod yX6_save ∈ sw_all := sw_q (qt_3 _ (List.mem_of_getElem? (i := 104) rfl)) rfl
theorem q_400 : Cond.selects RX6 yX6_save yX6_save ∈ sw_all := sw_q (qt_3 _ (List.mem_of_getElem? (i := 105) rfl)) rfl
theorem q_401 : Cond.code yX6_save prog_1_method_53_code 1 none ∈ sw_all := sw_q (qt_3 _ (List.mem_of_getElem? (i := 106) rfl)) rfl
theorem q_402 : Cond.methodLink RX6 310 yX5_copyFrom ∈ sw_all := sw_q (qt_3 _ (List.mem_of_getElem? (i := 107) rfl)) rfl
theorem q_403 : Cond.methodLink RL 160 yL_addDoor ∈ sw_all := sw_q (qt_3 _ (List.mem_of_getElem? (i := 108) rfl)) rfl
theorem q_404 : Cond.static yL_addDoor ∈ sw_all := sw_q (qt_3 _ (List.mem_of_getElem? (i := 109) rfl)) rfl
theorem q_405 : Cond.classLink RL 13 "java/lang/IllegalArgumentException" ∈ sw_all := sw_q (qt_3 _ (List.mem_of_getElem? (i := 111) rfl)) rfl
theorem q_406 : Cond.classLink RL 15 "java/lang/IllegalStateException" ∈ sw_all := sw_q (qt_3 _ (List.mem_of_getElem? (i := 112) rfl)) rfl
theorem q_407 : Cond.methodLink RL 7 yX6_addDoor ∈ sw_all := sw_q (qt_3 _ (List.mem_of_getElem? (i := 113) rfl)) rfl
theorem q_408 : Cond.instanceMethod yX6_addDoor ∈ sw_all := sw_q (qt_3 _ (List.mem_of_getElem? (i := 114) rfl)) rfl
theorem q_409 : Cond.selects RX6 yX6_addDoor yX6_addDoor ∈ sw_all := sw_q (qt_3 _ (List.mem_of_getElem? (i := 115) rfl)) rfl
theorem q_410 : Cond.code yX6_addDoor prog_1_method_2_code 3 (Option.some .int) ∈ sw_all := sw_q (qt_3 _ (List.mem_of_getElem? (i := 116) rfl)) rfl
theorem q_411 : Cond.methodLink RX6 69 yX5_tryNewDoor ∈ sw_all := sw_q (qt_3 _ (List.mem_of_getElem? (i := 117) rfl)) rfl
theorem q_412 : Cond.instanceMethod yX5_tryNewDoor ∈ sw_all := sw_q (qt_3 _ (List.mem_of_getElem? (i := 118) rfl)) rfl
theorem q_413 : Cond.selects RX5 yX5_tryNewDoor yX5_tryNewDoor ∈ sw_all := sw_q (qt_3 _ (List.mem_of_getElem? (i := 119) rfl)) rfl
theorem q_414 : Cond.code yX5_tryNewDoor prog_7_method_24_code 3 (Option.some .int) ∈ sw_all := sw_q (qt_3 _ (List.mem_of_getElem? (i := 120) rfl)) rfl
theorem q_415 : Cond.static yX6_isFrame ∈ sw_all := sw_q (qt_3 _ (List.mem_of_getElem? (i := 122) rfl)) rfl
theorem q_416 : Cond.code yX6_isFrame prog_1_method_65_code 1 (Option.some .boolean) ∈ sw_all := sw_q (qt_3 _ (List.mem_of_getElem? (i := 123) rfl)) rfl
theorem q_417 : Cond.methodLink RL 169 yL_addExaminer ∈ sw_all := sw_q (qt_3 _ (List.mem_of_getElem? (i := 124) rfl)) rfl
theorem q_418 : Cond.static yL_addExaminer ∈ sw_all := sw_q (qt_3 _ (List.mem_of_getElem? (i := 125) rfl)) rfl
theorem q_419 : Cond.methodLink RL 17 yX6_addExaminer ∈ sw_all := sw_q (qt_3 _ (List.mem_of_getElem? (i := 127) rfl)) rfl
theorem q_420 : Cond.instanceMethod yX6_addExaminer ∈ sw_all := sw_q (qt_3 _ (List.mem_of_getElem? (i := 128) rfl)) rfl
theorem q_421 : Cond.selects RX6 yX6_addExaminer yX6_addExaminer ∈ sw_all := sw_q (qt_3 _ (List.mem_of_getElem? (i := 129) rfl)) rfl
theorem q_422 : Cond.code yX6_addExaminer prog_1_method_3_code 5 (Option.some .int) ∈ sw_all := sw_q (qt_3 _ (List.mem_of_getElem? (i := 130) rfl)) rfl
theorem q_423 : Cond.methodLink RX6 77 yX5_tryNewExaminer ∈ sw_all := sw_q (qt_3 _ (List.mem_of_getElem? (i := 131) rfl)) rfl
theorem q_424 : Cond.instanceMethod yX5_tryNewExaminer ∈ sw_all := sw_q (qt_3 _ (List.mem_of_getElem? (i := 132) rfl)) rfl
theorem q_425 : Cond.selects RX5 yX5_tryNewExaminer yX5_tryNewExaminer ∈ sw_all := sw_q (qt_3 _ (List.mem_of_getElem? (i := 133) rfl)) rfl
theorem q_426 : Cond.code yX5_tryNewExaminer prog_7_method_25_code 5 (Option.some .int) ∈ sw_all := sw_q (qt_3 _ (List.mem_of_getElem? (i := 134) rfl)) rfl
theorem q_427 : Cond.methodLink RL 173 yL_declareConflict ∈ sw_all := sw_q (qt_3 _ (List.mem_of_getElem? (i := 135) rfl)) rfl
theorem q_428 : Cond.static yL_declareConflict ∈ sw_all := sw_q (qt_3 _ (List.mem_of_getElem? (i := 136) rfl)) rfl
theorem q_429 : Cond.classLink RL 25 "java/lang/IndexOutOfBoundsException" ∈ sw_all := sw_q (qt_3 _ (List.mem_of_getElem? (i := 138) rfl)) rfl
theorem q_430 : Cond.instantiable RJx00060 6 ∈ sw_all := sw_q (qt_3 _ (List.mem_of_getElem? (i := 139) rfl)) rfl
theorem q_431 : Cond.instanceMethod yJx00060_init_a7421 ∈ sw_all := sw_q (qt_3 _ (List.mem_of_getElem? (i := 140) rfl)) rfl
theorem q_432 : Cond.code yJx00060_init_a7421 prog_12_method_2_code 2 none ∈ sw_all := sw_q (qt_3 _ (List.mem_of_getElem? (i := 141) rfl)) rfl
theorem q_433 : Cond.methodLink RJx00060 7 ⟨"java/lang/IndexOutOfBoundsException", "<init>", "(Ljava/lang/String;)V"⟩ ∈ sw_all := sw_q (qt_3 _ (List.mem_of_getElem? (i := 142) rfl)) rfl
theorem q_434 : Cond.instanceMethod ⟨"java/lang/IndexOutOfBoundsException", "<init>", "(Ljava/lang/String;)V"⟩ ∈ sw_all := sw_q (qt_3 _ (List.mem_of_getElem? (i := 143) rfl)) rfl
theorem q_435 : Cond.code ⟨"java/lang/IndexOutOfBoundsException", "<init>", "(Ljava/lang/String;)V"⟩ prog_18_method_2_code 2 none ∈ sw_all := sw_q (qt_3 _ (List.mem_of_getElem? (i := 144) rfl)) rfl
theorem q_436 : Cond.methodLink "java/lang/IndexOutOfBoundsException" 7 ⟨"java/lang/RuntimeException", "<init>", "(Ljava/lang/String;)V"⟩ ∈ sw_all := sw_q (qt_3 _ (List.mem_of_getElem? (i := 145) rfl)) rfl
theorem q_437 : Cond.instanceMethod ⟨"java/lang/RuntimeException", "<init>", "(Ljava/lang/String;)V"⟩ ∈ sw_all := sw_q (qt_3 _ (List.mem_of_getElem? (i := 146) rfl)) rfl
theorem q_438 : Cond.code ⟨"java/lang/RuntimeException", "<init>", "(Ljava/lang/String;)V"⟩ prog_21_method_2_code 2 none ∈ sw_all := sw_q (qt_3 _ (List.mem_of_getElem? (i := 147) rfl)) rfl
theorem q_439 : Cond.methodLink "java/lang/RuntimeException" 7 ⟨"java/lang/Exception", "<init>", "(Ljava/lang/String;)V"⟩ ∈ sw_all := sw_q (qt_3 _ (List.mem_of_getElem? (i := 148) rfl)) rfl
theorem q_440 : Cond.instanceMethod ⟨"java/lang/Exception", "<init>", "(Ljava/lang/String;)V"⟩ ∈ sw_all := sw_q (qt_3 _ (List.mem_of_getElem? (i := 149) rfl)) rfl
theorem q_441 : Cond.code ⟨"java/lang/Exception", "<init>", "(Ljava/lang/String;)V"⟩ prog_15_method_2_code 2 none ∈ sw_all := sw_q (qt_3 _ (List.mem_of_getElem? (i := 150) rfl)) rfl
theorem q_442 : Cond.methodLink "java/lang/Exception" 7 ⟨"java/lang/Throwable", "<init>", "(Ljava/lang/String;)V"⟩ ∈ sw_all := sw_q (qt_3 _ (List.mem_of_getElem? (i := 151) rfl)) rfl
theorem q_443 : Cond.instanceMethod ⟨"java/lang/Throwable", "<init>", "(Ljava/lang/String;)V"⟩ ∈ sw_all := sw_q (qt_3 _ (List.mem_of_getElem? (i := 152) rfl)) rfl
theorem q_444 : Cond.code ⟨"java/lang/Throwable", "<init>", "(Ljava/lang/String;)V"⟩ prog_26_method_2_code 2 none ∈ sw_all := sw_q (qt_3 _ (List.mem_of_getElem? (i := 153) rfl)) rfl
theorem q_445 : Cond.selects RJx00060 ⟨"java/lang/Throwable", "fillInStackTrace", "(I)Ljava/lang/Throwable;"⟩ ⟨"java/lang/Throwable", "fillInStackTrace", "(I)Ljava/lang/Throwable;"⟩ ∈ sw_all := sw_q (qt_3 _ (List.mem_of_getElem? (i := 164) rfl)) rfl
theorem q_446 : Cond.instantiable RJ0 4 ∈ sw_all := sw_q (qt_3 _ (List.mem_of_getElem? (i := 165) rfl)) rfl
theorem q_447 : Cond.methodLink RL 21 yX6_declareConflict ∈ sw_all := sw_q (qt_3 _ (List.mem_of_getElem? (i := 171) rfl)) rfl
theorem q_448 : Cond.instanceMethod yX6_declareConflict ∈ sw_all := sw_q (qt_3 _ (List.mem_of_getElem? (i := 172) rfl)) rfl
theorem q_449 : Cond.selects RX6 yX6_declareConflict yX6_declareConflict ∈ sw_all := sw_q (qt_3 _ (List.mem_of_getElem? (i := 173) rfl)) rfl
theorem q_450 : Cond.code yX6_declareConflict prog_1_method_4_code 3 (Option.some .int) ∈ sw_all := sw_q (qt_3 _ (List.mem_of_getElem? (i := 174) rfl)) rfl
theorem q_451 : Cond.methodLink RX6 81 yX5_tryConflict ∈ sw_all := sw_q (qt_3 _ (List.mem_of_getElem? (i := 175) rfl)) rfl
theorem q_452 : Cond.instanceMethod yX5_tryConflict ∈ sw_all := sw_q (qt_3 _ (List.mem_of_getElem? (i := 176) rfl)) rfl
theorem q_453 : Cond.selects RX5 yX5_tryConflict yX5_tryConflict ∈ sw_all := sw_q (qt_3 _ (List.mem_of_getElem? (i := 177) rfl)) rfl
theorem q_454 : Cond.code yX5_tryConflict prog_7_method_26_code 3 (Option.some .int) ∈ sw_all := sw_q (qt_3 _ (List.mem_of_getElem? (i := 178) rfl)) rfl
theorem q_455 : Cond.methodLink RX5 127 yX5_hasPair ∈ sw_all := sw_q (qt_3 _ (List.mem_of_getElem? (i := 179) rfl)) rfl
theorem q_456 : Cond.instanceMethod yX5_hasPair ∈ sw_all := sw_q (qt_3 _ (List.mem_of_getElem? (i := 180) rfl)) rfl
theorem q_457 : Cond.selects RX5 yX5_hasPair yX5_hasPair ∈ sw_all := sw_q (qt_3 _ (List.mem_of_getElem? (i := 181) rfl)) rfl
theorem q_458 : Cond.code yX5_hasPair prog_7_method_5_code 3 (Option.some .boolean) ∈ sw_all := sw_q (qt_3 _ (List.mem_of_getElem? (i := 182) rfl)) rfl
theorem q_459 : Cond.methodLink RX5 67 yX5_hasExaminer ∈ sw_all := sw_q (qt_3 _ (List.mem_of_getElem? (i := 183) rfl)) rfl
theorem q_460 : Cond.methodLink RX5 71 yX5_hasDoor ∈ sw_all := sw_q (qt_3 _ (List.mem_of_getElem? (i := 184) rfl)) rfl
theorem q_461 : Cond.instanceMethod yX5_hasDoor ∈ sw_all := sw_q (qt_3 _ (List.mem_of_getElem? (i := 185) rfl)) rfl
theorem q_462 : Cond.selects RX5 yX5_hasDoor yX5_hasDoor ∈ sw_all := sw_q (qt_3 _ (List.mem_of_getElem? (i := 186) rfl)) rfl
theorem q_463 : Cond.code yX5_hasDoor prog_7_method_3_code 2 (Option.some .boolean) ∈ sw_all := sw_q (qt_3 _ (List.mem_of_getElem? (i := 187) rfl)) rfl
theorem q_464 : Cond.methodLink RX5 130 yX5_neutralCount ∈ sw_all := sw_q (qt_3 _ (List.mem_of_getElem? (i := 188) rfl)) rfl
theorem q_465 : Cond.instanceMethod yX5_neutralCount ∈ sw_all := sw_q (qt_3 _ (List.mem_of_getElem? (i := 189) rfl)) rfl
theorem q_466 : Cond.selects RX5 yX5_neutralCount yX5_neutralCount ∈ sw_all := sw_q (qt_3 _ (List.mem_of_getElem? (i := 190) rfl)) rfl
theorem q_467 : Cond.code yX5_neutralCount prog_7_method_12_code 4 (Option.some .int) ∈ sw_all := sw_q (qt_3 _ (List.mem_of_getElem? (i := 191) rfl)) rfl
theorem q_468 : Cond.methodLink RL 177 yL_assign ∈ sw_all := sw_q (qt_3 _ (List.mem_of_getElem? (i := 192) rfl)) rfl
theorem q_469 : Cond.static yL_assign ∈ sw_all := sw_q (qt_3 _ (List.mem_of_getElem? (i := 193) rfl)) rfl
theorem q_470 : Cond.classLink RL 30 "java/lang/UnsupportedOperationException" ∈ sw_all := sw_q (qt_3 _ (List.mem_of_getElem? (i := 195) rfl)) rfl
theorem q_471 : Cond.methodLink RL 27 yX6_assign ∈ sw_all := sw_q (qt_3 _ (List.mem_of_getElem? (i := 196) rfl)) rfl
theorem q_472 : Cond.instanceMethod yX6_assign ∈ sw_all := sw_q (qt_3 _ (List.mem_of_getElem? (i := 197) rfl)) rfl
theorem q_473 : Cond.selects RX6 yX6_assign yX6_assign ∈ sw_all := sw_q (qt_3 _ (List.mem_of_getElem? (i := 198) rfl)) rfl
theorem q_474 : Cond.code yX6_assign prog_1_method_5_code 3 (Option.some .int) ∈ sw_all := sw_q (qt_3 _ (List.mem_of_getElem? (i := 199) rfl)) rfl
theorem q_475 : Cond.methodLink RX6 85 yX5_tryAssignment ∈ sw_all := sw_q (qt_3 _ (List.mem_of_getElem? (i := 200) rfl)) rfl
theorem q_476 : Cond.instanceMethod yX5_tryAssignment ∈ sw_all := sw_q (qt_3 _ (List.mem_of_getElem? (i := 201) rfl)) rfl
theorem q_477 : Cond.selects RX5 yX5_tryAssignment yX5_tryAssignment ∈ sw_all := sw_q (qt_3 _ (List.mem_of_getElem? (i := 202) rfl)) rfl
theorem q_478 : Cond.code yX5_tryAssignment prog_7_method_27_code 3 (Option.some .int) ∈ sw_all := sw_q (qt_3 _ (List.mem_of_getElem? (i := 203) rfl)) rfl
theorem q_479 : Cond.methodLink RX5 133 yX5_assignedCount ∈ sw_all := sw_q (qt_3 _ (List.mem_of_getElem? (i := 204) rfl)) rfl
theorem q_480 : Cond.methodLink RX5 136 yX5_freeCapacity ∈ sw_all := sw_q (qt_3 _ (List.mem_of_getElem? (i := 205) rfl)) rfl
theorem q_481 : Cond.methodLink RX5 139 yX5_canJudge ∈ sw_all := sw_q (qt_3 _ (List.mem_of_getElem? (i := 206) rfl)) rfl
theorem q_482 : Cond.methodLink RL 184 yL_grade ∈ sw_all := sw_q (qt_3 _ (List.mem_of_getElem? (i := 207) rfl)) rfl
theorem q_483 : Cond.static yL_grade ∈ sw_all := sw_q (qt_3 _ (List.mem_of_getElem? (i := 208) rfl)) rfl
theorem q_484 : Cond.methodLink RL 32 yX6_grade ∈ sw_all := sw_q (qt_3 _ (List.mem_of_getElem? (i := 210) rfl)) rfl
theorem q_485 : Cond.instanceMethod yX6_grade ∈ sw_all := sw_q (qt_3 _ (List.mem_of_getElem? (i := 211) rfl)) rfl
theorem q_486 : Cond.selects RX6 yX6_grade yX6_grade ∈ sw_all := sw_q (qt_3 _ (List.mem_of_getElem? (i := 212) rfl)) rfl
theorem q_487 : Cond.code yX6_grade prog_1_method_7_code 4 (Option.some .int) ∈ sw_all := sw_q (qt_3 _ (List.mem_of_getElem? (i := 213) rfl)) rfl
theorem q_488 : Cond.methodLink RX6 99 yX5_tryGrade ∈ sw_all := sw_q (qt_3 _ (List.mem_of_getElem? (i := 214) rfl)) rfl
theorem q_489 : Cond.instanceMethod yX5_tryGrade ∈ sw_all := sw_q (qt_3 _ (List.mem_of_getElem? (i := 215) rfl)) rfl
theorem q_490 : Cond.selects RX5 yX5_tryGrade yX5_tryGrade ∈ sw_all := sw_q (qt_3 _ (List.mem_of_getElem? (i := 216) rfl)) rfl
theorem q_491 : Cond.code yX5_tryGrade prog_7_method_29_code 4 (Option.some .int) ∈ sw_all := sw_q (qt_3 _ (List.mem_of_getElem? (i := 217) rfl)) rfl
theorem q_492 : Cond.methodLink RX5 93 yX5_gradeCount ∈ sw_all := sw_q (qt_3 _ (List.mem_of_getElem? (i := 218) rfl)) rfl
theorem q_493 : Cond.instanceMethod yX5_gradeCount ∈ sw_all := sw_q (qt_3 _ (List.mem_of_getElem? (i := 219) rfl)) rfl
theorem q_494 : Cond.selects RX5 yX5_gradeCount yX5_gradeCount ∈ sw_all := sw_q (qt_3 _ (List.mem_of_getElem? (i := 220) rfl)) rfl
theorem q_495 : Cond.code yX5_gradeCount prog_7_method_14_code 4 (Option.some .int) ∈ sw_all := sw_q (qt_3 _ (List.mem_of_getElem? (i := 221) rfl)) rfl
theorem q_496 : Cond.methodLink RL 188 yL_setThreshold ∈ sw_all := sw_q (qt_3 _ (List.mem_of_getElem? (i := 222) rfl)) rfl
theorem q_497 : Cond.static yL_setThreshold ∈ sw_all := sw_q (qt_3 _ (List.mem_of_getElem? (i := 223) rfl)) rfl
theorem q_498 : Cond.methodLink RL 36 yX6_setThreshold ∈ sw_all := sw_q (qt_3 _ (List.mem_of_getElem? (i := 225) rfl)) rfl
theorem q_499 : Cond.instanceMethod yX6_setThreshold ∈ sw_all := sw_q (qt_3 _ (List.mem_of_getElem? (i := 226) rfl)) rfl
theorem q_500 : Cond.selects RX6 yX6_setThreshold yX6_setThreshold ∈ sw_all := sw_q (qt_3 _ (List.mem_of_getElem? (i := 227) rfl)) rfl
theorem q_501 : Cond.code yX6_setThreshold prog_1_method_8_code 2 (Option.some .int) ∈ sw_all := sw_q (qt_3 _ (List.mem_of_getElem? (i := 228) rfl)) rfl
theorem q_502 : Cond.methodLink RX6 103 yX5_tryThreshold ∈ sw_all := sw_q (qt_3 _ (List.mem_of_getElem? (i := 229) rfl)) rfl
theorem q_503 : Cond.instanceMethod yX5_tryThreshold ∈ sw_all := sw_q (qt_3 _ (List.mem_of_getElem? (i := 230) rfl)) rfl
theorem q_504 : Cond.selects RX5 yX5_tryThreshold yX5_tryThreshold ∈ sw_all := sw_q (qt_3 _ (List.mem_of_getElem? (i := 231) rfl)) rfl
theorem q_505 : Cond.code yX5_tryThreshold prog_7_method_30_code 3 (Option.some .int) ∈ sw_all := sw_q (qt_3 _ (List.mem_of_getElem? (i := 232) rfl)) rfl
theorem q_506 : Cond.methodLink RL 192 yL_appeal ∈ sw_all := sw_q (qt_3 _ (List.mem_of_getElem? (i := 233) rfl)) rfl
theorem q_507 : Cond.static yL_appeal ∈ sw_all := sw_q (qt_3 _ (List.mem_of_getElem? (i := 234) rfl)) rfl
theorem q_508 : Cond.methodLink RL 40 yX6_appeal ∈ sw_all := sw_q (qt_3 _ (List.mem_of_getElem? (i := 236) rfl)) rfl
theorem q_509 : Cond.instanceMethod yX6_appeal ∈ sw_all := sw_q (qt_3 _ (List.mem_of_getElem? (i := 237) rfl)) rfl
theorem q_510 : Cond.selects RX6 yX6_appeal yX6_appeal ∈ sw_all := sw_q (qt_3 _ (List.mem_of_getElem? (i := 238) rfl)) rfl
theorem q_511 : Cond.code yX6_appeal prog_1_method_9_code 2 (Option.some .int) ∈ sw_all := sw_q (qt_3 _ (List.mem_of_getElem? (i := 239) rfl)) rfl
theorem q_512 : Cond.methodLink RX6 106 yX2_tryAppeal ∈ sw_all := sw_q (qt_4 _ (List.mem_of_getElem? (i := 0) rfl)) rfl
theorem q_513 : Cond.instanceMethod yX2_tryAppeal ∈ sw_all := sw_q (qt_4 _ (List.mem_of_getElem? (i := 1) rfl)) rfl
theorem q_514 : Cond.selects RX2 yX2_tryAppeal yX2_tryAppeal ∈ sw_all := sw_q (qt_4 _ (List.mem_of_getElem? (i := 2) rfl)) rfl
theorem q_515 : Cond.code yX2_tryAppeal prog_4_method_5_code 6 (Option.some .int) ∈ sw_all := sw_q (qt_4 _ (List.mem_of_getElem? (i := 3) rfl)) rfl
theorem q_516 : Cond.methodLink RX2 23 yX5_hasDoor ∈ sw_all := sw_q (qt_4 _ (List.mem_of_getElem? (i := 4) rfl)) rfl
theorem q_517 : Cond.methodLink RX2 29 yX5_median ∈ sw_all := sw_q (qt_4 _ (List.mem_of_getElem? (i := 5) rfl)) rfl
theorem q_518 : Cond.instanceMethod yX5_median ∈ sw_all := sw_q (qt_4 _ (List.mem_of_getElem? (i := 6) rfl)) rfl
theorem q_519 : Cond.selects RX5 yX5_median yX5_median ∈ sw_all := sw_q (qt_4 _ (List.mem_of_getElem? (i := 7) rfl)) rfl
theorem q_520 : Cond.code yX5_median prog_7_method_16_code 8 (Option.some .int) ∈ sw_all := sw_q (qt_4 _ (List.mem_of_getElem? (i := 8) rfl)) rfl
theorem q_521 : Cond.methodLink RX5 96 yX5_gradeSum ∈ sw_all := sw_q (qt_4 _ (List.mem_of_getElem? (i := 9) rfl)) rfl
theorem q_522 : Cond.methodLink RX5 99 yJ9_min_7cf53 ∈ sw_all := sw_q (qt_4 _ (List.mem_of_getElem? (i := 10) rfl)) rfl
theorem q_523 : Cond.methodLink RX5 105 yJ9_max_7cf53 ∈ sw_all := sw_q (qt_4 _ (List.mem_of_getElem? (i := 11) rfl)) rfl
theorem q_524 : Cond.methodLink RX2 44 yX2_firstFor ∈ sw_all := sw_q (qt_4 _ (List.mem_of_getElem? (i := 13) rfl)) rfl
theorem q_525 : Cond.instanceMethod yX2_firstFor ∈ sw_all := sw_q (qt_4 _ (List.mem_of_getElem? (i := 14) rfl)) rfl
theorem q_526 : Cond.selects RX2 yX2_firstFor yX2_firstFor ∈ sw_all := sw_q (qt_4 _ (List.mem_of_getElem? (i := 15) rfl)) rfl
theorem q_527 : Cond.code yX2_firstFor prog_4_method_4_code 6 (Option.some .int) ∈ sw_all := sw_q (qt_4 _ (List.mem_of_getElem? (i := 16) rfl)) rfl
theorem q_528 : Cond.methodLink RX2 48 yX2_votes ∈ sw_all := sw_q (qt_4 _ (List.mem_of_getElem? (i := 17) rfl)) rfl
theorem q_529 : Cond.static yX2_votes ∈ sw_all := sw_q (qt_4 _ (List.mem_of_getElem? (i := 18) rfl)) rfl
theorem q_530 : Cond.code yX2_votes prog_4_method_6_code 5 (Option.some .int) ∈ sw_all := sw_q (qt_4 _ (List.mem_of_getElem? (i := 19) rfl)) rfl
theorem q_531 : Cond.methodLink RL 195 yL_award ∈ sw_all := sw_q (qt_4 _ (List.mem_of_getElem? (i := 20) rfl)) rfl
theorem q_532 : Cond.static yL_award ∈ sw_all := sw_q (qt_4 _ (List.mem_of_getElem? (i := 21) rfl)) rfl
theorem q_533 : Cond.methodLink RL 43 yX6_award ∈ sw_all := sw_q (qt_4 _ (List.mem_of_getElem? (i := 23) rfl)) rfl
theorem q_534 : Cond.instanceMethod yX6_award ∈ sw_all := sw_q (qt_4 _ (List.mem_of_getElem? (i := 24) rfl)) rfl
theorem q_535 : Cond.selects RX6 yX6_award yX6_award ∈ sw_all := sw_q (qt_4 _ (List.mem_of_getElem? (i := 25) rfl)) rfl
theorem q_536 : Cond.code yX6_award prog_1_method_10_code 2 (Option.some .int) ∈ sw_all := sw_q (qt_4 _ (List.mem_of_getElem? (i := 26) rfl)) rfl
theorem q_537 : Cond.methodLink RX6 110 yX5_tryAward ∈ sw_all := sw_q (qt_4 _ (List.mem_of_getElem? (i := 27) rfl)) rfl
theorem q_538 : Cond.instanceMethod yX5_tryAward ∈ sw_all := sw_q (qt_4 _ (List.mem_of_getElem? (i := 28) rfl)) rfl
theorem q_539 : Cond.selects RX5 yX5_tryAward yX5_tryAward ∈ sw_all := sw_q (qt_4 _ (List.mem_of_getElem? (i := 29) rfl)) rfl
theorem q_540 : Cond.code yX5_tryAward prog_7_method_31_code 2 (Option.some .int) ∈ sw_all := sw_q (qt_4 _ (List.mem_of_getElem? (i := 30) rfl)) rfl
theorem q_541 : Cond.methodLink RX5 114 yX5_entryOf ∈ sw_all := sw_q (qt_4 _ (List.mem_of_getElem? (i := 31) rfl)) rfl
theorem q_542 : Cond.instanceMethod yX5_entryOf ∈ sw_all := sw_q (qt_4 _ (List.mem_of_getElem? (i := 32) rfl)) rfl
theorem q_543 : Cond.selects RX5 yX5_entryOf yX5_entryOf ∈ sw_all := sw_q (qt_4 _ (List.mem_of_getElem? (i := 33) rfl)) rfl
theorem q_544 : Cond.code yX5_entryOf prog_7_method_19_code 3 (Option.some .int) ∈ sw_all := sw_q (qt_4 _ (List.mem_of_getElem? (i := 34) rfl)) rfl
theorem q_545 : Cond.methodLink RX5 142 yX5_deservesDegree ∈ sw_all := sw_q (qt_4 _ (List.mem_of_getElem? (i := 35) rfl)) rfl
theorem q_546 : Cond.instanceMethod yX5_deservesDegree ∈ sw_all := sw_q (qt_4 _ (List.mem_of_getElem? (i := 36) rfl)) rfl
theorem q_547 : Cond.selects RX5 yX5_deservesDegree yX5_deservesDegree ∈ sw_all := sw_q (qt_4 _ (List.mem_of_getElem? (i := 37) rfl)) rfl
theorem q_548 : Cond.code yX5_deservesDegree prog_7_method_18_code 2 (Option.some .boolean) ∈ sw_all := sw_q (qt_4 _ (List.mem_of_getElem? (i := 38) rfl)) rfl
theorem q_549 : Cond.methodLink RX5 111 yX5_hasPassed ∈ sw_all := sw_q (qt_4 _ (List.mem_of_getElem? (i := 39) rfl)) rfl
theorem q_550 : Cond.instanceMethod yX5_hasPassed ∈ sw_all := sw_q (qt_4 _ (List.mem_of_getElem? (i := 40) rfl)) rfl
theorem q_551 : Cond.selects RX5 yX5_hasPassed yX5_hasPassed ∈ sw_all := sw_q (qt_4 _ (List.mem_of_getElem? (i := 41) rfl)) rfl
theorem q_552 : Cond.code yX5_hasPassed prog_7_method_17_code 3 (Option.some .boolean) ∈ sw_all := sw_q (qt_4 _ (List.mem_of_getElem? (i := 42) rfl)) rfl
theorem q_553 : Cond.methodLink RX5 108 yX5_median ∈ sw_all := sw_q (qt_4 _ (List.mem_of_getElem? (i := 43) rfl)) rfl
theorem q_554 : Cond.methodLink RL 198 yL_revoke ∈ sw_all := sw_q (qt_4 _ (List.mem_of_getElem? (i := 44) rfl)) rfl
theorem q_555 : Cond.static yL_revoke ∈ sw_all := sw_q (qt_4 _ (List.mem_of_getElem? (i := 45) rfl)) rfl
theorem q_556 : Cond.classLink RL 49 "java/util/NoSuchElementException" ∈ sw_all := sw_q (qt_4 _ (List.mem_of_getElem? (i := 47) rfl)) rfl
theorem q_557 : Cond.methodLink RL 46 yX6_revoke ∈ sw_all := sw_q (qt_4 _ (List.mem_of_getElem? (i := 48) rfl)) rfl
theorem q_558 : Cond.instanceMethod yX6_revoke ∈ sw_all := sw_q (qt_4 _ (List.mem_of_getElem? (i := 49) rfl)) rfl
theorem q_559 : Cond.selects RX6 yX6_revoke yX6_revoke ∈ sw_all := sw_q (qt_4 _ (List.mem_of_getElem? (i := 50) rfl)) rfl
theorem q_560 : Cond.code yX6_revoke prog_1_method_11_code 2 (Option.some .int) ∈ sw_all := sw_q (qt_4 _ (List.mem_of_getElem? (i := 51) rfl)) rfl
theorem q_561 : Cond.methodLink RX6 113 yX5_tryRevocation ∈ sw_all := sw_q (qt_4 _ (List.mem_of_getElem? (i := 52) rfl)) rfl
theorem q_562 : Cond.instanceMethod yX5_tryRevocation ∈ sw_all := sw_q (qt_4 _ (List.mem_of_getElem? (i := 53) rfl)) rfl
theorem q_563 : Cond.selects RX5 yX5_tryRevocation yX5_tryRevocation ∈ sw_all := sw_q (qt_4 _ (List.mem_of_getElem? (i := 54) rfl)) rfl
theorem q_564 : Cond.code yX5_tryRevocation prog_7_method_32_code 2 (Option.some .int) ∈ sw_all := sw_q (qt_4 _ (List.mem_of_getElem? (i := 55) rfl)) rfl
theorem q_565 : Cond.methodLink RX5 145 yX5_hasEntry ∈ sw_all := sw_q (qt_4 _ (List.mem_of_getElem? (i := 56) rfl)) rfl
theorem q_566 : Cond.instanceMethod yX5_hasEntry ∈ sw_all := sw_q (qt_4 _ (List.mem_of_getElem? (i := 57) rfl)) rfl
theorem q_567 : Cond.selects RX5 yX5_hasEntry yX5_hasEntry ∈ sw_all := sw_q (qt_4 _ (List.mem_of_getElem? (i := 58) rfl)) rfl
theorem q_568 : Cond.code yX5_hasEntry prog_7_method_6_code 2 (Option.some .boolean) ∈ sw_all := sw_q (qt_4 _ (List.mem_of_getElem? (i := 59) rfl)) rfl
theorem q_569 : Cond.methodLink RL 205 yL_frameOfDoor ∈ sw_all := sw_q (qt_4 _ (List.mem_of_getElem? (i := 60) rfl)) rfl
theorem q_570 : Cond.static yL_frameOfDoor ∈ sw_all := sw_q (qt_4 _ (List.mem_of_getElem? (i := 61) rfl)) rfl
theorem q_571 : Cond.methodLink RL 51 yX6_frameOfDoor ∈ sw_all := sw_q (qt_4 _ (List.mem_of_getElem? (i := 63) rfl)) rfl
theorem q_572 : Cond.instanceMethod yX6_frameOfDoor ∈ sw_all := sw_q (qt_4 _ (List.mem_of_getElem? (i := 64) rfl)) rfl
theorem q_573 : Cond.selects RX6 yX6_frameOfDoor yX6_frameOfDoor ∈ sw_all := sw_q (qt_4 _ (List.mem_of_getElem? (i := 65) rfl)) rfl
theorem q_574 : Cond.code yX6_frameOfDoor prog_1_method_13_code 2 (Option.some .char) ∈ sw_all := sw_q (qt_4 _ (List.mem_of_getElem? (i := 66) rfl)) rfl
theorem q_575 : Cond.methodLink RX6 119 yX6_requireDoor ∈ sw_all := sw_q (qt_4 _ (List.mem_of_getElem? (i := 67) rfl)) rfl
theorem q_576 : Cond.instanceMethod yX6_requireDoor ∈ sw_all := sw_q (qt_4 _ (List.mem_of_getElem? (i := 69) rfl)) rfl
theorem q_577 : Cond.code yX6_requireDoor prog_1_method_57_code 2 none ∈ sw_all := sw_q (qt_4 _ (List.mem_of_getElem? (i := 70) rfl)) rfl
theorem q_578 : Cond.methodLink RX6 322 yX5_hasDoor ∈ sw_all := sw_q (qt_4 _ (List.mem_of_getElem? (i := 71) rfl)) rfl
theorem q_579 : Cond.methodLink RL 208 yL_topic ∈ sw_all := sw_q (qt_4 _ (List.mem_of_getElem? (i := 72) rfl)) rfl
theorem q_580 : Cond.static yL_topic ∈ sw_all := sw_q (qt_4 _ (List.mem_of_getElem? (i := 73) rfl)) rfl
theorem q_581 : Cond.methodLink RL 55 yX6_topic ∈ sw_all := sw_q (qt_4 _ (List.mem_of_getElem? (i := 75) rfl)) rfl
theorem q_582 : Cond.instanceMethod yX6_topic ∈ sw_all := sw_q (qt_4 _ (List.mem_of_getElem? (i := 76) rfl)) rfl
theorem q_583 : Cond.selects RX6 yX6_topic yX6_topic ∈ sw_all := sw_q (qt_4 _ (List.mem_of_getElem? (i := 77) rfl)) rfl
theorem q_584 : Cond.code yX6_topic prog_1_method_14_code 2 (Option.some .int) ∈ sw_all := sw_q (qt_4 _ (List.mem_of_getElem? (i := 78) rfl)) rfl
theorem q_585 : Cond.methodLink RL 211 yL_examinersOf ∈ sw_all := sw_q (qt_4 _ (List.mem_of_getElem? (i := 79) rfl)) rfl
theorem q_586 : Cond.static yL_examinersOf ∈ sw_all := sw_q (qt_4 _ (List.mem_of_getElem? (i := 80) rfl)) rfl
theorem q_587 : Cond.methodLink RL 58 yX6_examinersOf ∈ sw_all := sw_q (qt_4 _ (List.mem_of_getElem? (i := 82) rfl)) rfl
theorem q_588 : Cond.instanceMethod yX6_examinersOf ∈ sw_all := sw_q (qt_4 _ (List.mem_of_getElem? (i := 83) rfl)) rfl
theorem q_589 : Cond.selects RX6 yX6_examinersOf yX6_examinersOf ∈ sw_all := sw_q (qt_4 _ (List.mem_of_getElem? (i := 84) rfl)) rfl
theorem q_590 : Cond.code yX6_examinersOf prog_1_method_15_code 2 (Option.some .int) ∈ sw_all := sw_q (qt_4 _ (List.mem_of_getElem? (i := 85) rfl)) rfl
theorem q_591 : Cond.methodLink RL 214 yL_gradesOf ∈ sw_all := sw_q (qt_4 _ (List.mem_of_getElem? (i := 86) rfl)) rfl
theorem q_592 : Cond.static yL_gradesOf ∈ sw_all := sw_q (qt_4 _ (List.mem_of_getElem? (i := 87) rfl)) rfl
theorem q_593 : Cond.methodLink RL 61 yX6_gradesOf ∈ sw_all := sw_q (qt_4 _ (List.mem_of_getElem? (i := 89) rfl)) rfl
theorem q_594 : Cond.instanceMethod yX6_gradesOf ∈ sw_all := sw_q (qt_4 _ (List.mem_of_getElem? (i := 90) rfl)) rfl
theorem q_595 : Cond.selects RX6 yX6_gradesOf yX6_gradesOf ∈ sw_all := sw_q (qt_4 _ (List.mem_of_getElem? (i := 91) rfl)) rfl
theorem q_596 : Cond.code yX6_gradesOf prog_1_method_16_code 2 (Option.some .int) ∈ sw_all := sw_q (qt_4 _ (List.mem_of_getElem? (i := 92) rfl)) rfl
theorem q_597 : Cond.methodLink RX6 133 yX5_gradeCount ∈ sw_all := sw_q (qt_4 _ (List.mem_of_getElem? (i := 93) rfl)) rfl
theorem q_598 : Cond.methodLink RL 217 yL_result ∈ sw_all := sw_q (qt_4 _ (List.mem_of_getElem? (i := 94) rfl)) rfl
theorem q_599 : Cond.static yL_result ∈ sw_all := sw_q (qt_4 _ (List.mem_of_getElem? (i := 95) rfl)) rfl
theorem q_600 : Cond.methodLink RL 64 yX6_result ∈ sw_all := sw_q (qt_4 _ (List.mem_of_getElem? (i := 97) rfl)) rfl
theorem q_601 : Cond.instanceMethod yX6_result ∈ sw_all := sw_q (qt_4 _ (List.mem_of_getElem? (i := 98) rfl)) rfl
theorem q_602 : Cond.selects RX6 yX6_result yX6_result ∈ sw_all := sw_q (qt_4 _ (List.mem_of_getElem? (i := 99) rfl)) rfl
theorem q_603 : Cond.code yX6_result prog_1_method_17_code 2 (Option.some .int) ∈ sw_all := sw_q (qt_4 _ (List.mem_of_getElem? (i := 100) rfl)) rfl
theorem q_604 : Cond.methodLink RX6 136 yX5_median ∈ sw_all := sw_q (qt_4 _ (List.mem_of_getElem? (i := 101) rfl)) rfl
theorem q_605 : Cond.methodLink RX6 139 yX6_requireThere ∈ sw_all := sw_q (qt_4 _ (List.mem_of_getElem? (i := 102) rfl)) rfl
theorem q_606 : Cond.static yX6_requireThere ∈ sw_all := sw_q (qt_4 _ (List.mem_of_getElem? (i := 103) rfl)) rfl
theorem q_607 : Cond.code yX6_requireThere prog_1_method_61_code 1 (Option.some .int) ∈ sw_all := sw_q (qt_4 _ (List.mem_of_getElem? (i := 104) rfl)) rfl
theorem q_608 : Cond.methodLink RL 220 yL_passes ∈ sw_all := sw_q (qt_4 _ (List.mem_of_getElem? (i := 105) rfl)) rfl
theorem q_609 : Cond.static yL_passes ∈ sw_all := sw_q (qt_4 _ (List.mem_of_getElem? (i := 106) rfl)) rfl
theorem q_610 : Cond.methodLink RL 67 yX6_passes ∈ sw_all := sw_q (qt_4 _ (List.mem_of_getElem? (i := 108) rfl)) rfl
theorem q_611 : Cond.instanceMethod yX6_passes ∈ sw_all := sw_q (qt_4 _ (List.mem_of_getElem? (i := 109) rfl)) rfl
theorem q_612 : Cond.selects RX6 yX6_passes yX6_passes ∈ sw_all := sw_q (qt_4 _ (List.mem_of_getElem? (i := 110) rfl)) rfl
theorem q_613 : Cond.code yX6_passes prog_1_method_18_code 2 (Option.some .boolean) ∈ sw_all := sw_q (qt_4 _ (List.mem_of_getElem? (i := 111) rfl)) rfl
theorem q_614 : Cond.methodLink RX6 142 yX5_hasPassed ∈ sw_all := sw_q (qt_4 _ (List.mem_of_getElem? (i := 112) rfl)) rfl
theorem q_615 : Cond.methodLink RL 223 yL_wasGranted ∈ sw_all := sw_q (qt_4 _ (List.mem_of_getElem? (i := 113) rfl)) rfl
theorem q_616 : Cond.static yL_wasGranted ∈ sw_all := sw_q (qt_4 _ (List.mem_of_getElem? (i := 114) rfl)) rfl
theorem q_617 : Cond.methodLink RL 71 yX6_wasGranted ∈ sw_all := sw_q (qt_4 _ (List.mem_of_getElem? (i := 116) rfl)) rfl
theorem q_618 : Cond.instanceMethod yX6_wasGranted ∈ sw_all := sw_q (qt_4 _ (List.mem_of_getElem? (i := 117) rfl)) rfl
theorem q_619 : Cond.selects RX6 yX6_wasGranted yX6_wasGranted ∈ sw_all := sw_q (qt_4 _ (List.mem_of_getElem? (i := 118) rfl)) rfl
theorem q_620 : Cond.code yX6_wasGranted prog_1_method_19_code 2 (Option.some .boolean) ∈ sw_all := sw_q (qt_4 _ (List.mem_of_getElem? (i := 119) rfl)) rfl
theorem q_621 : Cond.methodLink RX6 149 yX6_contains ∈ sw_all := sw_q (qt_4 _ (List.mem_of_getElem? (i := 120) rfl)) rfl
theorem q_622 : Cond.methodLink RL 226 yL_isEntitled ∈ sw_all := sw_q (qt_4 _ (List.mem_of_getElem? (i := 121) rfl)) rfl
theorem q_623 : Cond.static yL_isEntitled ∈ sw_all := sw_q (qt_4 _ (List.mem_of_getElem? (i := 122) rfl)) rfl
theorem q_624 : Cond.methodLink RL 74 yX6_isEntitled ∈ sw_all := sw_q (qt_4 _ (List.mem_of_getElem? (i := 124) rfl)) rfl
theorem q_625 : Cond.instanceMethod yX6_isEntitled ∈ sw_all := sw_q (qt_4 _ (List.mem_of_getElem? (i := 125) rfl)) rfl
theorem q_626 : Cond.selects RX6 yX6_isEntitled yX6_isEntitled ∈ sw_all := sw_q (qt_4 _ (List.mem_of_getElem? (i := 126) rfl)) rfl
theorem q_627 : Cond.code yX6_isEntitled prog_1_method_20_code 2 (Option.some .boolean) ∈ sw_all := sw_q (qt_4 _ (List.mem_of_getElem? (i := 127) rfl)) rfl
theorem q_628 : Cond.methodLink RX6 153 yX5_deservesDegree ∈ sw_all := sw_q (qt_4 _ (List.mem_of_getElem? (i := 128) rfl)) rfl
theorem q_629 : Cond.methodLink RL 229 yL_doorAtRank ∈ sw_all := sw_q (qt_4 _ (List.mem_of_getElem? (i := 129) rfl)) rfl
theorem q_630 : Cond.static yL_doorAtRank ∈ sw_all := sw_q (qt_4 _ (List.mem_of_getElem? (i := 130) rfl)) rfl
theorem q_631 : Cond.methodLink RL 77 yX6_doorAtRank ∈ sw_all := sw_q (qt_4 _ (List.mem_of_getElem? (i := 132) rfl)) rfl
theorem q_632 : Cond.instanceMethod yX6_doorAtRank ∈ sw_all := sw_q (qt_4 _ (List.mem_of_getElem? (i := 133) rfl)) rfl
theorem q_633 : Cond.selects RX6 yX6_doorAtRank yX6_doorAtRank ∈ sw_all := sw_q (qt_4 _ (List.mem_of_getElem? (i := 134) rfl)) rfl
theorem q_634 : Cond.code yX6_doorAtRank prog_1_method_21_code 2 (Option.some .int) ∈ sw_all := sw_q (qt_4 _ (List.mem_of_getElem? (i := 135) rfl)) rfl
theorem q_635 : Cond.methodLink RX6 156 yX5_doorRanked ∈ sw_all := sw_q (qt_4 _ (List.mem_of_getElem? (i := 136) rfl)) rfl
theorem q_636 : Cond.instanceMethod yX5_doorRanked ∈ sw_all := sw_q (qt_4 _ (List.mem_of_getElem? (i := 137) rfl)) rfl
theorem q_637 : Cond.selects RX5 yX5_doorRanked yX5_doorRanked ∈ sw_all := sw_q (qt_4 _ (List.mem_of_getElem? (i := 138) rfl)) rfl
theorem q_638 : Cond.code yX5_doorRanked prog_7_method_21_code 3 (Option.some .int) ∈ sw_all := sw_q (qt_4 _ (List.mem_of_getElem? (i := 139) rfl)) rfl
theorem q_639 : Cond.methodLink RX5 117 yX5_rankOf ∈ sw_all := sw_q (qt_4 _ (List.mem_of_getElem? (i := 140) rfl)) rfl
theorem q_640 : Cond.instanceMethod yX5_rankOf ∈ sw_all := sw_q (qt_4 _ (List.mem_of_getElem? (i := 141) rfl)) rfl
theorem q_641 : Cond.selects RX5 yX5_rankOf yX5_rankOf ∈ sw_all := sw_q (qt_4 _ (List.mem_of_getElem? (i := 142) rfl)) rfl
theorem q_642 : Cond.code yX5_rankOf prog_7_method_22_code 4 (Option.some .int) ∈ sw_all := sw_q (qt_4 _ (List.mem_of_getElem? (i := 143) rfl)) rfl
theorem q_643 : Cond.methodLink RX5 120 yX5_ranksBefore ∈ sw_all := sw_q (qt_4 _ (List.mem_of_getElem? (i := 144) rfl)) rfl
theorem q_644 : Cond.instanceMethod yX5_ranksBefore ∈ sw_all := sw_q (qt_4 _ (List.mem_of_getElem? (i := 145) rfl)) rfl
theorem q_645 : Cond.selects RX5 yX5_ranksBefore yX5_ranksBefore ∈ sw_all := sw_q (qt_4 _ (List.mem_of_getElem? (i := 146) rfl)) rfl
theorem q_646 : Cond.code yX5_ranksBefore prog_7_method_23_code 7 (Option.some .boolean) ∈ sw_all := sw_q (qt_4 _ (List.mem_of_getElem? (i := 147) rfl)) rfl
theorem q_647 : Cond.methodLink RL 236 yL_frameOfExaminer ∈ sw_all := sw_q (qt_4 _ (List.mem_of_getElem? (i := 148) rfl)) rfl
theorem q_648 : Cond.static yL_frameOfExaminer ∈ sw_all := sw_q (qt_4 _ (List.mem_of_getElem? (i := 149) rfl)) rfl
theorem q_649 : Cond.methodLink RL 80 yX6_frameOfExaminer ∈ sw_all := sw_q (qt_4 _ (List.mem_of_getElem? (i := 151) rfl)) rfl
theorem q_650 : Cond.instanceMethod yX6_frameOfExaminer ∈ sw_all := sw_q (qt_4 _ (List.mem_of_getElem? (i := 152) rfl)) rfl
theorem q_651 : Cond.selects RX6 yX6_frameOfExaminer yX6_frameOfExaminer ∈ sw_all := sw_q (qt_4 _ (List.mem_of_getElem? (i := 153) rfl)) rfl
theorem q_652 : Cond.code yX6_frameOfExaminer prog_1_method_23_code 2 (Option.some .char) ∈ sw_all := sw_q (qt_4 _ (List.mem_of_getElem? (i := 154) rfl)) rfl
theorem q_653 : Cond.methodLink RX6 162 yX6_requireExaminer ∈ sw_all := sw_q (qt_4 _ (List.mem_of_getElem? (i := 155) rfl)) rfl
theorem q_654 : Cond.instanceMethod yX6_requireExaminer ∈ sw_all := sw_q (qt_4 _ (List.mem_of_getElem? (i := 157) rfl)) rfl
theorem q_655 : Cond.code yX6_requireExaminer prog_1_method_58_code 2 none ∈ sw_all := sw_q (qt_4 _ (List.mem_of_getElem? (i := 158) rfl)) rfl
theorem q_656 : Cond.methodLink RX6 325 yX5_hasExaminer ∈ sw_all := sw_q (qt_4 _ (List.mem_of_getElem? (i := 159) rfl)) rfl
theorem q_657 : Cond.methodLink RL 239 yL_load ∈ sw_all := sw_q (qt_4 _ (List.mem_of_getElem? (i := 160) rfl)) rfl
theorem q_658 : Cond.static yL_load ∈ sw_all := sw_q (qt_4 _ (List.mem_of_getElem? (i := 161) rfl)) rfl
theorem q_659 : Cond.methodLink RL 83 yX6_load ∈ sw_all := sw_q (qt_4 _ (List.mem_of_getElem? (i := 163) rfl)) rfl
theorem q_660 : Cond.instanceMethod yX6_load ∈ sw_all := sw_q (qt_4 _ (List.mem_of_getElem? (i := 164) rfl)) rfl
theorem q_661 : Cond.selects RX6 yX6_load yX6_load ∈ sw_all := sw_q (qt_4 _ (List.mem_of_getElem? (i := 165) rfl)) rfl
theorem q_662 : Cond.code yX6_load prog_1_method_24_code 2 (Option.some .int) ∈ sw_all := sw_q (qt_4 _ (List.mem_of_getElem? (i := 166) rfl)) rfl
theorem q_663 : Cond.methodLink RL 242 yL_isNeutral ∈ sw_all := sw_q (qt_4 _ (List.mem_of_getElem? (i := 167) rfl)) rfl
theorem q_664 : Cond.static yL_isNeutral ∈ sw_all := sw_q (qt_4 _ (List.mem_of_getElem? (i := 168) rfl)) rfl
theorem q_665 : Cond.methodLink RL 86 yX6_isNeutral ∈ sw_all := sw_q (qt_4 _ (List.mem_of_getElem? (i := 170) rfl)) rfl
theorem q_666 : Cond.instanceMethod yX6_isNeutral ∈ sw_all := sw_q (qt_4 _ (List.mem_of_getElem? (i := 171) rfl)) rfl
theorem q_667 : Cond.selects RX6 yX6_isNeutral yX6_isNeutral ∈ sw_all := sw_q (qt_4 _ (List.mem_of_getElem? (i := 172) rfl)) rfl
theorem q_668 : Cond.code yX6_isNeutral prog_1_method_25_code 3 (Option.some .boolean) ∈ sw_all := sw_q (qt_4 _ (List.mem_of_getElem? (i := 173) rfl)) rfl
theorem q_669 : Cond.methodLink RX6 171 yX6_requirePair ∈ sw_all := sw_q (qt_4 _ (List.mem_of_getElem? (i := 174) rfl)) rfl
theorem q_670 : Cond.instanceMethod yX6_requirePair ∈ sw_all := sw_q (qt_4 _ (List.mem_of_getElem? (i := 176) rfl)) rfl
theorem q_671 : Cond.code yX6_requirePair prog_1_method_59_code 3 none ∈ sw_all := sw_q (qt_4 _ (List.mem_of_getElem? (i := 177) rfl)) rfl
theorem q_672 : Cond.methodLink RX6 175 yX5_neutral ∈ sw_all := sw_q (qt_4 _ (List.mem_of_getElem? (i := 178) rfl)) rfl
theorem q_673 : Cond.methodLink RL 245 yL_mayJudge ∈ sw_all := sw_q (qt_4 _ (List.mem_of_getElem? (i := 179) rfl)) rfl
theorem q_674 : Cond.static yL_mayJudge ∈ sw_all := sw_q (qt_4 _ (List.mem_of_getElem? (i := 180) rfl)) rfl
theorem q_675 : Cond.methodLink RL 90 yX6_mayJudge ∈ sw_all := sw_q (qt_4 _ (List.mem_of_getElem? (i := 182) rfl)) rfl
theorem q_676 : Cond.instanceMethod yX6_mayJudge ∈ sw_all := sw_q (qt_4 _ (List.mem_of_getElem? (i := 183) rfl)) rfl
theorem q_677 : Cond.selects RX6 yX6_mayJudge yX6_mayJudge ∈ sw_all := sw_q (qt_4 _ (List.mem_of_getElem? (i := 184) rfl)) rfl
theorem q_678 : Cond.code yX6_mayJudge prog_1_method_26_code 3 (Option.some .boolean) ∈ sw_all := sw_q (qt_4 _ (List.mem_of_getElem? (i := 185) rfl)) rfl
theorem q_679 : Cond.methodLink RX6 178 yX5_canJudge ∈ sw_all := sw_q (qt_4 _ (List.mem_of_getElem? (i := 186) rfl)) rfl
theorem q_680 : Cond.methodLink RL 248 yL_isAssigned ∈ sw_all := sw_q (qt_4 _ (List.mem_of_getElem? (i := 187) rfl)) rfl
theorem q_681 : Cond.static yL_isAssigned ∈ sw_all := sw_q (qt_4 _ (List.mem_of_getElem? (i := 188) rfl)) rfl
theorem q_682 : Cond.methodLink RL 93 yX6_isAssigned ∈ sw_all := sw_q (qt_4 _ (List.mem_of_getElem? (i := 190) rfl)) rfl
theorem q_683 : Cond.instanceMethod yX6_isAssigned ∈ sw_all := sw_q (qt_4 _ (List.mem_of_getElem? (i := 191) rfl)) rfl
theorem q_684 : Cond.selects RX6 yX6_isAssigned yX6_isAssigned ∈ sw_all := sw_q (qt_4 _ (List.mem_of_getElem? (i := 192) rfl)) rfl
theorem q_685 : Cond.code yX6_isAssigned prog_1_method_27_code 3 (Option.some .boolean) ∈ sw_all := sw_q (qt_4 _ (List.mem_of_getElem? (i := 193) rfl)) rfl
theorem q_686 : Cond.methodLink RL 251 yL_gradeBy ∈ sw_all := sw_q (qt_4 _ (List.mem_of_getElem? (i := 194) rfl)) rfl
theorem q_687 : Cond.static yL_gradeBy ∈ sw_all := sw_q (qt_4 _ (List.mem_of_getElem? (i := 195) rfl)) rfl
theorem q_688 : Cond.methodLink RL 96 yX6_gradeBy ∈ sw_all := sw_q (qt_4 _ (List.mem_of_getElem? (i := 197) rfl)) rfl
theorem q_689 : Cond.instanceMethod yX6_gradeBy ∈ sw_all := sw_q (qt_4 _ (List.mem_of_getElem? (i := 198) rfl)) rfl
theorem q_690 : Cond.selects RX6 yX6_gradeBy yX6_gradeBy ∈ sw_all := sw_q (qt_4 _ (List.mem_of_getElem? (i := 199) rfl)) rfl
theorem q_691 : Cond.code yX6_gradeBy prog_1_method_28_code 3 (Option.some .int) ∈ sw_all := sw_q (qt_4 _ (List.mem_of_getElem? (i := 200) rfl)) rfl
theorem q_692 : Cond.methodLink RL 262 yL_plannedExaminer ∈ sw_all := sw_q (qt_4 _ (List.mem_of_getElem? (i := 201) rfl)) rfl
theorem q_693 : Cond.static yL_plannedExaminer ∈ sw_all := sw_q (qt_4 _ (List.mem_of_getElem? (i := 202) rfl)) rfl
theorem q_694 : Cond.methodLink RL 99 yX6_plannedExaminer ∈ sw_all := sw_q (qt_4 _ (List.mem_of_getElem? (i := 204) rfl)) rfl
theorem q_695 : Cond.instanceMethod yX6_plannedExaminer ∈ sw_all := sw_q (qt_4 _ (List.mem_of_getElem? (i := 205) rfl)) rfl
theorem q_696 : Cond.selects RX6 yX6_plannedExaminer yX6_plannedExaminer ∈ sw_all := sw_q (qt_4 _ (List.mem_of_getElem? (i := 206) rfl)) rfl
theorem q_697 : Cond.code yX6_plannedExaminer prog_1_method_31_code 2 (Option.some .int) ∈ sw_all := sw_q (qt_4 _ (List.mem_of_getElem? (i := 207) rfl)) rfl
theorem q_698 : Cond.methodLink RL 265 yL_panelCount ∈ sw_all := sw_q (qt_4 _ (List.mem_of_getElem? (i := 208) rfl)) rfl
theorem q_699 : Cond.static yL_panelCount ∈ sw_all := sw_q (qt_4 _ (List.mem_of_getElem? (i := 209) rfl)) rfl
theorem q_700 : Cond.methodLink RL 102 yX6_panelCount ∈ sw_all := sw_q (qt_4 _ (List.mem_of_getElem? (i := 211) rfl)) rfl
theorem q_701 : Cond.instanceMethod yX6_panelCount ∈ sw_all := sw_q (qt_4 _ (List.mem_of_getElem? (i := 212) rfl)) rfl
theorem q_702 : Cond.selects RX6 yX6_panelCount yX6_panelCount ∈ sw_all := sw_q (qt_4 _ (List.mem_of_getElem? (i := 213) rfl)) rfl
theorem q_703 : Cond.code yX6_panelCount prog_1_method_32_code 2 (Option.some .int) ∈ sw_all := sw_q (qt_4 _ (List.mem_of_getElem? (i := 214) rfl)) rfl
theorem q_704 : Cond.methodLink RL 268 yL_panelCountByFrames ∈ sw_all := sw_q (qt_4 _ (List.mem_of_getElem? (i := 215) rfl)) rfl
theorem q_705 : Cond.static yL_panelCountByFrames ∈ sw_all := sw_q (qt_4 _ (List.mem_of_getElem? (i := 216) rfl)) rfl
theorem q_706 : Cond.methodLink RL 105 yX6_panelCountByFrames ∈ sw_all := sw_q (qt_4 _ (List.mem_of_getElem? (i := 218) rfl)) rfl
theorem q_707 : Cond.instanceMethod yX6_panelCountByFrames ∈ sw_all := sw_q (qt_4 _ (List.mem_of_getElem? (i := 219) rfl)) rfl
theorem q_708 : Cond.selects RX6 yX6_panelCountByFrames yX6_panelCountByFrames ∈ sw_all := sw_q (qt_4 _ (List.mem_of_getElem? (i := 220) rfl)) rfl
theorem q_709 : Cond.code yX6_panelCountByFrames prog_1_method_33_code 2 (Option.some .int) ∈ sw_all := sw_q (qt_4 _ (List.mem_of_getElem? (i := 221) rfl)) rfl
theorem q_710 : Cond.methodLink RL 271 yL_panelMember ∈ sw_all := sw_q (qt_4 _ (List.mem_of_getElem? (i := 222) rfl)) rfl
theorem q_711 : Cond.static yL_panelMember ∈ sw_all := sw_q (qt_4 _ (List.mem_of_getElem? (i := 223) rfl)) rfl
theorem q_712 : Cond.methodLink RL 108 yX6_panelMember ∈ sw_all := sw_q (qt_4 _ (List.mem_of_getElem? (i := 225) rfl)) rfl
theorem q_713 : Cond.instanceMethod yX6_panelMember ∈ sw_all := sw_q (qt_4 _ (List.mem_of_getElem? (i := 226) rfl)) rfl
theorem q_714 : Cond.selects RX6 yX6_panelMember yX6_panelMember ∈ sw_all := sw_q (qt_4 _ (List.mem_of_getElem? (i := 227) rfl)) rfl
theorem q_715 : Cond.code yX6_panelMember prog_1_method_34_code 3 (Option.some .int) ∈ sw_all := sw_q (qt_4 _ (List.mem_of_getElem? (i := 228) rfl)) rfl
theorem q_716 : Cond.methodLink RX6 204 yX2_firstFor ∈ sw_all := sw_q (qt_4 _ (List.mem_of_getElem? (i := 229) rfl)) rfl
theorem q_717 : Cond.methodLink RX6 207 yX6_memberAt ∈ sw_all := sw_q (qt_4 _ (List.mem_of_getElem? (i := 230) rfl)) rfl
theorem q_718 : Cond.static yX6_memberAt ∈ sw_all := sw_q (qt_4 _ (List.mem_of_getElem? (i := 231) rfl)) rfl
theorem q_719 : Cond.code yX6_memberAt prog_1_method_67_code 4 (Option.some .int) ∈ sw_all := sw_q (qt_4 _ (List.mem_of_getElem? (i := 232) rfl)) rfl
theorem q_720 : Cond.methodLink RL 282 yL_doorOf ∈ sw_all := sw_q (qt_4 _ (List.mem_of_getElem? (i := 233) rfl)) rfl
theorem q_721 : Cond.static yL_doorOf ∈ sw_all := sw_q (qt_4 _ (List.mem_of_getElem? (i := 234) rfl)) rfl
theorem q_722 : Cond.methodLink RL 111 yX6_doorOf ∈ sw_all := sw_q (qt_4 _ (List.mem_of_getElem? (i := 236) rfl)) rfl
theorem q_723 : Cond.instanceMethod yX6_doorOf ∈ sw_all := sw_q (qt_4 _ (List.mem_of_getElem? (i := 237) rfl)) rfl
theorem q_724 : Cond.selects RX6 yX6_doorOf yX6_doorOf ∈ sw_all := sw_q (qt_4 _ (List.mem_of_getElem? (i := 238) rfl)) rfl
theorem q_725 : Cond.code yX6_doorOf prog_1_method_37_code 2 (Option.some .int) ∈ sw_all := sw_q (qt_4 _ (List.mem_of_getElem? (i := 239) rfl)) rfl
theorem q_726 : Cond.methodLink RX6 216 yX6_requireEntry ∈ sw_all := sw_q (qt_5 _ (List.mem_of_getElem? (i := 0) rfl)) rfl
theorem q_727 : Cond.instanceMethod yX6_requireEntry ∈ sw_all := sw_q (qt_5 _ (List.mem_of_getElem? (i := 2) rfl)) rfl
theorem q_728 : Cond.code yX6_requireEntry prog_1_method_60_code 2 none ∈ sw_all := sw_q (qt_5 _ (List.mem_of_getElem? (i := 3) rfl)) rfl
theorem q_729 : Cond.methodLink RX6 328 yX5_hasEntry ∈ sw_all := sw_q (qt_5 _ (List.mem_of_getElem? (i := 4) rfl)) rfl
theorem q_730 : Cond.methodLink RL 285 yL_isRevoked ∈ sw_all := sw_q (qt_5 _ (List.mem_of_getElem? (i := 5) rfl)) rfl
theorem q_731 : Cond.static yL_isRevoked ∈ sw_all := sw_q (qt_5 _ (List.mem_of_getElem? (i := 6) rfl)) rfl
theorem q_732 : Cond.methodLink RL 114 yX6_isRevoked ∈ sw_all := sw_q (qt_5 _ (List.mem_of_getElem? (i := 8) rfl)) rfl
theorem q_733 : Cond.instanceMethod yX6_isRevoked ∈ sw_all := sw_q (qt_5 _ (List.mem_of_getElem? (i := 9) rfl)) rfl
theorem q_734 : Cond.selects RX6 yX6_isRevoked yX6_isRevoked ∈ sw_all := sw_q (qt_5 _ (List.mem_of_getElem? (i := 10) rfl)) rfl
theorem q_735 : Cond.code yX6_isRevoked prog_1_method_38_code 2 (Option.some .boolean) ∈ sw_all := sw_q (qt_5 _ (List.mem_of_getElem? (i := 11) rfl)) rfl
theorem q_736 : Cond.methodLink RL 301 yL_meanGrade ∈ sw_all := sw_q (qt_5 _ (List.mem_of_getElem? (i := 12) rfl)) rfl
theorem q_737 : Cond.static yL_meanGrade ∈ sw_all := sw_q (qt_5 _ (List.mem_of_getElem? (i := 13) rfl)) rfl
theorem q_738 : Cond.classLink RL 121 "java/lang/ArithmeticException" ∈ sw_all := sw_q (qt_5 _ (List.mem_of_getElem? (i := 15) rfl)) rfl
theorem q_739 : Cond.instantiable "java/lang/ArithmeticException" 6 ∈ sw_all := sw_q (qt_5 _ (List.mem_of_getElem? (i := 16) rfl)) rfl
theorem q_740 : Cond.instanceMethod ⟨"java/lang/ArithmeticException", "<init>", "(Ljava/lang/String;)V"⟩ ∈ sw_all := sw_q (qt_5 _ (List.mem_of_getElem? (i := 17) rfl)) rfl
theorem q_741 : Cond.code ⟨"java/lang/ArithmeticException", "<init>", "(Ljava/lang/String;)V"⟩ prog_11_method_2_code 2 none ∈ sw_all := sw_q (qt_5 _ (List.mem_of_getElem? (i := 18) rfl)) rfl
theorem q_742 : Cond.methodLink "java/lang/ArithmeticException" 7 ⟨"java/lang/RuntimeException", "<init>", "(Ljava/lang/String;)V"⟩ ∈ sw_all := sw_q (qt_5 _ (List.mem_of_getElem? (i := 19) rfl)) rfl
theorem q_743 : Cond.selects "java/lang/ArithmeticException" ⟨"java/lang/Throwable", "fillInStackTrace", "(I)Ljava/lang/Throwable;"⟩ ⟨"java/lang/Throwable", "fillInStackTrace", "(I)Ljava/lang/Throwable;"⟩ ∈ sw_all := sw_q (qt_5 _ (List.mem_of_getElem? (i := 28) rfl)) rfl
theorem q_744 : Cond.methodLink RL 117 yX6_meanGrade ∈ sw_all := sw_q (qt_5 _ (List.mem_of_getElem? (i := 29) rfl)) rfl
theorem q_745 : Cond.instanceMethod yX6_meanGrade ∈ sw_all := sw_q (qt_5 _ (List.mem_of_getElem? (i := 30) rfl)) rfl
theorem q_746 : Cond.selects RX6 yX6_meanGrade yX6_meanGrade ∈ sw_all := sw_q (qt_5 _ (List.mem_of_getElem? (i := 31) rfl)) rfl
theorem q_747 : Cond.code yX6_meanGrade prog_1_method_42_code 3 (Option.some .double) ∈ sw_all := sw_q (qt_5 _ (List.mem_of_getElem? (i := 32) rfl)) rfl
theorem q_748 : Cond.classLink RX6 228 "java/lang/ArithmeticException" ∈ sw_all := sw_q (qt_5 _ (List.mem_of_getElem? (i := 33) rfl)) rfl
theorem q_749 : Cond.methodLink RX6 230 ⟨"java/lang/ArithmeticException", "<init>", "()V"⟩ ∈ sw_all := sw_q (qt_5 _ (List.mem_of_getElem? (i := 34) rfl)) rfl
theorem q_750 : Cond.instanceMethod ⟨"java/lang/ArithmeticException", "<init>", "()V"⟩ ∈ sw_all := sw_q (qt_5 _ (List.mem_of_getElem? (i := 35) rfl)) rfl
theorem q_751 : Cond.code ⟨"java/lang/ArithmeticException", "<init>", "()V"⟩ prog_11_method_1_code 1 none ∈ sw_all := sw_q (qt_5 _ (List.mem_of_getElem? (i := 36) rfl)) rfl
theorem q_752 : Cond.methodLink "java/lang/ArithmeticException" 1 ⟨"java/lang/RuntimeException", "<init>", "()V"⟩ ∈ sw_all := sw_q (qt_5 _ (List.mem_of_getElem? (i := 37) rfl)) rfl
theorem q_753 : Cond.methodLink RX6 231 yX6_gradeTotal ∈ sw_all := sw_q (qt_5 _ (List.mem_of_getElem? (i := 38) rfl)) rfl
theorem q_754 : Cond.methodLink RL 305 yL_passShare ∈ sw_all := sw_q (qt_5 _ (List.mem_of_getElem? (i := 39) rfl)) rfl
theorem q_755 : Cond.static yL_passShare ∈ sw_all := sw_q (qt_5 _ (List.mem_of_getElem? (i := 40) rfl)) rfl
theorem q_756 : Cond.methodLink RL 123 yX6_passShare ∈ sw_all := sw_q (qt_5 _ (List.mem_of_getElem? (i := 42) rfl)) rfl
theorem q_757 : Cond.instanceMethod yX6_passShare ∈ sw_all := sw_q (qt_5 _ (List.mem_of_getElem? (i := 43) rfl)) rfl
theorem q_758 : Cond.selects RX6 yX6_passShare yX6_passShare ∈ sw_all := sw_q (qt_5 _ (List.mem_of_getElem? (i := 44) rfl)) rfl
theorem q_759 : Cond.code yX6_passShare prog_1_method_43_code 4 (Option.some .float) ∈ sw_all := sw_q (qt_5 _ (List.mem_of_getElem? (i := 45) rfl)) rfl
theorem q_760 : Cond.methodLink RL 313 yL_append ∈ sw_all := sw_q (qt_5 _ (List.mem_of_getElem? (i := 46) rfl)) rfl
theorem q_761 : Cond.static yL_append ∈ sw_all := sw_q (qt_5 _ (List.mem_of_getElem? (i := 47) rfl)) rfl
theorem q_762 : Cond.methodLink RL 127 yX6_append ∈ sw_all := sw_q (qt_5 _ (List.mem_of_getElem? (i := 49) rfl)) rfl
theorem q_763 : Cond.instanceMethod yX6_append ∈ sw_all := sw_q (qt_5 _ (List.mem_of_getElem? (i := 50) rfl)) rfl
theorem q_764 : Cond.selects RX6 yX6_append yX6_append ∈ sw_all := sw_q (qt_5 _ (List.mem_of_getElem? (i := 51) rfl)) rfl
theorem q_765 : Cond.code yX6_append prog_1_method_45_code 2 (Option.some .int) ∈ sw_all := sw_q (qt_5 _ (List.mem_of_getElem? (i := 52) rfl)) rfl
theorem q_766 : Cond.methodLink RX6 249 yX4_isFull ∈ sw_all := sw_q (qt_5 _ (List.mem_of_getElem? (i := 53) rfl)) rfl
theorem q_767 : Cond.instanceMethod yX4_isFull ∈ sw_all := sw_q (qt_5 _ (List.mem_of_getElem? (i := 54) rfl)) rfl
theorem q_768 : Cond.selects RX4 yX4_isFull yX4_isFull ∈ sw_all := sw_q (qt_5 _ (List.mem_of_getElem? (i := 55) rfl)) rfl
theorem q_769 : Cond.code yX4_isFull prog_6_method_2_code 1 (Option.some .boolean) ∈ sw_all := sw_q (qt_5 _ (List.mem_of_getElem? (i := 56) rfl)) rfl
theorem q_770 : Cond.methodLink RX6 255 yX4_extend ∈ sw_all := sw_q (qt_5 _ (List.mem_of_getElem? (i := 57) rfl)) rfl
theorem q_771 : Cond.instanceMethod yX4_extend ∈ sw_all := sw_q (qt_5 _ (List.mem_of_getElem? (i := 58) rfl)) rfl
theorem q_772 : Cond.selects RX4 yX4_extend yX4_extend ∈ sw_all := sw_q (qt_5 _ (List.mem_of_getElem? (i := 59) rfl)) rfl
theorem q_773 : Cond.code yX4_extend prog_6_method_3_code 2 none ∈ sw_all := sw_q (qt_5 _ (List.mem_of_getElem? (i := 60) rfl)) rfl
theorem q_774 : Cond.methodLink RL 317 yL_run ∈ sw_all := sw_q (qt_5 _ (List.mem_of_getElem? (i := 61) rfl)) rfl
theorem q_775 : Cond.static yL_run ∈ sw_all := sw_q (qt_5 _ (List.mem_of_getElem? (i := 62) rfl)) rfl
theorem q_776 : Cond.methodLink RL 131 yX6_run ∈ sw_all := sw_q (qt_5 _ (List.mem_of_getElem? (i := 64) rfl)) rfl
theorem q_777 : Cond.instanceMethod yX6_run ∈ sw_all := sw_q (qt_5 _ (List.mem_of_getElem? (i := 65) rfl)) rfl
theorem q_778 : Cond.selects RX6 yX6_run yX6_run ∈ sw_all := sw_q (qt_5 _ (List.mem_of_getElem? (i := 66) rfl)) rfl
theorem q_779 : Cond.code yX6_run prog_1_method_46_code 3 (Option.some .int) ∈ sw_all := sw_q (qt_5 _ (List.mem_of_getElem? (i := 67) rfl)) rfl
theorem q_780 : Cond.methodLink RX6 262 yX4_parse ∈ sw_all := sw_q (qt_5 _ (List.mem_of_getElem? (i := 68) rfl)) rfl
theorem q_781 : Cond.instanceMethod yX4_parse ∈ sw_all := sw_q (qt_5 _ (List.mem_of_getElem? (i := 69) rfl)) rfl
theorem q_782 : Cond.selects RX4 yX4_parse yX4_parse ∈ sw_all := sw_q (qt_5 _ (List.mem_of_getElem? (i := 70) rfl)) rfl
theorem q_783 : Cond.code yX4_parse prog_6_method_5_code 4 (Option.some .int) ∈ sw_all := sw_q (qt_5 _ (List.mem_of_getElem? (i := 71) rfl)) rfl
theorem q_784 : Cond.methodLink RX4 31 yX4_readCommand ∈ sw_all := sw_q (qt_5 _ (List.mem_of_getElem? (i := 72) rfl)) rfl
theorem q_785 : Cond.instanceMethod yX4_readCommand ∈ sw_all := sw_q (qt_5 _ (List.mem_of_getElem? (i := 74) rfl)) rfl
theorem q_786 : Cond.code yX4_readCommand prog_6_method_6_code 6 (Option.some .int) ∈ sw_all := sw_q (qt_5 _ (List.mem_of_getElem? (i := 75) rfl)) rfl
theorem q_787 : Cond.methodLink RX4 39 yX4_shapeOf ∈ sw_all := sw_q (qt_5 _ (List.mem_of_getElem? (i := 76) rfl)) rfl
theorem q_788 : Cond.static yX4_shapeOf ∈ sw_all := sw_q (qt_5 _ (List.mem_of_getElem? (i := 77) rfl)) rfl
theorem q_789 : Cond.code yX4_shapeOf prog_6_method_8_code 1 (Option.some (.object "java/lang/String")) ∈ sw_all := sw_q (qt_5 _ (List.mem_of_getElem? (i := 78) rfl)) rfl
theorem q_790 : Cond.methodLink RX4 43 yX4_match ∈ sw_all := sw_q (qt_5 _ (List.mem_of_getElem? (i := 89) rfl)) rfl
theorem q_791 : Cond.instanceMethod yX4_match ∈ sw_all := sw_q (qt_5 _ (List.mem_of_getElem? (i := 91) rfl)) rfl
theorem q_792 : Cond.code yX4_match prog_6_method_7_code 9 (Option.some .int) ∈ sw_all := sw_q (qt_5 _ (List.mem_of_getElem? (i := 92) rfl)) rfl
theorem q_793 : Cond.methodLink RX4 55 yJ0_length_8abf5 ∈ sw_all := sw_q (qt_5 _ (List.mem_of_getElem? (i := 93) rfl)) rfl
theorem q_794 : Cond.instanceMethod yJ0_length_8abf5 ∈ sw_all := sw_q (qt_5 _ (List.mem_of_getElem? (i := 94) rfl)) rfl
theorem q_795 : Cond.selects RJ0 yJ0_length_8abf5 yJ0_length_8abf5 ∈ sw_all := sw_q (qt_5 _ (List.mem_of_getElem? (i := 95) rfl)) rfl
theorem q_796 : Cond.code yJ0_length_8abf5 prog_22_method_54_code 1 (Option.some .int) ∈ sw_all := sw_q (qt_5 _ (List.mem_of_getElem? (i := 96) rfl)) rfl
theorem q_797 : Cond.methodLink RJ0 335 yJ0_coder_7d493 ∈ sw_all := sw_q (qt_5 _ (List.mem_of_getElem? (i := 97) rfl)) rfl
theorem q_798 : Cond.instanceMethod yJ0_coder_7d493 ∈ sw_all := sw_q (qt_5 _ (List.mem_of_getElem? (i := 98) rfl)) rfl
theorem q_799 : Cond.selects RJ0 yJ0_coder_7d493 yJ0_coder_7d493 ∈ sw_all := sw_q (qt_5 _ (List.mem_of_getElem? (i := 99) rfl)) rfl
theorem q_800 : Cond.code yJ0_coder_7d493 prog_22_method_152_code 1 (Option.some .byte) ∈ sw_all := sw_q (qt_5 _ (List.mem_of_getElem? (i := 100) rfl)) rfl
theorem q_801 : Cond.fieldLink RJ0 38 "java/lang/String" "COMPACT_STRINGS" "Z" ∈ sw_all := sw_q (qt_5 _ (List.mem_of_getElem? (i := 101) rfl)) rfl
theorem q_802 : Cond.methodLink RX4 60 yJ0_charAt_5068e ∈ sw_all := sw_q (qt_5 _ (List.mem_of_getElem? (i := 103) rfl)) rfl
theorem q_803 : Cond.instanceMethod yJ0_charAt_5068e ∈ sw_all := sw_q (qt_5 _ (List.mem_of_getElem? (i := 104) rfl)) rfl
theorem q_804 : Cond.selects RJ0 yJ0_charAt_5068e yJ0_charAt_5068e ∈ sw_all := sw_q (qt_5 _ (List.mem_of_getElem? (i := 105) rfl)) rfl
theorem q_805 : Cond.code yJ0_charAt_5068e prog_22_method_56_code 2 (Option.some .char) ∈ sw_all := sw_q (qt_5 _ (List.mem_of_getElem? (i := 106) rfl)) rfl
theorem q_806 : Cond.methodLink RJ0 492 yJ0_isLatin1_aae02 ∈ sw_all := sw_q (qt_5 _ (List.mem_of_getElem? (i := 107) rfl)) rfl
theorem q_807 : Cond.instanceMethod yJ0_isLatin1_aae02 ∈ sw_all := sw_q (qt_5 _ (List.mem_of_getElem? (i := 108) rfl)) rfl
theorem q_808 : Cond.selects RJ0 yJ0_isLatin1_aae02 yJ0_isLatin1_aae02 ∈ sw_all := sw_q (qt_5 _ (List.mem_of_getElem? (i := 109) rfl)) rfl
theorem q_809 : Cond.code yJ0_isLatin1_aae02 prog_22_method_154_code 1 (Option.some .boolean) ∈ sw_all := sw_q (qt_5 _ (List.mem_of_getElem? (i := 110) rfl)) rfl
theorem q_810 : Cond.methodLink RJ0 495 yJ1_charAt_3b067 ∈ sw_all := sw_q (qt_5 _ (List.mem_of_getElem? (i := 111) rfl)) rfl
theorem q_811 : Cond.static yJ1_charAt_3b067 ∈ sw_all := sw_q (qt_5 _ (List.mem_of_getElem? (i := 112) rfl)) rfl
theorem q_812 : Cond.code yJ1_charAt_3b067 prog_23_method_2_code 2 (Option.some .char) ∈ sw_all := sw_q (qt_5 _ (List.mem_of_getElem? (i := 113) rfl)) rfl
theorem q_813 : Cond.methodLink RJ1 9 yJ0_checkIndex_df160 ∈ sw_all := sw_q (qt_5 _ (List.mem_of_getElem? (i := 114) rfl)) rfl
theorem q_814 : Cond.static yJ0_checkIndex_df160 ∈ sw_all := sw_q (qt_5 _ (List.mem_of_getElem? (i := 115) rfl)) rfl
theorem q_815 : Cond.code yJ0_checkIndex_df160 prog_22_method_155_code 2 none ∈ sw_all := sw_q (qt_5 _ (List.mem_of_getElem? (i := 116) rfl)) rfl
theorem q_816 : Cond.fieldLink RJ0 1053 "jdk/internal/util/Preconditions" "SIOOBE_FORMATTER" "Ljava/util/function/BiFunction;" ∈ sw_all := sw_q (qt_5 _ (List.mem_of_getElem? (i := 117) rfl)) rfl
theorem q_817 : Cond.methodLink RJ0 1059 yJ3_checkIndex_8e157 ∈ sw_all := sw_q (qt_5 _ (List.mem_of_getElem? (i := 119) rfl)) rfl
theorem q_818 : Cond.static yJ3_checkIndex_8e157 ∈ sw_all := sw_q (qt_5 _ (List.mem_of_getElem? (i := 120) rfl)) rfl
theorem q_819 : Cond.code yJ3_checkIndex_8e157 prog_31_method_11_code 3 (Option.some .int) ∈ sw_all := sw_q (qt_5 _ (List.mem_of_getElem? (i := 121) rfl)) rfl
theorem q_820 : Cond.methodLink RJ0 498 yJ2_charAt_3b067 ∈ sw_all := sw_q (qt_5 _ (List.mem_of_getElem? (i := 122) rfl)) rfl
theorem q_821 : Cond.static yJ2_charAt_3b067 ∈ sw_all := sw_q (qt_5 _ (List.mem_of_getElem? (i := 123) rfl)) rfl
theorem q_822 : Cond.code yJ2_charAt_3b067 prog_24_method_83_code 2 (Option.some .char) ∈ sw_all := sw_q (qt_5 _ (List.mem_of_getElem? (i := 124) rfl)) rfl
theorem q_823 : Cond.methodLink RJ2 67 yJ2_checkIndex_2214a ∈ sw_all := sw_q (qt_5 _ (List.mem_of_getElem? (i := 125) rfl)) rfl
theorem q_824 : Cond.static yJ2_checkIndex_2214a ∈ sw_all := sw_q (qt_5 _ (List.mem_of_getElem? (i := 126) rfl)) rfl
theorem q_825 : Cond.code yJ2_checkIndex_2214a prog_24_method_91_code 2 none ∈ sw_all := sw_q (qt_5 _ (List.mem_of_getElem? (i := 127) rfl)) rfl
theorem q_826 : Cond.methodLink RJ2 48 yJ2_length_9d52b ∈ sw_all := sw_q (qt_5 _ (List.mem_of_getElem? (i := 128) rfl)) rfl
theorem q_827 : Cond.static yJ2_length_9d52b ∈ sw_all := sw_q (qt_5 _ (List.mem_of_getElem? (i := 129) rfl)) rfl
theorem q_828 : Cond.code yJ2_length_9d52b prog_24_method_6_code 1 (Option.some .int) ∈ sw_all := sw_q (qt_5 _ (List.mem_of_getElem? (i := 130) rfl)) rfl
theorem q_829 : Cond.methodLink RJ2 414 yJ0_checkIndex_df160 ∈ sw_all := sw_q (qt_5 _ (List.mem_of_getElem? (i := 131) rfl)) rfl
theorem q_830 : Cond.methodLink RJ2 71 yJ2_getChar_3b067 ∈ sw_all := sw_q (qt_5 _ (List.mem_of_getElem? (i := 132) rfl)) rfl
theorem q_831 : Cond.static yJ2_getChar_3b067 ∈ sw_all := sw_q (qt_5 _ (List.mem_of_getElem? (i := 133) rfl)) rfl
theorem q_832 : Cond.code yJ2_getChar_3b067 prog_24_method_5_code 2 (Option.some .char) ∈ sw_all := sw_q (qt_5 _ (List.mem_of_getElem? (i := 134) rfl)) rfl
theorem q_833 : Cond.fieldLink RJ2 44 "java/lang/StringUTF16" "$assertionsDisabled" "Z" ∈ sw_all := sw_q (qt_5 _ (List.mem_of_getElem? (i := 135) rfl)) rfl
theorem q_834 : Cond.fieldLink RJ2 59 "java/lang/StringUTF16" "HI_BYTE_SHIFT" "I" ∈ sw_all := sw_q (qt_5 _ (List.mem_of_getElem? (i := 137) rfl)) rfl
theorem q_835 : Cond.fieldLink RJ2 63 "java/lang/StringUTF16" "LO_BYTE_SHIFT" "I" ∈ sw_all := sw_q (qt_5 _ (List.mem_of_getElem? (i := 139) rfl)) rfl
theorem q_836 : Cond.methodLink RX4 64 yX4_fits ∈ sw_all := sw_q (qt_5 _ (List.mem_of_getElem? (i := 141) rfl)) rfl
theorem q_837 : Cond.static yX4_fits ∈ sw_all := sw_q (qt_5 _ (List.mem_of_getElem? (i := 142) rfl)) rfl
theorem q_838 : Cond.code yX4_fits prog_6_method_9_code 2 (Option.some .boolean) ∈ sw_all := sw_q (qt_5 _ (List.mem_of_getElem? (i := 143) rfl)) rfl
theorem q_839 : Cond.methodLink RX4 68 yX4_isDigit ∈ sw_all := sw_q (qt_5 _ (List.mem_of_getElem? (i := 145) rfl)) rfl
theorem q_840 : Cond.static yX4_isDigit ∈ sw_all := sw_q (qt_5 _ (List.mem_of_getElem? (i := 146) rfl)) rfl
theorem q_841 : Cond.code yX4_isDigit prog_6_method_11_code 1 (Option.some .boolean) ∈ sw_all := sw_q (qt_5 _ (List.mem_of_getElem? (i := 147) rfl)) rfl
theorem q_842 : Cond.methodLink RX4 52 yX4_errorAt ∈ sw_all := sw_q (qt_5 _ (List.mem_of_getElem? (i := 148) rfl)) rfl
theorem q_843 : Cond.static yX4_errorAt ∈ sw_all := sw_q (qt_5 _ (List.mem_of_getElem? (i := 149) rfl)) rfl
theorem q_844 : Cond.code yX4_errorAt prog_6_method_12_code 1 (Option.some .int) ∈ sw_all := sw_q (qt_5 _ (List.mem_of_getElem? (i := 150) rfl)) rfl
theorem q_845 : Cond.methodLink RX4 72 yX4_isOperand ∈ sw_all := sw_q (qt_5 _ (List.mem_of_getElem? (i := 151) rfl)) rfl
theorem q_846 : Cond.static yX4_isOperand ∈ sw_all := sw_q (qt_5 _ (List.mem_of_getElem? (i := 152) rfl)) rfl
theorem q_847 : Cond.code yX4_isOperand prog_6_method_10_code 1 (Option.some .boolean) ∈ sw_all := sw_q (qt_5 _ (List.mem_of_getElem? (i := 153) rfl)) rfl
theorem q_848 : Cond.methodLink RX4 35 yX4_errorOf ∈ sw_all := sw_q (qt_5 _ (List.mem_of_getElem? (i := 154) rfl)) rfl
theorem q_849 : Cond.static yX4_errorOf ∈ sw_all := sw_q (qt_5 _ (List.mem_of_getElem? (i := 155) rfl)) rfl
theorem q_850 : Cond.code yX4_errorOf prog_6_method_13_code 1 (Option.some .int) ∈ sw_all := sw_q (qt_5 _ (List.mem_of_getElem? (i := 156) rfl)) rfl
theorem q_851 : Cond.methodLink RX4 47 yJ9_max_7cf53 ∈ sw_all := sw_q (qt_5 _ (List.mem_of_getElem? (i := 157) rfl)) rfl
theorem q_852 : Cond.methodLink RX6 265 yX4_empty ∈ sw_all := sw_q (qt_5 _ (List.mem_of_getElem? (i := 158) rfl)) rfl
theorem q_853 : Cond.instanceMethod yX4_empty ∈ sw_all := sw_q (qt_5 _ (List.mem_of_getElem? (i := 159) rfl)) rfl
theorem q_854 : Cond.selects RX4 yX4_empty yX4_empty ∈ sw_all := sw_q (qt_5 _ (List.mem_of_getElem? (i := 160) rfl)) rfl
theorem q_855 : Cond.code yX4_empty prog_6_method_4_code 1 none ∈ sw_all := sw_q (qt_5 _ (List.mem_of_getElem? (i := 161) rfl)) rfl
theorem q_856 : Cond.methodLink RX6 277 yX6_perform ∈ sw_all := sw_q (qt_5 _ (List.mem_of_getElem? (i := 162) rfl)) rfl
theorem q_857 : Cond.instanceMethod yX6_perform ∈ sw_all := sw_q (qt_5 _ (List.mem_of_getElem? (i := 164) rfl)) rfl
theorem q_858 : Cond.code yX6_perform prog_1_method_64_code 6 (Option.some .int) ∈ sw_all := sw_q (qt_5 _ (List.mem_of_getElem? (i := 165) rfl)) rfl
theorem q_859 : Cond.methodLink RX6 281 yX0_takeBack ∈ sw_all := sw_q (qt_5 _ (List.mem_of_getElem? (i := 166) rfl)) rfl
theorem q_860 : Cond.instanceMethod yX0_takeBack ∈ sw_all := sw_q (qt_5 _ (List.mem_of_getElem? (i := 167) rfl)) rfl
theorem q_861 : Cond.selects RX0 yX0_takeBack yX0_takeBack ∈ sw_all := sw_q (qt_5 _ (List.mem_of_getElem? (i := 168) rfl)) rfl
theorem q_862 : Cond.code yX0_takeBack prog_2_method_3_code 2 none ∈ sw_all := sw_q (qt_5 _ (List.mem_of_getElem? (i := 169) rfl)) rfl
theorem q_863 : Cond.methodLink RL 321 yL_errorPosition ∈ sw_all := sw_q (qt_5 _ (List.mem_of_getElem? (i := 170) rfl)) rfl
theorem q_864 : Cond.static yL_errorPosition ∈ sw_all := sw_q (qt_5 _ (List.mem_of_getElem? (i := 171) rfl)) rfl
theorem q_865 : Cond.methodLink RL 135 yX6_errorPosition ∈ sw_all := sw_q (qt_5 _ (List.mem_of_getElem? (i := 173) rfl)) rfl
theorem q_866 : Cond.instanceMethod yX6_errorPosition ∈ sw_all := sw_q (qt_5 _ (List.mem_of_getElem? (i := 174) rfl)) rfl
theorem q_867 : Cond.selects RX6 yX6_errorPosition yX6_errorPosition ∈ sw_all := sw_q (qt_5 _ (List.mem_of_getElem? (i := 175) rfl)) rfl
theorem q_868 : Cond.code yX6_errorPosition prog_1_method_47_code 1 (Option.some .int) ∈ sw_all := sw_q (qt_5 _ (List.mem_of_getElem? (i := 176) rfl)) rfl
theorem q_869 : Cond.methodLink RL 324 yL_failedCommand ∈ sw_all := sw_q (qt_5 _ (List.mem_of_getElem? (i := 177) rfl)) rfl
theorem q_870 : Cond.static yL_failedCommand ∈ sw_all := sw_q (qt_5 _ (List.mem_of_getElem? (i := 178) rfl)) rfl
theorem q_871 : Cond.methodLink RL 138 yX6_failedCommand ∈ sw_all := sw_q (qt_5 _ (List.mem_of_getElem? (i := 180) rfl)) rfl
theorem q_872 : Cond.instanceMethod yX6_failedCommand ∈ sw_all := sw_q (qt_5 _ (List.mem_of_getElem? (i := 181) rfl)) rfl
theorem q_873 : Cond.selects RX6 yX6_failedCommand yX6_failedCommand ∈ sw_all := sw_q (qt_5 _ (List.mem_of_getElem? (i := 182) rfl)) rfl
theorem q_874 : Cond.code yX6_failedCommand prog_1_method_48_code 1 (Option.some .int) ∈ sw_all := sw_q (qt_5 _ (List.mem_of_getElem? (i := 183) rfl)) rfl
theorem q_875 : Cond.methodLink RL 327 yL_writeDoor ∈ sw_all := sw_q (qt_5 _ (List.mem_of_getElem? (i := 184) rfl)) rfl
theorem q_876 : Cond.static yL_writeDoor ∈ sw_all := sw_q (qt_5 _ (List.mem_of_getElem? (i := 185) rfl)) rfl
theorem q_877 : Cond.methodLink RL 141 yX6_writeDoor ∈ sw_all := sw_q (qt_5 _ (List.mem_of_getElem? (i := 187) rfl)) rfl
theorem q_878 : Cond.instanceMethod yX6_writeDoor ∈ sw_all := sw_q (qt_5 _ (List.mem_of_getElem? (i := 188) rfl)) rfl
theorem q_879 : Cond.selects RX6 yX6_writeDoor yX6_writeDoor ∈ sw_all := sw_q (qt_5 _ (List.mem_of_getElem? (i := 189) rfl)) rfl
theorem q_880 : Cond.code yX6_writeDoor prog_1_method_49_code 2 (Option.some .int) ∈ sw_all := sw_q (qt_5 _ (List.mem_of_getElem? (i := 190) rfl)) rfl
theorem q_881 : Cond.methodLink RX6 290 yX1_showDoor ∈ sw_all := sw_q (qt_5 _ (List.mem_of_getElem? (i := 191) rfl)) rfl
theorem q_882 : Cond.instanceMethod yX1_showDoor ∈ sw_all := sw_q (qt_5 _ (List.mem_of_getElem? (i := 192) rfl)) rfl
theorem q_883 : Cond.selects RX1 yX1_showDoor yX1_showDoor ∈ sw_all := sw_q (qt_5 _ (List.mem_of_getElem? (i := 193) rfl)) rfl
theorem q_884 : Cond.code yX1_showDoor prog_3_method_2_code 4 none ∈ sw_all := sw_q (qt_5 _ (List.mem_of_getElem? (i := 194) rfl)) rfl
theorem q_885 : Cond.methodLink RX1 24 yX1_put ∈ sw_all := sw_q (qt_5 _ (List.mem_of_getElem? (i := 195) rfl)) rfl
theorem q_886 : Cond.instanceMethod yX1_put ∈ sw_all := sw_q (qt_5 _ (List.mem_of_getElem? (i := 197) rfl)) rfl
theorem q_887 : Cond.code yX1_put prog_3_method_6_code 2 none ∈ sw_all := sw_q (qt_5 _ (List.mem_of_getElem? (i := 198) rfl)) rfl
theorem q_888 : Cond.methodLink RX1 32 yX1_putNumber ∈ sw_all := sw_q (qt_5 _ (List.mem_of_getElem? (i := 199) rfl)) rfl
theorem q_889 : Cond.instanceMethod yX1_putNumber ∈ sw_all := sw_q (qt_5 _ (List.mem_of_getElem? (i := 201) rfl)) rfl
theorem q_890 : Cond.code yX1_putNumber prog_3_method_5_code 2 none ∈ sw_all := sw_q (qt_5 _ (List.mem_of_getElem? (i := 202) rfl)) rfl
theorem q_891 : Cond.methodLink RX1 39 yX5_assigned ∈ sw_all := sw_q (qt_5 _ (List.mem_of_getElem? (i := 203) rfl)) rfl
theorem q_892 : Cond.methodLink RX1 47 yX1_putIfThere ∈ sw_all := sw_q (qt_5 _ (List.mem_of_getElem? (i := 204) rfl)) rfl
theorem q_893 : Cond.instanceMethod yX1_putIfThere ∈ sw_all := sw_q (qt_5 _ (List.mem_of_getElem? (i := 206) rfl)) rfl
theorem q_894 : Cond.code yX1_putIfThere prog_3_method_4_code 3 none ∈ sw_all := sw_q (qt_5 _ (List.mem_of_getElem? (i := 207) rfl)) rfl
theorem q_895 : Cond.methodLink RX1 51 yX5_median ∈ sw_all := sw_q (qt_5 _ (List.mem_of_getElem? (i := 208) rfl)) rfl
theorem q_896 : Cond.methodLink RX1 55 yX5_holdsDegree ∈ sw_all := sw_q (qt_5 _ (List.mem_of_getElem? (i := 209) rfl)) rfl
theorem q_897 : Cond.instanceMethod yX5_holdsDegree ∈ sw_all := sw_q (qt_5 _ (List.mem_of_getElem? (i := 210) rfl)) rfl
theorem q_898 : Cond.selects RX5 yX5_holdsDegree yX5_holdsDegree ∈ sw_all := sw_q (qt_5 _ (List.mem_of_getElem? (i := 211) rfl)) rfl
theorem q_899 : Cond.code yX5_holdsDegree prog_7_method_20_code 3 (Option.some .boolean) ∈ sw_all := sw_q (qt_5 _ (List.mem_of_getElem? (i := 212) rfl)) rfl
theorem q_900 : Cond.methodLink RL 330 yL_writeExaminer ∈ sw_all := sw_q (qt_5 _ (List.mem_of_getElem? (i := 213) rfl)) rfl
theorem q_901 : Cond.static yL_writeExaminer ∈ sw_all := sw_q (qt_5 _ (List.mem_of_getElem? (i := 214) rfl)) rfl
theorem q_902 : Cond.methodLink RL 144 yX6_writeExaminer ∈ sw_all := sw_q (qt_5 _ (List.mem_of_getElem? (i := 216) rfl)) rfl
theorem q_903 : Cond.instanceMethod yX6_writeExaminer ∈ sw_all := sw_q (qt_5 _ (List.mem_of_getElem? (i := 217) rfl)) rfl
theorem q_904 : Cond.selects RX6 yX6_writeExaminer yX6_writeExaminer ∈ sw_all := sw_q (qt_5 _ (List.mem_of_getElem? (i := 218) rfl)) rfl
theorem q_905 : Cond.code yX6_writeExaminer prog_1_method_50_code 2 (Option.some .int) ∈ sw_all := sw_q (qt_5 _ (List.mem_of_getElem? (i := 219) rfl)) rfl
theorem q_906 : Cond.methodLink RX6 295 yX1_showExaminer ∈ sw_all := sw_q (qt_5 _ (List.mem_of_getElem? (i := 220) rfl)) rfl
theorem q_907 : Cond.instanceMethod yX1_showExaminer ∈ sw_all := sw_q (qt_5 _ (List.mem_of_getElem? (i := 221) rfl)) rfl
theorem q_908 : Cond.selects RX1 yX1_showExaminer yX1_showExaminer ∈ sw_all := sw_q (qt_5 _ (List.mem_of_getElem? (i := 222) rfl)) rfl
theorem q_909 : Cond.code yX1_showExaminer prog_3_method_3_code 4 none ∈ sw_all := sw_q (qt_5 _ (List.mem_of_getElem? (i := 223) rfl)) rfl
theorem q_910 : Cond.methodLink RX1 62 yX5_loadOf ∈ sw_all := sw_q (qt_5 _ (List.mem_of_getElem? (i := 224) rfl)) rfl
theorem q_911 : Cond.methodLink RL 333 yL_outputAt ∈ sw_all := sw_q (qt_5 _ (List.mem_of_getElem? (i := 226) rfl)) rfl
theorem q_912 : Cond.static yL_outputAt ∈ sw_all := sw_q (qt_5 _ (List.mem_of_getElem? (i := 227) rfl)) rfl
theorem q_913 : Cond.methodLink RL 147 yX6_outputAt ∈ sw_all := sw_q (qt_5 _ (List.mem_of_getElem? (i := 229) rfl)) rfl
theorem q_914 : Cond.instanceMethod yX6_outputAt ∈ sw_all := sw_q (qt_5 _ (List.mem_of_getElem? (i := 230) rfl)) rfl
theorem q_915 : Cond.selects RX6 yX6_outputAt yX6_outputAt ∈ sw_all := sw_q (qt_5 _ (List.mem_of_getElem? (i := 231) rfl)) rfl
theorem q_916 : Cond.code yX6_outputAt prog_1_method_51_code 2 (Option.some .char) ∈ sw_all := sw_q (qt_5 _ (List.mem_of_getElem? (i := 232) rfl)) rfl
theorem q_917 : Cond.methodLink RL 336 yL_undo ∈ sw_all := sw_q (qt_5 _ (List.mem_of_getElem? (i := 233) rfl)) rfl
theorem q_918 : Cond.static yL_undo ∈ sw_all := sw_q (qt_5 _ (List.mem_of_getElem? (i := 234) rfl)) rfl
theorem q_919 : Cond.methodLink RL 150 yX6_undo ∈ sw_all := sw_q (qt_5 _ (List.mem_of_getElem? (i := 236) rfl)) rfl
theorem q_920 : Cond.instanceMethod yX6_undo ∈ sw_all := sw_q (qt_5 _ (List.mem_of_getElem? (i := 237) rfl)) rfl
theorem q_921 : Cond.selects RX6 yX6_undo yX6_undo ∈ sw_all := sw_q (qt_5 _ (List.mem_of_getElem? (i := 238) rfl)) rfl
theorem q_922 : Cond.code yX6_undo prog_1_method_52_code 1 (Option.some .int) ∈ sw_all := sw_q (qt_5 _ (List.mem_of_getElem? (i := 239) rfl)) rfl
theorem q_923 : Cond.methodLink RX6 307 yX0_stepBack ∈ sw_all := sw_q (qt_6 _ (List.mem_of_getElem? (i := 0) rfl)) rfl
theorem q_924 : Cond.instanceMethod yX0_stepBack ∈ sw_all := sw_q (qt_6 _ (List.mem_of_getElem? (i := 1) rfl)) rfl
theorem q_925 : Cond.selects RX0 yX0_stepBack yX0_stepBack ∈ sw_all := sw_q (qt_6 _ (List.mem_of_getElem? (i := 2) rfl)) rfl
theorem q_926 : Cond.code yX0_stepBack prog_2_method_5_code 2 none ∈ sw_all := sw_q (qt_6 _ (List.mem_of_getElem? (i := 3) rfl)) rfl
theorem q_927 : Cond.methodLink RX0 33 yX0_takeBack ∈ sw_all := sw_q (qt_6 _ (List.mem_of_getElem? (i := 4) rfl)) rfl
theorem q_928 : Cond.methodLink RL 343 yL_restore ∈ sw_all := sw_q (qt_6 _ (List.mem_of_getElem? (i := 5) rfl)) rfl
theorem q_929 : Cond.static yL_restore ∈ sw_all := sw_q (qt_6 _ (List.mem_of_getElem? (i := 6) rfl)) rfl
theorem q_930 : Cond.methodLink RL 153 yX6_restore ∈ sw_all := sw_q (qt_6 _ (List.mem_of_getElem? (i := 8) rfl)) rfl
theorem q_931 : Cond.instanceMethod yX6_restore ∈ sw_all := sw_q (qt_6 _ (List.mem_of_getElem? (i := 9) rfl)) rfl
theorem q_932 : Cond.selects RX6 yX6_restore yX6_restore ∈ sw_all := sw_q (qt_6 _ (List.mem_of_getElem? (i := 10) rfl)) rfl
theorem q_933 : Cond.code yX6_restore prog_1_method_54_code 1 none ∈ sw_all := sw_q (qt_6 _ (List.mem_of_getElem? (i := 11) rfl)) rfl
theorem q_934 : Cond.methodLink RX6 313 yX0_forget ∈ sw_all := sw_q (qt_6 _ (List.mem_of_getElem? (i := 12) rfl)) rfl
theorem q_935 : Cond.instanceMethod yX0_forget ∈ sw_all := sw_q (qt_6 _ (List.mem_of_getElem? (i := 13) rfl)) rfl
theorem q_936 : Cond.selects RX0 yX0_forget yX0_forget ∈ sw_all := sw_q (qt_6 _ (List.mem_of_getElem? (i := 14) rfl)) rfl
theorem q_937 : Cond.code yX0_forget prog_2_method_6_code 1 none ∈ sw_all := sw_q (qt_6 _ (List.mem_of_getElem? (i := 15) rfl)) rfl
theorem q_938 : Cond.classLink RL 157 RX7 ∈ sw_all := sw_q (qt_6 _ (List.mem_of_getElem? (i := 16) rfl)) rfl
theorem q_939 : Cond.instantiable RX7 22 ∈ sw_all := sw_q (qt_6 _ (List.mem_of_getElem? (i := 17) rfl)) rfl
theorem q_940 : Cond.methodLink RL 159 yX7_init ∈ sw_all := sw_q (qt_6 _ (List.mem_of_getElem? (i := 18) rfl)) rfl
theorem q_941 : Cond.instanceMethod yX7_init ∈ sw_all := sw_q (qt_6 _ (List.mem_of_getElem? (i := 19) rfl)) rfl
theorem q_942 : Cond.code yX7_init prog_9_method_1_code 1 none ∈ sw_all := sw_q (qt_6 _ (List.mem_of_getElem? (i := 20) rfl)) rfl
theorem q_943 : Cond.methodLink RX7 3 ⟨"java/lang/Object", "<init>", "()V"⟩ ∈ sw_all := sw_q (qt_6 _ (List.mem_of_getElem? (i := 21) rfl)) rfl
theorem q_944 : Cond.fieldLink RX7 9 "DoorAcademyModel" "s" "[I" ∈ sw_all := sw_q (qt_6 _ (List.mem_of_getElem? (i := 22) rfl)) rfl
theorem q_945 : Cond.fieldLink RX7 13 "DoorAcademyModel" "before" "[I" ∈ sw_all := sw_q (qt_6 _ (List.mem_of_getElem? (i := 23) rfl)) rfl
theorem q_946 : Cond.fieldLink RX7 16 "DoorAcademyModel" "saved" "[I" ∈ sw_all := sw_q (qt_6 _ (List.mem_of_getElem? (i := 24) rfl)) rfl
theorem q_947 : Cond.fieldLink RX7 309 "DoorAcademyModel" "isSaved" "Z" ∈ sw_all := sw_q (qt_6 _ (List.mem_of_getElem? (i := 25) rfl)) rfl
theorem q_948 : Cond.fieldLink RX7 19 "DoorAcademyModel" "past" "[I" ∈ sw_all := sw_q (qt_6 _ (List.mem_of_getElem? (i := 26) rfl)) rfl
theorem q_949 : Cond.fieldLink RX7 64 "DoorAcademyModel" "pastMany" "I" ∈ sw_all := sw_q (qt_6 _ (List.mem_of_getElem? (i := 27) rfl)) rfl
theorem q_950 : Cond.fieldLink RX7 55 "DoorAcademyModel" "thrown" "I" ∈ sw_all := sw_q (qt_6 _ (List.mem_of_getElem? (i := 28) rfl)) rfl
theorem q_951 : Cond.fieldLink RX7 22 "DoorAcademyModel" "seats" "[I" ∈ sw_all := sw_q (qt_6 _ (List.mem_of_getElem? (i := 29) rfl)) rfl
theorem q_952 : Cond.fieldLink RX7 25 "DoorAcademyModel" "owners" "[I" ∈ sw_all := sw_q (qt_6 _ (List.mem_of_getElem? (i := 30) rfl)) rfl
theorem q_953 : Cond.fieldLink RX7 28 "DoorAcademyModel" "isTried" "[Z" ∈ sw_all := sw_q (qt_6 _ (List.mem_of_getElem? (i := 31) rfl)) rfl
theorem q_954 : Cond.fieldLink RX7 32 "DoorAcademyModel" "planned" "[I" ∈ sw_all := sw_q (qt_6 _ (List.mem_of_getElem? (i := 32) rfl)) rfl
theorem q_955 : Cond.fieldLink RX7 35 "DoorAcademyModel" "members" "[I" ∈ sw_all := sw_q (qt_6 _ (List.mem_of_getElem? (i := 33) rfl)) rfl
theorem q_956 : Cond.fieldLink RX7 38 "DoorAcademyModel" "text" "[C" ∈ sw_all := sw_q (qt_6 _ (List.mem_of_getElem? (i := 34) rfl)) rfl
theorem q_957 : Cond.fieldLink RX7 220 "DoorAcademyModel" "length" "I" ∈ sw_all := sw_q (qt_6 _ (List.mem_of_getElem? (i := 35) rfl)) rfl
theorem q_958 : Cond.fieldLink RX7 223 "DoorAcademyModel" "at" "I" ∈ sw_all := sw_q (qt_6 _ (List.mem_of_getElem? (i := 36) rfl)) rfl
theorem q_959 : Cond.fieldLink RX7 230 "DoorAcademyModel" "isWrong" "Z" ∈ sw_all := sw_q (qt_6 _ (List.mem_of_getElem? (i := 37) rfl)) rfl
theorem q_960 : Cond.fieldLink RX7 42 "DoorAcademyModel" "errorAt" "I" ∈ sw_all := sw_q (qt_6 _ (List.mem_of_getElem? (i := 38) rfl)) rfl
theorem q_961 : Cond.fieldLink RX7 46 "DoorAcademyModel" "failedAt" "I" ∈ sw_all := sw_q (qt_6 _ (List.mem_of_getElem? (i := 39) rfl)) rfl
theorem q_962 : Cond.fieldLink RX7 49 "DoorAcademyModel" "commands" "[I" ∈ sw_all := sw_q (qt_6 _ (List.mem_of_getElem? (i := 40) rfl)) rfl
theorem q_963 : Cond.fieldLink RX7 251 "DoorAcademyModel" "commandMany" "I" ∈ sw_all := sw_q (qt_6 _ (List.mem_of_getElem? (i := 41) rfl)) rfl
theorem q_964 : Cond.fieldLink RX7 52 "DoorAcademyModel" "line" "[C" ∈ sw_all := sw_q (qt_6 _ (List.mem_of_getElem? (i := 42) rfl)) rfl
theorem q_965 : Cond.fieldLink RX7 300 "DoorAcademyModel" "lineMany" "I" ∈ sw_all := sw_q (qt_6 _ (List.mem_of_getElem? (i := 43) rfl)) rfl
theorem q_966 : Cond.methodLink RL 166 yX7_thrown ∈ sw_all := sw_q (qt_6 _ (List.mem_of_getElem? (i := 89) rfl)) rfl
theorem q_967 : Cond.instanceMethod yX7_thrown ∈ sw_all := sw_q (qt_6 _ (List.mem_of_getElem? (i := 90) rfl)) rfl
theorem q_968 : Cond.selects RX7 yX7_thrown yX7_thrown ∈ sw_all := sw_q (qt_6 _ (List.mem_of_getElem? (i := 91) rfl)) rfl
theorem q_969 : Cond.code yX7_thrown prog_9_method_2_code 1 (Option.some .int) ∈ sw_all := sw_q (qt_6 _ (List.mem_of_getElem? (i := 92) rfl)) rfl
theorem q_970 : Cond.methodLink RL 165 yX7_addDoor ∈ sw_all := sw_q (qt_6 _ (List.mem_of_getElem? (i := 93) rfl)) rfl
theorem q_971 : Cond.instanceMethod yX7_addDoor ∈ sw_all := sw_q (qt_6 _ (List.mem_of_getElem? (i := 94) rfl)) rfl
theorem q_972 : Cond.selects RX7 yX7_addDoor yX7_addDoor ∈ sw_all := sw_q (qt_6 _ (List.mem_of_getElem? (i := 95) rfl)) rfl
theorem q_973 : Cond.code yX7_addDoor prog_9_method_26_code 3 (Option.some .int) ∈ sw_all := sw_q (qt_6 _ (List.mem_of_getElem? (i := 96) rfl)) rfl
theorem q_974 : Cond.methodLink RX7 117 yX7_keep ∈ sw_all := sw_q (qt_6 _ (List.mem_of_getElem? (i := 97) rfl)) rfl
theorem q_975 : Cond.instanceMethod yX7_keep ∈ sw_all := sw_q (qt_6 _ (List.mem_of_getElem? (i := 99) rfl)) rfl
theorem q_976 : Cond.code yX7_keep prog_9_method_4_code 1 none ∈ sw_all := sw_q (qt_6 _ (List.mem_of_getElem? (i := 100) rfl)) rfl
theorem q_977 : Cond.methodLink RX7 58 ⟨RJ10, "arraycopy", "(Ljava/lang/Object;ILjava/lang/Object;II)V"⟩ ∈ sw_all := sw_q (qt_6 _ (List.mem_of_getElem? (i := 101) rfl)) rfl
theorem q_978 : Cond.static ⟨RJ10, "arraycopy", "(Ljava/lang/Object;ILjava/lang/Object;II)V"⟩ ∈ sw_all := sw_q (qt_6 _ (List.mem_of_getElem? (i := 102) rfl)) rfl
theorem q_979 : Cond.native ⟨RJ10, "arraycopy", "(Ljava/lang/Object;ILjava/lang/Object;II)V"⟩ ∈ sw_all := sw_q (qt_6 _ (List.mem_of_getElem? (i := 103) rfl)) rfl
theorem q_980 : Cond.methodLink RX7 120 yX7_doAddDoor ∈ sw_all := sw_q (qt_6 _ (List.mem_of_getElem? (i := 104) rfl)) rfl
theorem q_981 : Cond.instanceMethod yX7_doAddDoor ∈ sw_all := sw_q (qt_6 _ (List.mem_of_getElem? (i := 106) rfl)) rfl
theorem q_982 : Cond.code yX7_doAddDoor prog_9_method_25_code 5 (Option.some .int) ∈ sw_all := sw_q (qt_6 _ (List.mem_of_getElem? (i := 107) rfl)) rfl
theorem q_983 : Cond.methodLink RX7 111 yX7_isFrame ∈ sw_all := sw_q (qt_6 _ (List.mem_of_getElem? (i := 108) rfl)) rfl
theorem q_984 : Cond.static yX7_isFrame ∈ sw_all := sw_q (qt_6 _ (List.mem_of_getElem? (i := 109) rfl)) rfl
theorem q_985 : Cond.code yX7_isFrame prog_9_method_24_code 1 (Option.some .boolean) ∈ sw_all := sw_q (qt_6 _ (List.mem_of_getElem? (i := 110) rfl)) rfl
theorem q_986 : Cond.methodLink RX7 67 yX7_in ∈ sw_all := sw_q (qt_6 _ (List.mem_of_getElem? (i := 111) rfl)) rfl
theorem q_987 : Cond.static yX7_in ∈ sw_all := sw_q (qt_6 _ (List.mem_of_getElem? (i := 112) rfl)) rfl
theorem q_988 : Cond.code yX7_in prog_9_method_3_code 3 (Option.some .boolean) ∈ sw_all := sw_q (qt_6 _ (List.mem_of_getElem? (i := 113) rfl)) rfl
theorem q_989 : Cond.methodLink RX7 114 yX7_fails ∈ sw_all := sw_q (qt_6 _ (List.mem_of_getElem? (i := 114) rfl)) rfl
theorem q_990 : Cond.instanceMethod yX7_fails ∈ sw_all := sw_q (qt_6 _ (List.mem_of_getElem? (i := 116) rfl)) rfl
theorem q_991 : Cond.code yX7_fails prog_9_method_6_code 2 (Option.some .int) ∈ sw_all := sw_q (qt_6 _ (List.mem_of_getElem? (i := 117) rfl)) rfl
theorem q_992 : Cond.methodLink RX7 123 yX7_ends ∈ sw_all := sw_q (qt_6 _ (List.mem_of_getElem? (i := 118) rfl)) rfl
theorem q_993 : Cond.instanceMethod yX7_ends ∈ sw_all := sw_q (qt_6 _ (List.mem_of_getElem? (i := 120) rfl)) rfl
theorem q_994 : Cond.code yX7_ends prog_9_method_5_code 2 (Option.some .int) ∈ sw_all := sw_q (qt_6 _ (List.mem_of_getElem? (i := 121) rfl)) rfl
theorem q_995 : Cond.methodLink RL 172 yX7_addExaminer ∈ sw_all := sw_q (qt_6 _ (List.mem_of_getElem? (i := 122) rfl)) rfl
theorem q_996 : Cond.instanceMethod yX7_addExaminer ∈ sw_all := sw_q (qt_6 _ (List.mem_of_getElem? (i := 123) rfl)) rfl
theorem q_997 : Cond.selects RX7 yX7_addExaminer yX7_addExaminer ∈ sw_all := sw_q (qt_6 _ (List.mem_of_getElem? (i := 124) rfl)) rfl
theorem q_998 : Cond.code yX7_addExaminer prog_9_method_28_code 5 (Option.some .int) ∈ sw_all := sw_q (qt_6 _ (List.mem_of_getElem? (i := 125) rfl)) rfl
theorem q_999 : Cond.methodLink RX7 126 yX7_doAddExaminer ∈ sw_all := sw_q (qt_6 _ (List.mem_of_getElem? (i := 126) rfl)) rfl
theorem q_1000 : Cond.instanceMethod yX7_doAddExaminer ∈ sw_all := sw_q (qt_6 _ (List.mem_of_getElem? (i := 128) rfl)) rfl
theorem q_1001 : Cond.code yX7_doAddExaminer prog_9_method_27_code 7 (Option.some .int) ∈ sw_all := sw_q (qt_6 _ (List.mem_of_getElem? (i := 129) rfl)) rfl
theorem q_1002 : Cond.methodLink RL 176 yX7_declareConflict ∈ sw_all := sw_q (qt_6 _ (List.mem_of_getElem? (i := 130) rfl)) rfl
theorem q_1003 : Cond.instanceMethod yX7_declareConflict ∈ sw_all := sw_q (qt_6 _ (List.mem_of_getElem? (i := 131) rfl)) rfl
theorem q_1004 : Cond.selects RX7 yX7_declareConflict yX7_declareConflict ∈ sw_all := sw_q (qt_6 _ (List.mem_of_getElem? (i := 132) rfl)) rfl
theorem q_1005 : Cond.code yX7_declareConflict prog_9_method_30_code 3 (Option.some .int) ∈ sw_all := sw_q (qt_6 _ (List.mem_of_getElem? (i := 133) rfl)) rfl
theorem q_1006 : Cond.methodLink RX7 140 yX7_doConflict ∈ sw_all := sw_q (qt_6 _ (List.mem_of_getElem? (i := 134) rfl)) rfl
theorem q_1007 : Cond.instanceMethod yX7_doConflict ∈ sw_all := sw_q (qt_6 _ (List.mem_of_getElem? (i := 136) rfl)) rfl
theorem q_1008 : Cond.code yX7_doConflict prog_9_method_29_code 5 (Option.some .int) ∈ sw_all := sw_q (qt_6 _ (List.mem_of_getElem? (i := 137) rfl)) rfl
theorem q_1009 : Cond.methodLink RX7 130 yX7_arePair ∈ sw_all := sw_q (qt_6 _ (List.mem_of_getElem? (i := 138) rfl)) rfl
theorem q_1010 : Cond.instanceMethod yX7_arePair ∈ sw_all := sw_q (qt_6 _ (List.mem_of_getElem? (i := 140) rfl)) rfl
theorem q_1011 : Cond.code yX7_arePair prog_9_method_10_code 3 (Option.some .boolean) ∈ sw_all := sw_q (qt_6 _ (List.mem_of_getElem? (i := 141) rfl)) rfl
theorem q_1012 : Cond.methodLink RX7 71 yX7_isExaminer ∈ sw_all := sw_q (qt_6 _ (List.mem_of_getElem? (i := 142) rfl)) rfl
theorem q_1013 : Cond.instanceMethod yX7_isExaminer ∈ sw_all := sw_q (qt_6 _ (List.mem_of_getElem? (i := 144) rfl)) rfl
theorem q_1014 : Cond.code yX7_isExaminer prog_9_method_9_code 2 (Option.some .boolean) ∈ sw_all := sw_q (qt_6 _ (List.mem_of_getElem? (i := 145) rfl)) rfl
theorem q_1015 : Cond.methodLink RX7 75 yX7_isDoor ∈ sw_all := sw_q (qt_6 _ (List.mem_of_getElem? (i := 146) rfl)) rfl
theorem q_1016 : Cond.instanceMethod yX7_isDoor ∈ sw_all := sw_q (qt_6 _ (List.mem_of_getElem? (i := 148) rfl)) rfl
theorem q_1017 : Cond.code yX7_isDoor prog_9_method_8_code 2 (Option.some .boolean) ∈ sw_all := sw_q (qt_6 _ (List.mem_of_getElem? (i := 149) rfl)) rfl
theorem q_1018 : Cond.methodLink RX7 85 yX7_pair ∈ sw_all := sw_q (qt_6 _ (List.mem_of_getElem? (i := 150) rfl)) rfl
theorem q_1019 : Cond.instanceMethod yX7_pair ∈ sw_all := sw_q (qt_6 _ (List.mem_of_getElem? (i := 152) rfl)) rfl
theorem q_1020 : Cond.code yX7_pair prog_9_method_13_code 4 (Option.some .int) ∈ sw_all := sw_q (qt_6 _ (List.mem_of_getElem? (i := 153) rfl)) rfl
theorem q_1021 : Cond.methodLink RX7 133 yX7_assigned ∈ sw_all := sw_q (qt_6 _ (List.mem_of_getElem? (i := 154) rfl)) rfl
theorem q_1022 : Cond.instanceMethod yX7_assigned ∈ sw_all := sw_q (qt_6 _ (List.mem_of_getElem? (i := 156) rfl)) rfl
theorem q_1023 : Cond.code yX7_assigned prog_9_method_17_code 3 (Option.some .boolean) ∈ sw_all := sw_q (qt_6 _ (List.mem_of_getElem? (i := 157) rfl)) rfl
theorem q_1024 : Cond.methodLink RX7 136 yX7_setsPair ∈ sw_all := sw_q (qt_6 _ (List.mem_of_getElem? (i := 158) rfl)) rfl
theorem q_1025 : Cond.instanceMethod yX7_setsPair ∈ sw_all := sw_q (qt_6 _ (List.mem_of_getElem? (i := 160) rfl)) rfl
theorem q_1026 : Cond.code yX7_setsPair prog_9_method_14_code 5 none ∈ sw_all := sw_q (qt_6 _ (List.mem_of_getElem? (i := 161) rfl)) rfl
theorem q_1027 : Cond.methodLink RX7 89 yX7_neutral ∈ sw_all := sw_q (qt_6 _ (List.mem_of_getElem? (i := 162) rfl)) rfl
theorem q_1028 : Cond.instanceMethod yX7_neutral ∈ sw_all := sw_q (qt_6 _ (List.mem_of_getElem? (i := 164) rfl)) rfl
theorem q_1029 : Cond.code yX7_neutral prog_9_method_15_code 3 (Option.some .boolean) ∈ sw_all := sw_q (qt_6 _ (List.mem_of_getElem? (i := 165) rfl)) rfl
theorem q_1030 : Cond.methodLink RX7 78 yX7_examiner ∈ sw_all := sw_q (qt_6 _ (List.mem_of_getElem? (i := 166) rfl)) rfl
theorem q_1031 : Cond.instanceMethod yX7_examiner ∈ sw_all := sw_q (qt_6 _ (List.mem_of_getElem? (i := 168) rfl)) rfl
theorem q_1032 : Cond.code yX7_examiner prog_9_method_12_code 3 (Option.some .int) ∈ sw_all := sw_q (qt_6 _ (List.mem_of_getElem? (i := 169) rfl)) rfl
theorem q_1033 : Cond.methodLink RX7 82 yX7_door ∈ sw_all := sw_q (qt_6 _ (List.mem_of_getElem? (i := 170) rfl)) rfl
theorem q_1034 : Cond.instanceMethod yX7_door ∈ sw_all := sw_q (qt_6 _ (List.mem_of_getElem? (i := 172) rfl)) rfl
theorem q_1035 : Cond.code yX7_door prog_9_method_11_code 3 (Option.some .int) ∈ sw_all := sw_q (qt_6 _ (List.mem_of_getElem? (i := 173) rfl)) rfl
theorem q_1036 : Cond.methodLink RL 179 yX7_assign ∈ sw_all := sw_q (qt_6 _ (List.mem_of_getElem? (i := 174) rfl)) rfl
theorem q_1037 : Cond.instanceMethod yX7_assign ∈ sw_all := sw_q (qt_6 _ (List.mem_of_getElem? (i := 175) rfl)) rfl
theorem q_1038 : Cond.selects RX7 yX7_assign yX7_assign ∈ sw_all := sw_q (qt_6 _ (List.mem_of_getElem? (i := 176) rfl)) rfl
theorem q_1039 : Cond.code yX7_assign prog_9_method_32_code 3 (Option.some .int) ∈ sw_all := sw_q (qt_6 _ (List.mem_of_getElem? (i := 177) rfl)) rfl
theorem q_1040 : Cond.methodLink RX7 152 yX7_doAssign ∈ sw_all := sw_q (qt_6 _ (List.mem_of_getElem? (i := 178) rfl)) rfl
theorem q_1041 : Cond.instanceMethod yX7_doAssign ∈ sw_all := sw_q (qt_6 _ (List.mem_of_getElem? (i := 180) rfl)) rfl
theorem q_1042 : Cond.code yX7_doAssign prog_9_method_31_code 4 (Option.some .int) ∈ sw_all := sw_q (qt_6 _ (List.mem_of_getElem? (i := 181) rfl)) rfl
theorem q_1043 : Cond.methodLink RX7 143 yX7_examinersAt ∈ sw_all := sw_q (qt_6 _ (List.mem_of_getElem? (i := 182) rfl)) rfl
theorem q_1044 : Cond.instanceMethod yX7_examinersAt ∈ sw_all := sw_q (qt_6 _ (List.mem_of_getElem? (i := 184) rfl)) rfl
theorem q_1045 : Cond.code yX7_examinersAt prog_9_method_19_code 4 (Option.some .int) ∈ sw_all := sw_q (qt_6 _ (List.mem_of_getElem? (i := 185) rfl)) rfl
theorem q_1046 : Cond.methodLink RX7 146 yX7_loadOf ∈ sw_all := sw_q (qt_6 _ (List.mem_of_getElem? (i := 186) rfl)) rfl
theorem q_1047 : Cond.instanceMethod yX7_loadOf ∈ sw_all := sw_q (qt_6 _ (List.mem_of_getElem? (i := 188) rfl)) rfl
theorem q_1048 : Cond.code yX7_loadOf prog_9_method_18_code 4 (Option.some .int) ∈ sw_all := sw_q (qt_6 _ (List.mem_of_getElem? (i := 189) rfl)) rfl
theorem q_1049 : Cond.methodLink RX7 149 yX7_judges ∈ sw_all := sw_q (qt_6 _ (List.mem_of_getElem? (i := 190) rfl)) rfl
theorem q_1050 : Cond.instanceMethod yX7_judges ∈ sw_all := sw_q (qt_6 _ (List.mem_of_getElem? (i := 192) rfl)) rfl
theorem q_1051 : Cond.code yX7_judges prog_9_method_16_code 3 (Option.some .boolean) ∈ sw_all := sw_q (qt_6 _ (List.mem_of_getElem? (i := 193) rfl)) rfl
theorem q_1052 : Cond.methodLink RL 183 yX7_carryOutPlan ∈ sw_all := sw_q (qt_6 _ (List.mem_of_getElem? (i := 194) rfl)) rfl
theorem q_1053 : Cond.instanceMethod yX7_carryOutPlan ∈ sw_all := sw_q (qt_6 _ (List.mem_of_getElem? (i := 195) rfl)) rfl
theorem q_1054 : Cond.selects RX7 yX7_carryOutPlan yX7_carryOutPlan ∈ sw_all := sw_q (qt_6 _ (List.mem_of_getElem? (i := 196) rfl)) rfl
theorem q_1055 : Cond.code yX7_carryOutPlan prog_9_method_39_code 1 (Option.some .int) ∈ sw_all := sw_q (qt_6 _ (List.mem_of_getElem? (i := 197) rfl)) rfl
theorem q_1056 : Cond.methodLink RX7 171 yX7_doPlan ∈ sw_all := sw_q (qt_6 _ (List.mem_of_getElem? (i := 198) rfl)) rfl
theorem q_1057 : Cond.instanceMethod yX7_doPlan ∈ sw_all := sw_q (qt_6 _ (List.mem_of_getElem? (i := 200) rfl)) rfl
theorem q_1058 : Cond.code yX7_doPlan prog_9_method_38_code 3 (Option.some .int) ∈ sw_all := sw_q (qt_6 _ (List.mem_of_getElem? (i := 201) rfl)) rfl
theorem q_1059 : Cond.methodLink RX7 167 yX7_plans ∈ sw_all := sw_q (qt_6 _ (List.mem_of_getElem? (i := 202) rfl)) rfl
theorem q_1060 : Cond.instanceMethod yX7_plans ∈ sw_all := sw_q (qt_6 _ (List.mem_of_getElem? (i := 204) rfl)) rfl
theorem q_1061 : Cond.code yX7_plans prog_9_method_37_code 6 (Option.some .int) ∈ sw_all := sw_q (qt_6 _ (List.mem_of_getElem? (i := 205) rfl)) rfl
theorem q_1062 : Cond.methodLink RX7 161 yX7_countsSeats ∈ sw_all := sw_q (qt_6 _ (List.mem_of_getElem? (i := 206) rfl)) rfl
theorem q_1063 : Cond.instanceMethod yX7_countsSeats ∈ sw_all := sw_q (qt_6 _ (List.mem_of_getElem? (i := 208) rfl)) rfl
theorem q_1064 : Cond.code yX7_countsSeats prog_9_method_36_code 2 none ∈ sw_all := sw_q (qt_6 _ (List.mem_of_getElem? (i := 209) rfl)) rfl
theorem q_1065 : Cond.methodLink RX7 164 yX7_mostFrom ∈ sw_all := sw_q (qt_6 _ (List.mem_of_getElem? (i := 210) rfl)) rfl
theorem q_1066 : Cond.instanceMethod yX7_mostFrom ∈ sw_all := sw_q (qt_6 _ (List.mem_of_getElem? (i := 212) rfl)) rfl
theorem q_1067 : Cond.code yX7_mostFrom prog_9_method_35_code 5 (Option.some .int) ∈ sw_all := sw_q (qt_6 _ (List.mem_of_getElem? (i := 213) rfl)) rfl
theorem q_1068 : Cond.methodLink RX7 158 yX7_seat ∈ sw_all := sw_q (qt_6 _ (List.mem_of_getElem? (i := 214) rfl)) rfl
theorem q_1069 : Cond.instanceMethod yX7_seat ∈ sw_all := sw_q (qt_6 _ (List.mem_of_getElem? (i := 216) rfl)) rfl
theorem q_1070 : Cond.code yX7_seat prog_9_method_34_code 5 (Option.some .boolean) ∈ sw_all := sw_q (qt_6 _ (List.mem_of_getElem? (i := 217) rfl)) rfl
theorem q_1071 : Cond.methodLink RX7 155 yX7_canGet ∈ sw_all := sw_q (qt_6 _ (List.mem_of_getElem? (i := 218) rfl)) rfl
theorem q_1072 : Cond.instanceMethod yX7_canGet ∈ sw_all := sw_q (qt_6 _ (List.mem_of_getElem? (i := 220) rfl)) rfl
theorem q_1073 : Cond.code yX7_canGet prog_9_method_33_code 3 (Option.some .boolean) ∈ sw_all := sw_q (qt_6 _ (List.mem_of_getElem? (i := 221) rfl)) rfl
theorem q_1074 : Cond.methodLink RL 187 yX7_grade ∈ sw_all := sw_q (qt_6 _ (List.mem_of_getElem? (i := 222) rfl)) rfl
theorem q_1075 : Cond.instanceMethod yX7_grade ∈ sw_all := sw_q (qt_6 _ (List.mem_of_getElem? (i := 223) rfl)) rfl
theorem q_1076 : Cond.selects RX7 yX7_grade yX7_grade ∈ sw_all := sw_q (qt_6 _ (List.mem_of_getElem? (i := 224) rfl)) rfl
theorem q_1077 : Cond.code yX7_grade prog_9_method_41_code 4 (Option.some .int) ∈ sw_all := sw_q (qt_6 _ (List.mem_of_getElem? (i := 225) rfl)) rfl
theorem q_1078 : Cond.methodLink RX7 174 yX7_doGrade ∈ sw_all := sw_q (qt_6 _ (List.mem_of_getElem? (i := 226) rfl)) rfl
theorem q_1079 : Cond.instanceMethod yX7_doGrade ∈ sw_all := sw_q (qt_6 _ (List.mem_of_getElem? (i := 228) rfl)) rfl
theorem q_1080 : Cond.code yX7_doGrade prog_9_method_40_code 4 (Option.some .int) ∈ sw_all := sw_q (qt_6 _ (List.mem_of_getElem? (i := 229) rfl)) rfl
theorem q_1081 : Cond.methodLink RX7 101 yX7_gradesAt ∈ sw_all := sw_q (qt_6 _ (List.mem_of_getElem? (i := 230) rfl)) rfl
theorem q_1082 : Cond.instanceMethod yX7_gradesAt ∈ sw_all := sw_q (qt_6 _ (List.mem_of_getElem? (i := 232) rfl)) rfl
theorem q_1083 : Cond.code yX7_gradesAt prog_9_method_20_code 4 (Option.some .int) ∈ sw_all := sw_q (qt_6 _ (List.mem_of_getElem? (i := 233) rfl)) rfl
theorem q_1084 : Cond.methodLink RL 191 yX7_setThreshold ∈ sw_all := sw_q (qt_6 _ (List.mem_of_getElem? (i := 234) rfl)) rfl
theorem q_1085 : Cond.instanceMethod yX7_setThreshold ∈ sw_all := sw_q (qt_6 _ (List.mem_of_getElem? (i := 235) rfl)) rfl
theorem q_1086 : Cond.selects RX7 yX7_setThreshold yX7_setThreshold ∈ sw_all := sw_q (qt_6 _ (List.mem_of_getElem? (i := 236) rfl)) rfl
theorem q_1087 : Cond.code yX7_setThreshold prog_9_method_43_code 2 (Option.some .int) ∈ sw_all := sw_q (qt_6 _ (List.mem_of_getElem? (i := 237) rfl)) rfl
theorem q_1088 : Cond.methodLink RX7 177 yX7_doThreshold ∈ sw_all := sw_q (qt_6 _ (List.mem_of_getElem? (i := 238) rfl)) rfl
theorem q_1089 : Cond.instanceMethod yX7_doThreshold ∈ sw_all := sw_q (qt_7 _ (List.mem_of_getElem? (i := 0) rfl)) rfl
theorem q_1090 : Cond.code yX7_doThreshold prog_9_method_42_code 3 (Option.some .int) ∈ sw_all := sw_q (qt_7 _ (List.mem_of_getElem? (i := 1) rfl)) rfl
theorem q_1091 : Cond.methodLink RL 194 yX7_appeal ∈ sw_all := sw_q (qt_7 _ (List.mem_of_getElem? (i := 2) rfl)) rfl
theorem q_1092 : Cond.instanceMethod yX7_appeal ∈ sw_all := sw_q (qt_7 _ (List.mem_of_getElem? (i := 3) rfl)) rfl
theorem q_1093 : Cond.selects RX7 yX7_appeal yX7_appeal ∈ sw_all := sw_q (qt_7 _ (List.mem_of_getElem? (i := 4) rfl)) rfl
theorem q_1094 : Cond.code yX7_appeal prog_9_method_47_code 2 (Option.some .int) ∈ sw_all := sw_q (qt_7 _ (List.mem_of_getElem? (i := 5) rfl)) rfl
theorem q_1095 : Cond.methodLink RX7 186 yX7_doAppeal ∈ sw_all := sw_q (qt_7 _ (List.mem_of_getElem? (i := 6) rfl)) rfl
theorem q_1096 : Cond.instanceMethod yX7_doAppeal ∈ sw_all := sw_q (qt_7 _ (List.mem_of_getElem? (i := 8) rfl)) rfl
theorem q_1097 : Cond.code yX7_doAppeal prog_9_method_46_code 8 (Option.some .int) ∈ sw_all := sw_q (qt_7 _ (List.mem_of_getElem? (i := 9) rfl)) rfl
theorem q_1098 : Cond.methodLink RX7 105 yX7_resultOf ∈ sw_all := sw_q (qt_7 _ (List.mem_of_getElem? (i := 10) rfl)) rfl
theorem q_1099 : Cond.instanceMethod yX7_resultOf ∈ sw_all := sw_q (qt_7 _ (List.mem_of_getElem? (i := 12) rfl)) rfl
theorem q_1100 : Cond.code yX7_resultOf prog_9_method_21_code 7 (Option.some .int) ∈ sw_all := sw_q (qt_7 _ (List.mem_of_getElem? (i := 13) rfl)) rfl
theorem q_1101 : Cond.methodLink RX7 93 yJ9_max_7cf53 ∈ sw_all := sw_q (qt_7 _ (List.mem_of_getElem? (i := 14) rfl)) rfl
theorem q_1102 : Cond.methodLink RX7 98 yJ9_min_7cf53 ∈ sw_all := sw_q (qt_7 _ (List.mem_of_getElem? (i := 15) rfl)) rfl
theorem q_1103 : Cond.methodLink RX7 108 yX7_hasPassed ∈ sw_all := sw_q (qt_7 _ (List.mem_of_getElem? (i := 16) rfl)) rfl
theorem q_1104 : Cond.instanceMethod yX7_hasPassed ∈ sw_all := sw_q (qt_7 _ (List.mem_of_getElem? (i := 18) rfl)) rfl
theorem q_1105 : Cond.code yX7_hasPassed prog_9_method_22_code 3 (Option.some .boolean) ∈ sw_all := sw_q (qt_7 _ (List.mem_of_getElem? (i := 19) rfl)) rfl
theorem q_1106 : Cond.methodLink RX7 183 yX7_panels ∈ sw_all := sw_q (qt_7 _ (List.mem_of_getElem? (i := 20) rfl)) rfl
theorem q_1107 : Cond.instanceMethod yX7_panels ∈ sw_all := sw_q (qt_7 _ (List.mem_of_getElem? (i := 22) rfl)) rfl
theorem q_1108 : Cond.code yX7_panels prog_9_method_45_code 9 (Option.some .int) ∈ sw_all := sw_q (qt_7 _ (List.mem_of_getElem? (i := 23) rfl)) rfl
theorem q_1109 : Cond.methodLink RX7 180 yX7_canSit ∈ sw_all := sw_q (qt_7 _ (List.mem_of_getElem? (i := 24) rfl)) rfl
theorem q_1110 : Cond.instanceMethod yX7_canSit ∈ sw_all := sw_q (qt_7 _ (List.mem_of_getElem? (i := 26) rfl)) rfl
theorem q_1111 : Cond.code yX7_canSit prog_9_method_44_code 3 (Option.some .boolean) ∈ sw_all := sw_q (qt_7 _ (List.mem_of_getElem? (i := 27) rfl)) rfl
theorem q_1112 : Cond.methodLink RL 197 yX7_award ∈ sw_all := sw_q (qt_7 _ (List.mem_of_getElem? (i := 28) rfl)) rfl
theorem q_1113 : Cond.instanceMethod yX7_award ∈ sw_all := sw_q (qt_7 _ (List.mem_of_getElem? (i := 29) rfl)) rfl
theorem q_1114 : Cond.selects RX7 yX7_award yX7_award ∈ sw_all := sw_q (qt_7 _ (List.mem_of_getElem? (i := 30) rfl)) rfl
theorem q_1115 : Cond.code yX7_award prog_9_method_49_code 2 (Option.some .int) ∈ sw_all := sw_q (qt_7 _ (List.mem_of_getElem? (i := 31) rfl)) rfl
theorem q_1116 : Cond.methodLink RX7 192 yX7_doAward ∈ sw_all := sw_q (qt_7 _ (List.mem_of_getElem? (i := 32) rfl)) rfl
theorem q_1117 : Cond.instanceMethod yX7_doAward ∈ sw_all := sw_q (qt_7 _ (List.mem_of_getElem? (i := 34) rfl)) rfl
theorem q_1118 : Cond.code yX7_doAward prog_9_method_48_code 3 (Option.some .int) ∈ sw_all := sw_q (qt_7 _ (List.mem_of_getElem? (i := 35) rfl)) rfl
theorem q_1119 : Cond.methodLink RX7 189 yX7_entitled ∈ sw_all := sw_q (qt_7 _ (List.mem_of_getElem? (i := 36) rfl)) rfl
theorem q_1120 : Cond.instanceMethod yX7_entitled ∈ sw_all := sw_q (qt_7 _ (List.mem_of_getElem? (i := 38) rfl)) rfl
theorem q_1121 : Cond.code yX7_entitled prog_9_method_23_code 2 (Option.some .boolean) ∈ sw_all := sw_q (qt_7 _ (List.mem_of_getElem? (i := 39) rfl)) rfl
theorem q_1122 : Cond.methodLink RL 200 yX7_revoke ∈ sw_all := sw_q (qt_7 _ (List.mem_of_getElem? (i := 40) rfl)) rfl
theorem q_1123 : Cond.instanceMethod yX7_revoke ∈ sw_all := sw_q (qt_7 _ (List.mem_of_getElem? (i := 41) rfl)) rfl
theorem q_1124 : Cond.selects RX7 yX7_revoke yX7_revoke ∈ sw_all := sw_q (qt_7 _ (List.mem_of_getElem? (i := 42) rfl)) rfl
theorem q_1125 : Cond.code yX7_revoke prog_9_method_53_code 2 (Option.some .int) ∈ sw_all := sw_q (qt_7 _ (List.mem_of_getElem? (i := 43) rfl)) rfl
theorem q_1126 : Cond.methodLink RX7 201 yX7_doRevoke ∈ sw_all := sw_q (qt_7 _ (List.mem_of_getElem? (i := 44) rfl)) rfl
theorem q_1127 : Cond.instanceMethod yX7_doRevoke ∈ sw_all := sw_q (qt_7 _ (List.mem_of_getElem? (i := 46) rfl)) rfl
theorem q_1128 : Cond.code yX7_doRevoke prog_9_method_52_code 2 (Option.some .int) ∈ sw_all := sw_q (qt_7 _ (List.mem_of_getElem? (i := 47) rfl)) rfl
theorem q_1129 : Cond.methodLink RX7 195 yX7_isEntry ∈ sw_all := sw_q (qt_7 _ (List.mem_of_getElem? (i := 48) rfl)) rfl
theorem q_1130 : Cond.instanceMethod yX7_isEntry ∈ sw_all := sw_q (qt_7 _ (List.mem_of_getElem? (i := 50) rfl)) rfl
theorem q_1131 : Cond.code yX7_isEntry prog_9_method_50_code 2 (Option.some .boolean) ∈ sw_all := sw_q (qt_7 _ (List.mem_of_getElem? (i := 51) rfl)) rfl
theorem q_1132 : Cond.methodLink RX7 198 yX7_revoked ∈ sw_all := sw_q (qt_7 _ (List.mem_of_getElem? (i := 52) rfl)) rfl
theorem q_1133 : Cond.instanceMethod yX7_revoked ∈ sw_all := sw_q (qt_7 _ (List.mem_of_getElem? (i := 54) rfl)) rfl
theorem q_1134 : Cond.code yX7_revoked prog_9_method_51_code 2 (Option.some .boolean) ∈ sw_all := sw_q (qt_7 _ (List.mem_of_getElem? (i := 55) rfl)) rfl
theorem q_1135 : Cond.methodLink RL 204 yX7_doorCount ∈ sw_all := sw_q (qt_7 _ (List.mem_of_getElem? (i := 56) rfl)) rfl
theorem q_1136 : Cond.instanceMethod yX7_doorCount ∈ sw_all := sw_q (qt_7 _ (List.mem_of_getElem? (i := 57) rfl)) rfl
theorem q_1137 : Cond.selects RX7 yX7_doorCount yX7_doorCount ∈ sw_all := sw_q (qt_7 _ (List.mem_of_getElem? (i := 58) rfl)) rfl
theorem q_1138 : Cond.code yX7_doorCount prog_9_method_54_code 1 (Option.some .int) ∈ sw_all := sw_q (qt_7 _ (List.mem_of_getElem? (i := 59) rfl)) rfl
theorem q_1139 : Cond.methodLink RL 207 yX7_frameOfDoor ∈ sw_all := sw_q (qt_7 _ (List.mem_of_getElem? (i := 60) rfl)) rfl
theorem q_1140 : Cond.instanceMethod yX7_frameOfDoor ∈ sw_all := sw_q (qt_7 _ (List.mem_of_getElem? (i := 61) rfl)) rfl
theorem q_1141 : Cond.selects RX7 yX7_frameOfDoor yX7_frameOfDoor ∈ sw_all := sw_q (qt_7 _ (List.mem_of_getElem? (i := 62) rfl)) rfl
theorem q_1142 : Cond.code yX7_frameOfDoor prog_9_method_55_code 2 (Option.some .char) ∈ sw_all := sw_q (qt_7 _ (List.mem_of_getElem? (i := 63) rfl)) rfl
theorem q_1143 : Cond.methodLink RX7 204 yX7_isThere ∈ sw_all := sw_q (qt_7 _ (List.mem_of_getElem? (i := 64) rfl)) rfl
theorem q_1144 : Cond.instanceMethod yX7_isThere ∈ sw_all := sw_q (qt_7 _ (List.mem_of_getElem? (i := 66) rfl)) rfl
theorem q_1145 : Cond.code yX7_isThere prog_9_method_7_code 2 (Option.some .boolean) ∈ sw_all := sw_q (qt_7 _ (List.mem_of_getElem? (i := 67) rfl)) rfl
theorem q_1146 : Cond.methodLink RL 210 yX7_topic ∈ sw_all := sw_q (qt_7 _ (List.mem_of_getElem? (i := 68) rfl)) rfl
theorem q_1147 : Cond.instanceMethod yX7_topic ∈ sw_all := sw_q (qt_7 _ (List.mem_of_getElem? (i := 69) rfl)) rfl
theorem q_1148 : Cond.selects RX7 yX7_topic yX7_topic ∈ sw_all := sw_q (qt_7 _ (List.mem_of_getElem? (i := 70) rfl)) rfl
theorem q_1149 : Cond.code yX7_topic prog_9_method_56_code 2 (Option.some .int) ∈ sw_all := sw_q (qt_7 _ (List.mem_of_getElem? (i := 71) rfl)) rfl
theorem q_1150 : Cond.methodLink RL 213 yX7_examinersOf ∈ sw_all := sw_q (qt_7 _ (List.mem_of_getElem? (i := 72) rfl)) rfl
theorem q_1151 : Cond.instanceMethod yX7_examinersOf ∈ sw_all := sw_q (qt_7 _ (List.mem_of_getElem? (i := 73) rfl)) rfl
theorem q_1152 : Cond.selects RX7 yX7_examinersOf yX7_examinersOf ∈ sw_all := sw_q (qt_7 _ (List.mem_of_getElem? (i := 74) rfl)) rfl
theorem q_1153 : Cond.code yX7_examinersOf prog_9_method_57_code 2 (Option.some .int) ∈ sw_all := sw_q (qt_7 _ (List.mem_of_getElem? (i := 75) rfl)) rfl
theorem q_1154 : Cond.methodLink RL 216 yX7_gradesOf ∈ sw_all := sw_q (qt_7 _ (List.mem_of_getElem? (i := 76) rfl)) rfl
theorem q_1155 : Cond.instanceMethod yX7_gradesOf ∈ sw_all := sw_q (qt_7 _ (List.mem_of_getElem? (i := 77) rfl)) rfl
theorem q_1156 : Cond.selects RX7 yX7_gradesOf yX7_gradesOf ∈ sw_all := sw_q (qt_7 _ (List.mem_of_getElem? (i := 78) rfl)) rfl
theorem q_1157 : Cond.code yX7_gradesOf prog_9_method_58_code 2 (Option.some .int) ∈ sw_all := sw_q (qt_7 _ (List.mem_of_getElem? (i := 79) rfl)) rfl
theorem q_1158 : Cond.methodLink RL 219 yX7_result ∈ sw_all := sw_q (qt_7 _ (List.mem_of_getElem? (i := 80) rfl)) rfl
theorem q_1159 : Cond.instanceMethod yX7_result ∈ sw_all := sw_q (qt_7 _ (List.mem_of_getElem? (i := 81) rfl)) rfl
theorem q_1160 : Cond.selects RX7 yX7_result yX7_result ∈ sw_all := sw_q (qt_7 _ (List.mem_of_getElem? (i := 82) rfl)) rfl
theorem q_1161 : Cond.code yX7_result prog_9_method_59_code 3 (Option.some .int) ∈ sw_all := sw_q (qt_7 _ (List.mem_of_getElem? (i := 83) rfl)) rfl
theorem q_1162 : Cond.methodLink RL 222 yX7_passes ∈ sw_all := sw_q (qt_7 _ (List.mem_of_getElem? (i := 84) rfl)) rfl
theorem q_1163 : Cond.instanceMethod yX7_passes ∈ sw_all := sw_q (qt_7 _ (List.mem_of_getElem? (i := 85) rfl)) rfl
theorem q_1164 : Cond.selects RX7 yX7_passes yX7_passes ∈ sw_all := sw_q (qt_7 _ (List.mem_of_getElem? (i := 86) rfl)) rfl
theorem q_1165 : Cond.code yX7_passes prog_9_method_60_code 2 (Option.some .boolean) ∈ sw_all := sw_q (qt_7 _ (List.mem_of_getElem? (i := 87) rfl)) rfl
theorem q_1166 : Cond.methodLink RL 225 yX7_wasGranted ∈ sw_all := sw_q (qt_7 _ (List.mem_of_getElem? (i := 88) rfl)) rfl
theorem q_1167 : Cond.instanceMethod yX7_wasGranted ∈ sw_all := sw_q (qt_7 _ (List.mem_of_getElem? (i := 89) rfl)) rfl
theorem q_1168 : Cond.selects RX7 yX7_wasGranted yX7_wasGranted ∈ sw_all := sw_q (qt_7 _ (List.mem_of_getElem? (i := 90) rfl)) rfl
theorem q_1169 : Cond.code yX7_wasGranted prog_9_method_61_code 2 (Option.some .boolean) ∈ sw_all := sw_q (qt_7 _ (List.mem_of_getElem? (i := 91) rfl)) rfl
theorem q_1170 : Cond.methodLink RL 228 yX7_isEntitled ∈ sw_all := sw_q (qt_7 _ (List.mem_of_getElem? (i := 92) rfl)) rfl
theorem q_1171 : Cond.instanceMethod yX7_isEntitled ∈ sw_all := sw_q (qt_7 _ (List.mem_of_getElem? (i := 93) rfl)) rfl
theorem q_1172 : Cond.selects RX7 yX7_isEntitled yX7_isEntitled ∈ sw_all := sw_q (qt_7 _ (List.mem_of_getElem? (i := 94) rfl)) rfl
theorem q_1173 : Cond.code yX7_isEntitled prog_9_method_62_code 2 (Option.some .boolean) ∈ sw_all := sw_q (qt_7 _ (List.mem_of_getElem? (i := 95) rfl)) rfl
theorem q_1174 : Cond.methodLink RL 231 yX7_doorAtRank ∈ sw_all := sw_q (qt_7 _ (List.mem_of_getElem? (i := 96) rfl)) rfl
theorem q_1175 : Cond.instanceMethod yX7_doorAtRank ∈ sw_all := sw_q (qt_7 _ (List.mem_of_getElem? (i := 97) rfl)) rfl
theorem q_1176 : Cond.selects RX7 yX7_doorAtRank yX7_doorAtRank ∈ sw_all := sw_q (qt_7 _ (List.mem_of_getElem? (i := 98) rfl)) rfl
theorem q_1177 : Cond.code yX7_doorAtRank prog_9_method_63_code 9 (Option.some .int) ∈ sw_all := sw_q (qt_7 _ (List.mem_of_getElem? (i := 99) rfl)) rfl
theorem q_1178 : Cond.methodLink RL 235 yX7_examinerCount ∈ sw_all := sw_q (qt_7 _ (List.mem_of_getElem? (i := 100) rfl)) rfl
theorem q_1179 : Cond.instanceMethod yX7_examinerCount ∈ sw_all := sw_q (qt_7 _ (List.mem_of_getElem? (i := 101) rfl)) rfl
theorem q_1180 : Cond.selects RX7 yX7_examinerCount yX7_examinerCount ∈ sw_all := sw_q (qt_7 _ (List.mem_of_getElem? (i := 102) rfl)) rfl
theorem q_1181 : Cond.code yX7_examinerCount prog_9_method_64_code 1 (Option.some .int) ∈ sw_all := sw_q (qt_7 _ (List.mem_of_getElem? (i := 103) rfl)) rfl
theorem q_1182 : Cond.methodLink RL 238 yX7_frameOfExaminer ∈ sw_all := sw_q (qt_7 _ (List.mem_of_getElem? (i := 104) rfl)) rfl
theorem q_1183 : Cond.instanceMethod yX7_frameOfExaminer ∈ sw_all := sw_q (qt_7 _ (List.mem_of_getElem? (i := 105) rfl)) rfl
theorem q_1184 : Cond.selects RX7 yX7_frameOfExaminer yX7_frameOfExaminer ∈ sw_all := sw_q (qt_7 _ (List.mem_of_getElem? (i := 106) rfl)) rfl
theorem q_1185 : Cond.code yX7_frameOfExaminer prog_9_method_65_code 2 (Option.some .char) ∈ sw_all := sw_q (qt_7 _ (List.mem_of_getElem? (i := 107) rfl)) rfl
theorem q_1186 : Cond.methodLink RL 241 yX7_load ∈ sw_all := sw_q (qt_7 _ (List.mem_of_getElem? (i := 108) rfl)) rfl
theorem q_1187 : Cond.instanceMethod yX7_load ∈ sw_all := sw_q (qt_7 _ (List.mem_of_getElem? (i := 109) rfl)) rfl
theorem q_1188 : Cond.selects RX7 yX7_load yX7_load ∈ sw_all := sw_q (qt_7 _ (List.mem_of_getElem? (i := 110) rfl)) rfl
theorem q_1189 : Cond.code yX7_load prog_9_method_66_code 2 (Option.some .int) ∈ sw_all := sw_q (qt_7 _ (List.mem_of_getElem? (i := 111) rfl)) rfl
theorem q_1190 : Cond.methodLink RL 244 yX7_isNeutral ∈ sw_all := sw_q (qt_7 _ (List.mem_of_getElem? (i := 112) rfl)) rfl
theorem q_1191 : Cond.instanceMethod yX7_isNeutral ∈ sw_all := sw_q (qt_7 _ (List.mem_of_getElem? (i := 113) rfl)) rfl
theorem q_1192 : Cond.selects RX7 yX7_isNeutral yX7_isNeutral ∈ sw_all := sw_q (qt_7 _ (List.mem_of_getElem? (i := 114) rfl)) rfl
theorem q_1193 : Cond.code yX7_isNeutral prog_9_method_67_code 3 (Option.some .boolean) ∈ sw_all := sw_q (qt_7 _ (List.mem_of_getElem? (i := 115) rfl)) rfl
theorem q_1194 : Cond.methodLink RL 247 yX7_mayJudge ∈ sw_all := sw_q (qt_7 _ (List.mem_of_getElem? (i := 116) rfl)) rfl
theorem q_1195 : Cond.instanceMethod yX7_mayJudge ∈ sw_all := sw_q (qt_7 _ (List.mem_of_getElem? (i := 117) rfl)) rfl
theorem q_1196 : Cond.selects RX7 yX7_mayJudge yX7_mayJudge ∈ sw_all := sw_q (qt_7 _ (List.mem_of_getElem? (i := 118) rfl)) rfl
theorem q_1197 : Cond.code yX7_mayJudge prog_9_method_68_code 3 (Option.some .boolean) ∈ sw_all := sw_q (qt_7 _ (List.mem_of_getElem? (i := 119) rfl)) rfl
theorem q_1198 : Cond.methodLink RL 250 yX7_isAssigned ∈ sw_all := sw_q (qt_7 _ (List.mem_of_getElem? (i := 120) rfl)) rfl
theorem q_1199 : Cond.instanceMethod yX7_isAssigned ∈ sw_all := sw_q (qt_7 _ (List.mem_of_getElem? (i := 121) rfl)) rfl
theorem q_1200 : Cond.selects RX7 yX7_isAssigned yX7_isAssigned ∈ sw_all := sw_q (qt_7 _ (List.mem_of_getElem? (i := 122) rfl)) rfl
theorem q_1201 : Cond.code yX7_isAssigned prog_9_method_69_code 3 (Option.some .boolean) ∈ sw_all := sw_q (qt_7 _ (List.mem_of_getElem? (i := 123) rfl)) rfl
theorem q_1202 : Cond.methodLink RL 253 yX7_gradeBy ∈ sw_all := sw_q (qt_7 _ (List.mem_of_getElem? (i := 124) rfl)) rfl
theorem q_1203 : Cond.instanceMethod yX7_gradeBy ∈ sw_all := sw_q (qt_7 _ (List.mem_of_getElem? (i := 125) rfl)) rfl
theorem q_1204 : Cond.selects RX7 yX7_gradeBy yX7_gradeBy ∈ sw_all := sw_q (qt_7 _ (List.mem_of_getElem? (i := 126) rfl)) rfl
theorem q_1205 : Cond.code yX7_gradeBy prog_9_method_70_code 4 (Option.some .int) ∈ sw_all := sw_q (qt_7 _ (List.mem_of_getElem? (i := 127) rfl)) rfl
theorem q_1206 : Cond.methodLink RL 257 yX7_planSize ∈ sw_all := sw_q (qt_7 _ (List.mem_of_getElem? (i := 128) rfl)) rfl
theorem q_1207 : Cond.instanceMethod yX7_planSize ∈ sw_all := sw_q (qt_7 _ (List.mem_of_getElem? (i := 129) rfl)) rfl
theorem q_1208 : Cond.selects RX7 yX7_planSize yX7_planSize ∈ sw_all := sw_q (qt_7 _ (List.mem_of_getElem? (i := 130) rfl)) rfl
theorem q_1209 : Cond.code yX7_planSize prog_9_method_71_code 1 (Option.some .int) ∈ sw_all := sw_q (qt_7 _ (List.mem_of_getElem? (i := 131) rfl)) rfl
theorem q_1210 : Cond.methodLink RL 261 yX7_planSizeBySets ∈ sw_all := sw_q (qt_7 _ (List.mem_of_getElem? (i := 132) rfl)) rfl
theorem q_1211 : Cond.instanceMethod yX7_planSizeBySets ∈ sw_all := sw_q (qt_7 _ (List.mem_of_getElem? (i := 133) rfl)) rfl
theorem q_1212 : Cond.selects RX7 yX7_planSizeBySets yX7_planSizeBySets ∈ sw_all := sw_q (qt_7 _ (List.mem_of_getElem? (i := 134) rfl)) rfl
theorem q_1213 : Cond.code yX7_planSizeBySets prog_9_method_72_code 1 (Option.some .int) ∈ sw_all := sw_q (qt_7 _ (List.mem_of_getElem? (i := 135) rfl)) rfl
theorem q_1214 : Cond.methodLink RX7 208 yX7_planSize ∈ sw_all := sw_q (qt_7 _ (List.mem_of_getElem? (i := 136) rfl)) rfl
theorem q_1215 : Cond.methodLink RL 264 yX7_plannedExaminer ∈ sw_all := sw_q (qt_7 _ (List.mem_of_getElem? (i := 137) rfl)) rfl
theorem q_1216 : Cond.instanceMethod yX7_plannedExaminer ∈ sw_all := sw_q (qt_7 _ (List.mem_of_getElem? (i := 138) rfl)) rfl
theorem q_1217 : Cond.selects RX7 yX7_plannedExaminer yX7_plannedExaminer ∈ sw_all := sw_q (qt_7 _ (List.mem_of_getElem? (i := 139) rfl)) rfl
theorem q_1218 : Cond.code yX7_plannedExaminer prog_9_method_73_code 3 (Option.some .int) ∈ sw_all := sw_q (qt_7 _ (List.mem_of_getElem? (i := 140) rfl)) rfl
theorem q_1219 : Cond.methodLink RL 267 yX7_panelCount ∈ sw_all := sw_q (qt_7 _ (List.mem_of_getElem? (i := 141) rfl)) rfl
theorem q_1220 : Cond.instanceMethod yX7_panelCount ∈ sw_all := sw_q (qt_7 _ (List.mem_of_getElem? (i := 142) rfl)) rfl
theorem q_1221 : Cond.selects RX7 yX7_panelCount yX7_panelCount ∈ sw_all := sw_q (qt_7 _ (List.mem_of_getElem? (i := 143) rfl)) rfl
theorem q_1222 : Cond.code yX7_panelCount prog_9_method_74_code 2 (Option.some .int) ∈ sw_all := sw_q (qt_7 _ (List.mem_of_getElem? (i := 144) rfl)) rfl
theorem q_1223 : Cond.methodLink RL 270 yX7_panelCountByFrames ∈ sw_all := sw_q (qt_7 _ (List.mem_of_getElem? (i := 145) rfl)) rfl
theorem q_1224 : Cond.instanceMethod yX7_panelCountByFrames ∈ sw_all := sw_q (qt_7 _ (List.mem_of_getElem? (i := 146) rfl)) rfl
theorem q_1225 : Cond.selects RX7 yX7_panelCountByFrames yX7_panelCountByFrames ∈ sw_all := sw_q (qt_7 _ (List.mem_of_getElem? (i := 147) rfl)) rfl
theorem q_1226 : Cond.code yX7_panelCountByFrames prog_9_method_75_code 2 (Option.some .int) ∈ sw_all := sw_q (qt_7 _ (List.mem_of_getElem? (i := 148) rfl)) rfl
theorem q_1227 : Cond.methodLink RX7 211 yX7_panelCount ∈ sw_all := sw_q (qt_7 _ (List.mem_of_getElem? (i := 149) rfl)) rfl
theorem q_1228 : Cond.methodLink RL 273 yX7_panelMember ∈ sw_all := sw_q (qt_7 _ (List.mem_of_getElem? (i := 150) rfl)) rfl
theorem q_1229 : Cond.instanceMethod yX7_panelMember ∈ sw_all := sw_q (qt_7 _ (List.mem_of_getElem? (i := 151) rfl)) rfl
theorem q_1230 : Cond.selects RX7 yX7_panelMember yX7_panelMember ∈ sw_all := sw_q (qt_7 _ (List.mem_of_getElem? (i := 152) rfl)) rfl
theorem q_1231 : Cond.code yX7_panelMember prog_9_method_76_code 3 (Option.some .int) ∈ sw_all := sw_q (qt_7 _ (List.mem_of_getElem? (i := 153) rfl)) rfl
theorem q_1232 : Cond.methodLink RL 277 yX7_threshold ∈ sw_all := sw_q (qt_7 _ (List.mem_of_getElem? (i := 154) rfl)) rfl
theorem q_1233 : Cond.instanceMethod yX7_threshold ∈ sw_all := sw_q (qt_7 _ (List.mem_of_getElem? (i := 155) rfl)) rfl
theorem q_1234 : Cond.selects RX7 yX7_threshold yX7_threshold ∈ sw_all := sw_q (qt_7 _ (List.mem_of_getElem? (i := 156) rfl)) rfl
theorem q_1235 : Cond.code yX7_threshold prog_9_method_77_code 1 (Option.some .int) ∈ sw_all := sw_q (qt_7 _ (List.mem_of_getElem? (i := 157) rfl)) rfl
theorem q_1236 : Cond.methodLink RL 281 yX7_entryCount ∈ sw_all := sw_q (qt_7 _ (List.mem_of_getElem? (i := 158) rfl)) rfl
theorem q_1237 : Cond.instanceMethod yX7_entryCount ∈ sw_all := sw_q (qt_7 _ (List.mem_of_getElem? (i := 159) rfl)) rfl
theorem q_1238 : Cond.selects RX7 yX7_entryCount yX7_entryCount ∈ sw_all := sw_q (qt_7 _ (List.mem_of_getElem? (i := 160) rfl)) rfl
theorem q_1239 : Cond.code yX7_entryCount prog_9_method_78_code 1 (Option.some .int) ∈ sw_all := sw_q (qt_7 _ (List.mem_of_getElem? (i := 161) rfl)) rfl
theorem q_1240 : Cond.methodLink RL 284 yX7_doorOf ∈ sw_all := sw_q (qt_7 _ (List.mem_of_getElem? (i := 162) rfl)) rfl
theorem q_1241 : Cond.instanceMethod yX7_doorOf ∈ sw_all := sw_q (qt_7 _ (List.mem_of_getElem? (i := 163) rfl)) rfl
theorem q_1242 : Cond.selects RX7 yX7_doorOf yX7_doorOf ∈ sw_all := sw_q (qt_7 _ (List.mem_of_getElem? (i := 164) rfl)) rfl
theorem q_1243 : Cond.code yX7_doorOf prog_9_method_79_code 2 (Option.some .int) ∈ sw_all := sw_q (qt_7 _ (List.mem_of_getElem? (i := 165) rfl)) rfl
theorem q_1244 : Cond.methodLink RL 287 yX7_isRevoked ∈ sw_all := sw_q (qt_7 _ (List.mem_of_getElem? (i := 166) rfl)) rfl
theorem q_1245 : Cond.instanceMethod yX7_isRevoked ∈ sw_all := sw_q (qt_7 _ (List.mem_of_getElem? (i := 167) rfl)) rfl
theorem q_1246 : Cond.selects RX7 yX7_isRevoked yX7_isRevoked ∈ sw_all := sw_q (qt_7 _ (List.mem_of_getElem? (i := 168) rfl)) rfl
theorem q_1247 : Cond.code yX7_isRevoked prog_9_method_80_code 2 (Option.some .boolean) ∈ sw_all := sw_q (qt_7 _ (List.mem_of_getElem? (i := 169) rfl)) rfl
theorem q_1248 : Cond.methodLink RL 291 yX7_assignments ∈ sw_all := sw_q (qt_7 _ (List.mem_of_getElem? (i := 170) rfl)) rfl
theorem q_1249 : Cond.instanceMethod yX7_assignments ∈ sw_all := sw_q (qt_7 _ (List.mem_of_getElem? (i := 171) rfl)) rfl
theorem q_1250 : Cond.selects RX7 yX7_assignments yX7_assignments ∈ sw_all := sw_q (qt_7 _ (List.mem_of_getElem? (i := 172) rfl)) rfl
theorem q_1251 : Cond.code yX7_assignments prog_9_method_81_code 3 (Option.some .int) ∈ sw_all := sw_q (qt_7 _ (List.mem_of_getElem? (i := 173) rfl)) rfl
theorem q_1252 : Cond.methodLink RL 295 yX7_assignmentsByDoors ∈ sw_all := sw_q (qt_7 _ (List.mem_of_getElem? (i := 174) rfl)) rfl
theorem q_1253 : Cond.instanceMethod yX7_assignmentsByDoors ∈ sw_all := sw_q (qt_7 _ (List.mem_of_getElem? (i := 175) rfl)) rfl
theorem q_1254 : Cond.selects RX7 yX7_assignmentsByDoors yX7_assignmentsByDoors ∈ sw_all := sw_q (qt_7 _ (List.mem_of_getElem? (i := 176) rfl)) rfl
theorem q_1255 : Cond.code yX7_assignmentsByDoors prog_9_method_82_code 1 (Option.some .int) ∈ sw_all := sw_q (qt_7 _ (List.mem_of_getElem? (i := 177) rfl)) rfl
theorem q_1256 : Cond.methodLink RX7 214 yX7_assignments ∈ sw_all := sw_q (qt_7 _ (List.mem_of_getElem? (i := 178) rfl)) rfl
theorem q_1257 : Cond.methodLink RL 300 yX7_gradeTotal ∈ sw_all := sw_q (qt_7 _ (List.mem_of_getElem? (i := 179) rfl)) rfl
theorem q_1258 : Cond.instanceMethod yX7_gradeTotal ∈ sw_all := sw_q (qt_7 _ (List.mem_of_getElem? (i := 180) rfl)) rfl
theorem q_1259 : Cond.selects RX7 yX7_gradeTotal yX7_gradeTotal ∈ sw_all := sw_q (qt_7 _ (List.mem_of_getElem? (i := 181) rfl)) rfl
theorem q_1260 : Cond.code yX7_gradeTotal prog_9_method_84_code 1 (Option.some .long) ∈ sw_all := sw_q (qt_7 _ (List.mem_of_getElem? (i := 182) rfl)) rfl
theorem q_1261 : Cond.methodLink RX7 217 yX7_gradeSum ∈ sw_all := sw_q (qt_7 _ (List.mem_of_getElem? (i := 183) rfl)) rfl
theorem q_1262 : Cond.instanceMethod yX7_gradeSum ∈ sw_all := sw_q (qt_7 _ (List.mem_of_getElem? (i := 185) rfl)) rfl
theorem q_1263 : Cond.code yX7_gradeSum prog_9_method_83_code 3 (Option.some .int) ∈ sw_all := sw_q (qt_7 _ (List.mem_of_getElem? (i := 186) rfl)) rfl
theorem q_1264 : Cond.methodLink RL 304 yX7_meanGrade ∈ sw_all := sw_q (qt_7 _ (List.mem_of_getElem? (i := 187) rfl)) rfl
theorem q_1265 : Cond.instanceMethod yX7_meanGrade ∈ sw_all := sw_q (qt_7 _ (List.mem_of_getElem? (i := 188) rfl)) rfl
theorem q_1266 : Cond.selects RX7 yX7_meanGrade yX7_meanGrade ∈ sw_all := sw_q (qt_7 _ (List.mem_of_getElem? (i := 189) rfl)) rfl
theorem q_1267 : Cond.code yX7_meanGrade prog_9_method_85_code 3 (Option.some .double) ∈ sw_all := sw_q (qt_7 _ (List.mem_of_getElem? (i := 190) rfl)) rfl
theorem q_1268 : Cond.methodLink RL 307 yX7_passShare ∈ sw_all := sw_q (qt_7 _ (List.mem_of_getElem? (i := 191) rfl)) rfl
theorem q_1269 : Cond.instanceMethod yX7_passShare ∈ sw_all := sw_q (qt_7 _ (List.mem_of_getElem? (i := 192) rfl)) rfl
theorem q_1270 : Cond.selects RX7 yX7_passShare yX7_passShare ∈ sw_all := sw_q (qt_7 _ (List.mem_of_getElem? (i := 193) rfl)) rfl
theorem q_1271 : Cond.code yX7_passShare prog_9_method_86_code 4 (Option.some .float) ∈ sw_all := sw_q (qt_7 _ (List.mem_of_getElem? (i := 194) rfl)) rfl
theorem q_1272 : Cond.methodLink RL 312 yX7_isConsistent ∈ sw_all := sw_q (qt_7 _ (List.mem_of_getElem? (i := 195) rfl)) rfl
theorem q_1273 : Cond.instanceMethod yX7_isConsistent ∈ sw_all := sw_q (qt_7 _ (List.mem_of_getElem? (i := 196) rfl)) rfl
theorem q_1274 : Cond.selects RX7 yX7_isConsistent yX7_isConsistent ∈ sw_all := sw_q (qt_7 _ (List.mem_of_getElem? (i := 197) rfl)) rfl
theorem q_1275 : Cond.code yX7_isConsistent prog_9_method_87_code 1 (Option.some .boolean) ∈ sw_all := sw_q (qt_7 _ (List.mem_of_getElem? (i := 198) rfl)) rfl
theorem q_1276 : Cond.methodLink RL 316 yX7_append ∈ sw_all := sw_q (qt_7 _ (List.mem_of_getElem? (i := 199) rfl)) rfl
theorem q_1277 : Cond.instanceMethod yX7_append ∈ sw_all := sw_q (qt_7 _ (List.mem_of_getElem? (i := 200) rfl)) rfl
theorem q_1278 : Cond.selects RX7 yX7_append yX7_append ∈ sw_all := sw_q (qt_7 _ (List.mem_of_getElem? (i := 201) rfl)) rfl
theorem q_1279 : Cond.code yX7_append prog_9_method_88_code 2 (Option.some .int) ∈ sw_all := sw_q (qt_7 _ (List.mem_of_getElem? (i := 202) rfl)) rfl
theorem q_1280 : Cond.methodLink RL 320 yX7_run ∈ sw_all := sw_q (qt_7 _ (List.mem_of_getElem? (i := 203) rfl)) rfl
theorem q_1281 : Cond.instanceMethod yX7_run ∈ sw_all := sw_q (qt_7 _ (List.mem_of_getElem? (i := 204) rfl)) rfl
theorem q_1282 : Cond.selects RX7 yX7_run yX7_run ∈ sw_all := sw_q (qt_7 _ (List.mem_of_getElem? (i := 205) rfl)) rfl
theorem q_1283 : Cond.code yX7_run prog_9_method_96_code 2 (Option.some .int) ∈ sw_all := sw_q (qt_7 _ (List.mem_of_getElem? (i := 206) rfl)) rfl
theorem q_1284 : Cond.methodLink RX7 293 yX7_readsCommand ∈ sw_all := sw_q (qt_7 _ (List.mem_of_getElem? (i := 207) rfl)) rfl
theorem q_1285 : Cond.instanceMethod yX7_readsCommand ∈ sw_all := sw_q (qt_7 _ (List.mem_of_getElem? (i := 209) rfl)) rfl
theorem q_1286 : Cond.code yX7_readsCommand prog_9_method_94_code 3 none ∈ sw_all := sw_q (qt_7 _ (List.mem_of_getElem? (i := 210) rfl)) rfl
theorem q_1287 : Cond.methodLink RX7 234 yX7_behind ∈ sw_all := sw_q (qt_7 _ (List.mem_of_getElem? (i := 211) rfl)) rfl
theorem q_1288 : Cond.instanceMethod yX7_behind ∈ sw_all := sw_q (qt_7 _ (List.mem_of_getElem? (i := 213) rfl)) rfl
theorem q_1289 : Cond.code yX7_behind prog_9_method_89_code 2 (Option.some .int) ∈ sw_all := sw_q (qt_7 _ (List.mem_of_getElem? (i := 214) rfl)) rfl
theorem q_1290 : Cond.methodLink RX7 260 yX7_readsWord ∈ sw_all := sw_q (qt_7 _ (List.mem_of_getElem? (i := 217) rfl)) rfl
theorem q_1291 : Cond.instanceMethod yX7_readsWord ∈ sw_all := sw_q (qt_7 _ (List.mem_of_getElem? (i := 219) rfl)) rfl
theorem q_1292 : Cond.code yX7_readsWord prog_9_method_93_code 6 none ∈ sw_all := sw_q (qt_7 _ (List.mem_of_getElem? (i := 220) rfl)) rfl
theorem q_1293 : Cond.methodLink RX7 243 yX7_skip ∈ sw_all := sw_q (qt_7 _ (List.mem_of_getElem? (i := 221) rfl)) rfl
theorem q_1294 : Cond.instanceMethod yX7_skip ∈ sw_all := sw_q (qt_7 _ (List.mem_of_getElem? (i := 223) rfl)) rfl
theorem q_1295 : Cond.code yX7_skip prog_9_method_90_code 3 none ∈ sw_all := sw_q (qt_7 _ (List.mem_of_getElem? (i := 224) rfl)) rfl
theorem q_1296 : Cond.methodLink RX7 226 yJ0_length_8abf5 ∈ sw_all := sw_q (qt_7 _ (List.mem_of_getElem? (i := 225) rfl)) rfl
theorem q_1297 : Cond.methodLink RX7 237 yJ0_charAt_5068e ∈ sw_all := sw_q (qt_7 _ (List.mem_of_getElem? (i := 226) rfl)) rfl
theorem q_1298 : Cond.methodLink RX7 254 yX7_reads ∈ sw_all := sw_q (qt_7 _ (List.mem_of_getElem? (i := 227) rfl)) rfl
theorem q_1299 : Cond.instanceMethod yX7_reads ∈ sw_all := sw_q (qt_7 _ (List.mem_of_getElem? (i := 229) rfl)) rfl
theorem q_1300 : Cond.code yX7_reads prog_9_method_92_code 4 (Option.some .int) ∈ sw_all := sw_q (qt_7 _ (List.mem_of_getElem? (i := 230) rfl)) rfl
theorem q_1301 : Cond.methodLink RX7 247 yX7_isDigit ∈ sw_all := sw_q (qt_7 _ (List.mem_of_getElem? (i := 232) rfl)) rfl
theorem q_1302 : Cond.instanceMethod yX7_isDigit ∈ sw_all := sw_q (qt_7 _ (List.mem_of_getElem? (i := 234) rfl)) rfl
theorem q_1303 : Cond.code yX7_isDigit prog_9_method_91_code 1 (Option.some .boolean) ∈ sw_all := sw_q (qt_7 _ (List.mem_of_getElem? (i := 235) rfl)) rfl
theorem q_1304 : Cond.methodLink RX7 296 yX7_does ∈ sw_all := sw_q (qt_8 _ (List.mem_of_getElem? (i := 11) rfl)) rfl
theorem q_1305 : Cond.instanceMethod yX7_does ∈ sw_all := sw_q (qt_8 _ (List.mem_of_getElem? (i := 13) rfl)) rfl
theorem q_1306 : Cond.code yX7_does prog_9_method_95_code 6 none ∈ sw_all := sw_q (qt_8 _ (List.mem_of_getElem? (i := 14) rfl)) rfl
theorem q_1307 : Cond.methodLink RL 323 yX7_errorPosition ∈ sw_all := sw_q (qt_8 _ (List.mem_of_getElem? (i := 15) rfl)) rfl
theorem q_1308 : Cond.instanceMethod yX7_errorPosition ∈ sw_all := sw_q (qt_8 _ (List.mem_of_getElem? (i := 16) rfl)) rfl
theorem q_1309 : Cond.selects RX7 yX7_errorPosition yX7_errorPosition ∈ sw_all := sw_q (qt_8 _ (List.mem_of_getElem? (i := 17) rfl)) rfl
theorem q_1310 : Cond.code yX7_errorPosition prog_9_method_97_code 1 (Option.some .int) ∈ sw_all := sw_q (qt_8 _ (List.mem_of_getElem? (i := 18) rfl)) rfl
theorem q_1311 : Cond.methodLink RL 326 yX7_failedCommand ∈ sw_all := sw_q (qt_8 _ (List.mem_of_getElem? (i := 19) rfl)) rfl
theorem q_1312 : Cond.instanceMethod yX7_failedCommand ∈ sw_all := sw_q (qt_8 _ (List.mem_of_getElem? (i := 20) rfl)) rfl
theorem q_1313 : Cond.selects RX7 yX7_failedCommand yX7_failedCommand ∈ sw_all := sw_q (qt_8 _ (List.mem_of_getElem? (i := 21) rfl)) rfl
theorem q_1314 : Cond.code yX7_failedCommand prog_9_method_98_code 1 (Option.some .int) ∈ sw_all := sw_q (qt_8 _ (List.mem_of_getElem? (i := 22) rfl)) rfl
theorem q_1315 : Cond.methodLink RL 329 yX7_writeDoor ∈ sw_all := sw_q (qt_8 _ (List.mem_of_getElem? (i := 23) rfl)) rfl
theorem q_1316 : Cond.instanceMethod yX7_writeDoor ∈ sw_all := sw_q (qt_8 _ (List.mem_of_getElem? (i := 24) rfl)) rfl
theorem q_1317 : Cond.selects RX7 yX7_writeDoor yX7_writeDoor ∈ sw_all := sw_q (qt_8 _ (List.mem_of_getElem? (i := 25) rfl)) rfl
theorem q_1318 : Cond.code yX7_writeDoor prog_9_method_101_code 3 (Option.some .int) ∈ sw_all := sw_q (qt_8 _ (List.mem_of_getElem? (i := 26) rfl)) rfl
theorem q_1319 : Cond.methodLink RX7 306 yX7_says ∈ sw_all := sw_q (qt_8 _ (List.mem_of_getElem? (i := 27) rfl)) rfl
theorem q_1320 : Cond.instanceMethod yX7_says ∈ sw_all := sw_q (qt_8 _ (List.mem_of_getElem? (i := 29) rfl)) rfl
theorem q_1321 : Cond.code yX7_says prog_9_method_99_code 2 none ∈ sw_all := sw_q (qt_8 _ (List.mem_of_getElem? (i := 30) rfl)) rfl
theorem q_1322 : Cond.methodLink RX7 303 yX7_saysNumber ∈ sw_all := sw_q (qt_8 _ (List.mem_of_getElem? (i := 31) rfl)) rfl
theorem q_1323 : Cond.instanceMethod yX7_saysNumber ∈ sw_all := sw_q (qt_8 _ (List.mem_of_getElem? (i := 33) rfl)) rfl
theorem q_1324 : Cond.code yX7_saysNumber prog_9_method_100_code 2 none ∈ sw_all := sw_q (qt_8 _ (List.mem_of_getElem? (i := 34) rfl)) rfl
theorem q_1325 : Cond.methodLink RL 332 yX7_writeExaminer ∈ sw_all := sw_q (qt_8 _ (List.mem_of_getElem? (i := 35) rfl)) rfl
theorem q_1326 : Cond.instanceMethod yX7_writeExaminer ∈ sw_all := sw_q (qt_8 _ (List.mem_of_getElem? (i := 36) rfl)) rfl
theorem q_1327 : Cond.selects RX7 yX7_writeExaminer yX7_writeExaminer ∈ sw_all := sw_q (qt_8 _ (List.mem_of_getElem? (i := 37) rfl)) rfl
theorem q_1328 : Cond.code yX7_writeExaminer prog_9_method_102_code 3 (Option.some .int) ∈ sw_all := sw_q (qt_8 _ (List.mem_of_getElem? (i := 38) rfl)) rfl
theorem q_1329 : Cond.methodLink RL 335 yX7_outputAt ∈ sw_all := sw_q (qt_8 _ (List.mem_of_getElem? (i := 39) rfl)) rfl
theorem q_1330 : Cond.instanceMethod yX7_outputAt ∈ sw_all := sw_q (qt_8 _ (List.mem_of_getElem? (i := 40) rfl)) rfl
theorem q_1331 : Cond.selects RX7 yX7_outputAt yX7_outputAt ∈ sw_all := sw_q (qt_8 _ (List.mem_of_getElem? (i := 41) rfl)) rfl
theorem q_1332 : Cond.code yX7_outputAt prog_9_method_103_code 2 (Option.some .char) ∈ sw_all := sw_q (qt_8 _ (List.mem_of_getElem? (i := 42) rfl)) rfl
theorem q_1333 : Cond.methodLink RL 338 yX7_undo ∈ sw_all := sw_q (qt_8 _ (List.mem_of_getElem? (i := 43) rfl)) rfl
theorem q_1334 : Cond.instanceMethod yX7_undo ∈ sw_all := sw_q (qt_8 _ (List.mem_of_getElem? (i := 44) rfl)) rfl
theorem q_1335 : Cond.selects RX7 yX7_undo yX7_undo ∈ sw_all := sw_q (qt_8 _ (List.mem_of_getElem? (i := 45) rfl)) rfl
theorem q_1336 : Cond.code yX7_undo prog_9_method_104_code 1 (Option.some .int) ∈ sw_all := sw_q (qt_8 _ (List.mem_of_getElem? (i := 46) rfl)) rfl
theorem q_1337 : Cond.methodLink RL 342 yX7_save ∈ sw_all := sw_q (qt_8 _ (List.mem_of_getElem? (i := 47) rfl)) rfl
theorem q_1338 : Cond.instanceMethod yX7_save ∈ sw_all := sw_q (qt_8 _ (List.mem_of_getElem? (i := 48) rfl)) rfl
theorem q_1339 : Cond.selects RX7 yX7_save yX7_save ∈ sw_all := sw_q (qt_8 _ (List.mem_of_getElem? (i := 49) rfl)) rfl
theorem q_1340 : Cond.code yX7_save prog_9_method_105_code 1 none ∈ sw_all := sw_q (qt_8 _ (List.mem_of_getElem? (i := 50) rfl)) rfl
theorem q_1341 : Cond.methodLink RL 346 yX7_restore ∈ sw_all := sw_q (qt_8 _ (List.mem_of_getElem? (i := 51) rfl)) rfl
theorem q_1342 : Cond.instanceMethod yX7_restore ∈ sw_all := sw_q (qt_8 _ (List.mem_of_getElem? (i := 52) rfl)) rfl
theorem q_1343 : Cond.selects RX7 yX7_restore yX7_restore ∈ sw_all := sw_q (qt_8 _ (List.mem_of_getElem? (i := 53) rfl)) rfl
theorem q_1344 : Cond.code yX7_restore prog_9_method_106_code 1 none ∈ sw_all := sw_q (qt_8 _ (List.mem_of_getElem? (i := 54) rfl)) rfl
theorem q_1345 : Cond.fieldLink RJ0 9 "java/lang/String" "value" "[B" ∈ sw_all := sw_q (qt_8 _ (List.mem_of_getElem? (i := 76) rfl)) rfl
theorem q_1346 : Cond.fieldLink RJ0 15 "java/lang/String" "coder" "B" ∈ sw_all := sw_q (qt_8 _ (List.mem_of_getElem? (i := 77) rfl)) rfl
theorem q_1347 : Cond.selects RX3 yX3_survey yX3_survey ∈ sw_all := sw_q (List.mem_append_left _ (List.mem_map.mpr ⟨(yX3_survey, 9), List.mem_append_left _ (List.mem_of_getElem? (i := 0) rfl), rfl⟩)) rfl
theorem q_1348 : Cond.selects RX3 yX3_greatestFrom yX3_greatestFrom ∈ sw_all := sw_q (List.mem_append_left _ (List.mem_map.mpr ⟨(yX3_greatestFrom, 9), List.mem_append_left _ (List.mem_of_getElem? (i := 1) rfl), rfl⟩)) rfl
theorem q_1349 : Cond.selects RX3 yX3_addByExchanges yX3_addByExchanges ∈ sw_all := sw_q (List.mem_append_left _ (List.mem_map.mpr ⟨(yX3_addByExchanges, 9), List.mem_append_left _ (List.mem_of_getElem? (i := 2) rfl), rfl⟩)) rfl
theorem q_1350 : Cond.selects RX3 yX3_exchange yX3_exchange ∈ sw_all := sw_q (List.mem_append_left _ (List.mem_map.mpr ⟨(yX3_exchange, 9), List.mem_append_left _ (List.mem_of_getElem? (i := 3) rfl), rfl⟩)) rfl
theorem q_1351 : Cond.selects RX3 yX3_enqueueDoorsOf yX3_enqueueDoorsOf ∈ sw_all := sw_q (List.mem_append_left _ (List.mem_map.mpr ⟨(yX3_enqueueDoorsOf, 9), List.mem_append_left _ (List.mem_of_getElem? (i := 4) rfl), rfl⟩)) rfl
theorem q_1352 : Cond.selects RX3 yX3_bestChoice yX3_bestChoice ∈ sw_all := sw_q (List.mem_append_left _ (List.mem_map.mpr ⟨(yX3_bestChoice, 9), List.mem_append_left _ (List.mem_of_getElem? (i := 5) rfl), rfl⟩)) rfl
theorem q_1353 : Cond.selects RX6 yX6_conclude yX6_conclude ∈ sw_all := sw_q (List.mem_append_left _ (List.mem_map.mpr ⟨(yX6_conclude, 10), List.mem_append_left _ (List.mem_of_getElem? (i := 6) rfl), rfl⟩)) rfl
theorem q_1354 : Cond.selects RX3 yX3_extendSets yX3_extendSets ∈ sw_all := sw_q (List.mem_append_left _ (List.mem_map.mpr ⟨(yX3_extendSets, 9), List.mem_append_left _ (List.mem_of_getElem? (i := 8) rfl), rfl⟩)) rfl
theorem q_1355 : Cond.selects RX6 yX6_panelCountsAgree yX6_panelCountsAgree ∈ sw_all := sw_q (List.mem_append_left _ (List.mem_map.mpr ⟨(yX6_panelCountsAgree, 10), List.mem_append_left _ (List.mem_of_getElem? (i := 9) rfl), rfl⟩)) rfl
theorem q_1356 : Cond.selects RX6 yX6_framesDiffer yX6_framesDiffer ∈ sw_all := sw_q (List.mem_append_left _ (List.mem_map.mpr ⟨(yX6_framesDiffer, 10), List.mem_append_left _ (List.mem_of_getElem? (i := 10) rfl), rfl⟩)) rfl
theorem q_1357 : Cond.selects RX6 yX6_requireDoor yX6_requireDoor ∈ sw_all := sw_q (List.mem_append_left _ (List.mem_map.mpr ⟨(yX6_requireDoor, 10), List.mem_append_left _ (List.mem_of_getElem? (i := 11) rfl), rfl⟩)) rfl
theorem q_1358 : Cond.selects RX6 yX6_requireExaminer yX6_requireExaminer ∈ sw_all := sw_q (List.mem_append_left _ (List.mem_map.mpr ⟨(yX6_requireExaminer, 10), List.mem_append_left _ (List.mem_of_getElem? (i := 12) rfl), rfl⟩)) rfl
theorem q_1359 : Cond.selects RX6 yX6_requirePair yX6_requirePair ∈ sw_all := sw_q (List.mem_append_left _ (List.mem_map.mpr ⟨(yX6_requirePair, 10), List.mem_append_left _ (List.mem_of_getElem? (i := 13) rfl), rfl⟩)) rfl
theorem q_1360 : Cond.selects RX6 yX6_requireEntry yX6_requireEntry ∈ sw_all := sw_q (List.mem_append_left _ (List.mem_map.mpr ⟨(yX6_requireEntry, 10), List.mem_append_left _ (List.mem_of_getElem? (i := 14) rfl), rfl⟩)) rfl
theorem q_1361 : Cond.selects RX4 yX4_readCommand yX4_readCommand ∈ sw_all := sw_q (List.mem_append_left _ (List.mem_map.mpr ⟨(yX4_readCommand, 5), List.mem_append_left _ (List.mem_of_getElem? (i := 15) rfl), rfl⟩)) rfl
theorem q_1362 : Cond.selects RX4 yX4_match yX4_match ∈ sw_all := sw_q (List.mem_append_left _ (List.mem_map.mpr ⟨(yX4_match, 5), List.mem_append_right _ (List.mem_append_left _ (List.mem_of_getElem? (i := 0) rfl)), rfl⟩)) rfl
theorem q_1363 : Cond.selects RX6 yX6_perform yX6_perform ∈ sw_all := sw_q (List.mem_append_left _ (List.mem_map.mpr ⟨(yX6_perform, 10), List.mem_append_right _ (List.mem_append_left _ (List.mem_of_getElem? (i := 1) rfl)), rfl⟩)) rfl
theorem q_1364 : Cond.selects RX1 yX1_put yX1_put ∈ sw_all := sw_q (List.mem_append_left _ (List.mem_map.mpr ⟨(yX1_put, 2), List.mem_append_right _ (List.mem_append_left _ (List.mem_of_getElem? (i := 2) rfl)), rfl⟩)) rfl
theorem q_1365 : Cond.selects RX1 yX1_putNumber yX1_putNumber ∈ sw_all := sw_q (List.mem_append_left _ (List.mem_map.mpr ⟨(yX1_putNumber, 2), List.mem_append_right _ (List.mem_append_left _ (List.mem_of_getElem? (i := 3) rfl)), rfl⟩)) rfl
theorem q_1366 : Cond.selects RX1 yX1_putIfThere yX1_putIfThere ∈ sw_all := sw_q (List.mem_append_left _ (List.mem_map.mpr ⟨(yX1_putIfThere, 2), List.mem_append_right _ (List.mem_append_left _ (List.mem_of_getElem? (i := 4) rfl)), rfl⟩)) rfl
theorem q_1367 : Cond.selects RX7 yX7_keep yX7_keep ∈ sw_all := sw_q (List.mem_append_left _ (List.mem_map.mpr ⟨(yX7_keep, 22), List.mem_append_right _ (List.mem_append_left _ (List.mem_of_getElem? (i := 5) rfl)), rfl⟩)) rfl
theorem q_1368 : Cond.selects RX7 yX7_doAddDoor yX7_doAddDoor ∈ sw_all := sw_q (List.mem_append_left _ (List.mem_map.mpr ⟨(yX7_doAddDoor, 22), List.mem_append_right _ (List.mem_append_left _ (List.mem_of_getElem? (i := 6) rfl)), rfl⟩)) rfl
theorem q_1369 : Cond.selects RX7 yX7_fails yX7_fails ∈ sw_all := sw_q (List.mem_append_left _ (List.mem_map.mpr ⟨(yX7_fails, 22), List.mem_append_right _ (List.mem_append_left _ (List.mem_of_getElem? (i := 7) rfl)), rfl⟩)) rfl
theorem q_1370 : Cond.selects RX7 yX7_ends yX7_ends ∈ sw_all := sw_q (List.mem_append_left _ (List.mem_map.mpr ⟨(yX7_ends, 22), List.mem_append_right _ (List.mem_append_left _ (List.mem_of_getElem? (i := 8) rfl)), rfl⟩)) rfl
theorem q_1371 : Cond.selects RX7 yX7_doAddExaminer yX7_doAddExaminer ∈ sw_all := sw_q (List.mem_append_left _ (List.mem_map.mpr ⟨(yX7_doAddExaminer, 22), List.mem_append_right _ (List.mem_append_left _ (List.mem_of_getElem? (i := 9) rfl)), rfl⟩)) rfl
theorem q_1372 : Cond.selects RX7 yX7_doConflict yX7_doConflict ∈ sw_all := sw_q (List.mem_append_left _ (List.mem_map.mpr ⟨(yX7_doConflict, 22), List.mem_append_right _ (List.mem_append_left _ (List.mem_of_getElem? (i := 10) rfl)), rfl⟩)) rfl
theorem q_1373 : Cond.selects RX7 yX7_arePair yX7_arePair ∈ sw_all := sw_q (List.mem_append_left _ (List.mem_map.mpr ⟨(yX7_arePair, 22), List.mem_append_right _ (List.mem_append_left _ (List.mem_of_getElem? (i := 11) rfl)), rfl⟩)) rfl
theorem q_1374 : Cond.selects RX7 yX7_isExaminer yX7_isExaminer ∈ sw_all := sw_q (List.mem_append_left _ (List.mem_map.mpr ⟨(yX7_isExaminer, 22), List.mem_append_right _ (List.mem_append_left _ (List.mem_of_getElem? (i := 12) rfl)), rfl⟩)) rfl
theorem q_1375 : Cond.selects RX7 yX7_isDoor yX7_isDoor ∈ sw_all := sw_q (List.mem_append_left _ (List.mem_map.mpr ⟨(yX7_isDoor, 22), List.mem_append_right _ (List.mem_append_left _ (List.mem_of_getElem? (i := 13) rfl)), rfl⟩)) rfl
theorem q_1376 : Cond.selects RX7 yX7_pair yX7_pair ∈ sw_all := sw_q (List.mem_append_left _ (List.mem_map.mpr ⟨(yX7_pair, 22), List.mem_append_right _ (List.mem_append_left _ (List.mem_of_getElem? (i := 14) rfl)), rfl⟩)) rfl
theorem q_1377 : Cond.selects RX7 yX7_assigned yX7_assigned ∈ sw_all := sw_q (List.mem_append_left _ (List.mem_map.mpr ⟨(yX7_assigned, 22), List.mem_append_right _ (List.mem_append_left _ (List.mem_of_getElem? (i := 15) rfl)), rfl⟩)) rfl
theorem q_1378 : Cond.selects RX7 yX7_setsPair yX7_setsPair ∈ sw_all := sw_q (List.mem_append_left _ (List.mem_map.mpr ⟨(yX7_setsPair, 22), List.mem_append_right _ (List.mem_append_right _ (List.mem_append_left _ (List.mem_of_getElem? (i := 0) rfl))), rfl⟩)) rfl
theorem q_1379 : Cond.selects RX7 yX7_neutral yX7_neutral ∈ sw_all := sw_q (List.mem_append_left _ (List.mem_map.mpr ⟨(yX7_neutral, 22), List.mem_append_right _ (List.mem_append_right _ (List.mem_append_left _ (List.mem_of_getElem? (i := 1) rfl))), rfl⟩)) rfl
theorem q_1380 : Cond.selects RX7 yX7_examiner yX7_examiner ∈ sw_all := sw_q (List.mem_append_left _ (List.mem_map.mpr ⟨(yX7_examiner, 22), List.mem_append_right _ (List.mem_append_right _ (List.mem_append_left _ (List.mem_of_getElem? (i := 2) rfl))), rfl⟩)) rfl
theorem q_1381 : Cond.selects RX7 yX7_door yX7_door ∈ sw_all := sw_q (List.mem_append_left _ (List.mem_map.mpr ⟨(yX7_door, 22), List.mem_append_right _ (List.mem_append_right _ (List.mem_append_left _ (List.mem_of_getElem? (i := 3) rfl))), rfl⟩)) rfl
theorem q_1382 : Cond.selects RX7 yX7_doAssign yX7_doAssign ∈ sw_all := sw_q (List.mem_append_left _ (List.mem_map.mpr ⟨(yX7_doAssign, 22), List.mem_append_right _ (List.mem_append_right _ (List.mem_append_left _ (List.mem_of_getElem? (i := 4) rfl))), rfl⟩)) rfl
theorem q_1383 : Cond.selects RX7 yX7_examinersAt yX7_examinersAt ∈ sw_all := sw_q (List.mem_append_left _ (List.mem_map.mpr ⟨(yX7_examinersAt, 22), List.mem_append_right _ (List.mem_append_right _ (List.mem_append_left _ (List.mem_of_getElem? (i := 5) rfl))), rfl⟩)) rfl
theorem q_1384 : Cond.selects RX7 yX7_loadOf yX7_loadOf ∈ sw_all := sw_q (List.mem_append_left _ (List.mem_map.mpr ⟨(yX7_loadOf, 22), List.mem_append_right _ (List.mem_append_right _ (List.mem_append_left _ (List.mem_of_getElem? (i := 6) rfl))), rfl⟩)) rfl
theorem q_1385 : Cond.selects RX7 yX7_judges yX7_judges ∈ sw_all := sw_q (List.mem_append_left _ (List.mem_map.mpr ⟨(yX7_judges, 22), List.mem_append_right _ (List.mem_append_right _ (List.mem_append_left _ (List.mem_of_getElem? (i := 7) rfl))), rfl⟩)) rfl
theorem q_1386 : Cond.selects RX7 yX7_doPlan yX7_doPlan ∈ sw_all := sw_q (List.mem_append_left _ (List.mem_map.mpr ⟨(yX7_doPlan, 22), List.mem_append_right _ (List.mem_append_right _ (List.mem_append_left _ (List.mem_of_getElem? (i := 8) rfl))), rfl⟩)) rfl
theorem q_1387 : Cond.selects RX7 yX7_plans yX7_plans ∈ sw_all := sw_q (List.mem_append_left _ (List.mem_map.mpr ⟨(yX7_plans, 22), List.mem_append_right _ (List.mem_append_right _ (List.mem_append_left _ (List.mem_of_getElem? (i := 9) rfl))), rfl⟩)) rfl
theorem q_1388 : Cond.selects RX7 yX7_countsSeats yX7_countsSeats ∈ sw_all := sw_q (List.mem_append_left _ (List.mem_map.mpr ⟨(yX7_countsSeats, 22), List.mem_append_right _ (List.mem_append_right _ (List.mem_append_left _ (List.mem_of_getElem? (i := 10) rfl))), rfl⟩)) rfl
theorem q_1389 : Cond.selects RX7 yX7_mostFrom yX7_mostFrom ∈ sw_all := sw_q (List.mem_append_left _ (List.mem_map.mpr ⟨(yX7_mostFrom, 22), List.mem_append_right _ (List.mem_append_right _ (List.mem_append_left _ (List.mem_of_getElem? (i := 11) rfl))), rfl⟩)) rfl
theorem q_1390 : Cond.selects RX7 yX7_seat yX7_seat ∈ sw_all := sw_q (List.mem_append_left _ (List.mem_map.mpr ⟨(yX7_seat, 22), List.mem_append_right _ (List.mem_append_right _ (List.mem_append_left _ (List.mem_of_getElem? (i := 12) rfl))), rfl⟩)) rfl
theorem q_1391 : Cond.selects RX7 yX7_canGet yX7_canGet ∈ sw_all := sw_q (List.mem_append_left _ (List.mem_map.mpr ⟨(yX7_canGet, 22), List.mem_append_right _ (List.mem_append_right _ (List.mem_append_left _ (List.mem_of_getElem? (i := 13) rfl))), rfl⟩)) rfl
theorem q_1392 : Cond.selects RX7 yX7_doGrade yX7_doGrade ∈ sw_all := sw_q (List.mem_append_left _ (List.mem_map.mpr ⟨(yX7_doGrade, 22), List.mem_append_right _ (List.mem_append_right _ (List.mem_append_left _ (List.mem_of_getElem? (i := 14) rfl))), rfl⟩)) rfl
theorem q_1393 : Cond.selects RX7 yX7_gradesAt yX7_gradesAt ∈ sw_all := sw_q (List.mem_append_left _ (List.mem_map.mpr ⟨(yX7_gradesAt, 22), List.mem_append_right _ (List.mem_append_right _ (List.mem_append_left _ (List.mem_of_getElem? (i := 15) rfl))), rfl⟩)) rfl
theorem q_1394 : Cond.selects RX7 yX7_doThreshold yX7_doThreshold ∈ sw_all := sw_q (List.mem_append_left _ (List.mem_map.mpr ⟨(yX7_doThreshold, 22), List.mem_append_right _ (List.mem_append_right _ (List.mem_append_right _ (List.mem_append_left _ (List.mem_of_getElem? (i := 0) rfl)))), rfl⟩)) rfl
theorem q_1395 : Cond.selects RX7 yX7_doAppeal yX7_doAppeal ∈ sw_all := sw_q (List.mem_append_left _ (List.mem_map.mpr ⟨(yX7_doAppeal, 22), List.mem_append_right _ (List.mem_append_right _ (List.mem_append_right _ (List.mem_append_left _ (List.mem_of_getElem? (i := 1) rfl)))), rfl⟩)) rfl
theorem q_1396 : Cond.selects RX7 yX7_resultOf yX7_resultOf ∈ sw_all := sw_q (List.mem_append_left _ (List.mem_map.mpr ⟨(yX7_resultOf, 22), List.mem_append_right _ (List.mem_append_right _ (List.mem_append_right _ (List.mem_append_left _ (List.mem_of_getElem? (i := 2) rfl)))), rfl⟩)) rfl
theorem q_1397 : Cond.selects RX7 yX7_hasPassed yX7_hasPassed ∈ sw_all := sw_q (List.mem_append_left _ (List.mem_map.mpr ⟨(yX7_hasPassed, 22), List.mem_append_right _ (List.mem_append_right _ (List.mem_append_right _ (List.mem_append_left _ (List.mem_of_getElem? (i := 3) rfl)))), rfl⟩)) rfl
theorem q_1398 : Cond.selects RX7 yX7_panels yX7_panels ∈ sw_all := sw_q (List.mem_append_left _ (List.mem_map.mpr ⟨(yX7_panels, 22), List.mem_append_right _ (List.mem_append_right _ (List.mem_append_right _ (List.mem_append_left _ (List.mem_of_getElem? (i := 4) rfl)))), rfl⟩)) rfl
theorem q_1399 : Cond.selects RX7 yX7_canSit yX7_canSit ∈ sw_all := sw_q (List.mem_append_left _ (List.mem_map.mpr ⟨(yX7_canSit, 22), List.mem_append_right _ (List.mem_append_right _ (List.mem_append_right _ (List.mem_append_left _ (List.mem_of_getElem? (i := 5) rfl)))), rfl⟩)) rfl
theorem q_1400 : Cond.selects RX7 yX7_doAward yX7_doAward ∈ sw_all := sw_q (List.mem_append_left _ (List.mem_map.mpr ⟨(yX7_doAward, 22), List.mem_append_right _ (List.mem_append_right _ (List.mem_append_right _ (List.mem_append_left _ (List.mem_of_getElem? (i := 6) rfl)))), rfl⟩)) rfl
theorem q_1401 : Cond.selects RX7 yX7_entitled yX7_entitled ∈ sw_all := sw_q (List.mem_append_left _ (List.mem_map.mpr ⟨(yX7_entitled, 22), List.mem_append_right _ (List.mem_append_right _ (List.mem_append_right _ (List.mem_append_left _ (List.mem_of_getElem? (i := 7) rfl)))), rfl⟩)) rfl
theorem q_1402 : Cond.selects RX7 yX7_doRevoke yX7_doRevoke ∈ sw_all := sw_q (List.mem_append_left _ (List.mem_map.mpr ⟨(yX7_doRevoke, 22), List.mem_append_right _ (List.mem_append_right _ (List.mem_append_right _ (List.mem_append_left _ (List.mem_of_getElem? (i := 8) rfl)))), rfl⟩)) rfl
theorem q_1403 : Cond.selects RX7 yX7_isEntry yX7_isEntry ∈ sw_all := sw_q (List.mem_append_left _ (List.mem_map.mpr ⟨(yX7_isEntry, 22), List.mem_append_right _ (List.mem_append_right _ (List.mem_append_right _ (List.mem_append_left _ (List.mem_of_getElem? (i := 9) rfl)))), rfl⟩)) rfl
theorem q_1404 : Cond.selects RX7 yX7_revoked yX7_revoked ∈ sw_all := sw_q (List.mem_append_left _ (List.mem_map.mpr ⟨(yX7_revoked, 22), List.mem_append_right _ (List.mem_append_right _ (List.mem_append_right _ (List.mem_append_left _ (List.mem_of_getElem? (i := 10) rfl)))), rfl⟩)) rfl
theorem q_1405 : Cond.selects RX7 yX7_isThere yX7_isThere ∈ sw_all := sw_q (List.mem_append_left _ (List.mem_map.mpr ⟨(yX7_isThere, 22), List.mem_append_right _ (List.mem_append_right _ (List.mem_append_right _ (List.mem_append_left _ (List.mem_of_getElem? (i := 11) rfl)))), rfl⟩)) rfl
theorem q_1406 : Cond.selects RX7 yX7_gradeSum yX7_gradeSum ∈ sw_all := sw_q (List.mem_append_left _ (List.mem_map.mpr ⟨(yX7_gradeSum, 22), List.mem_append_right _ (List.mem_append_right _ (List.mem_append_right _ (List.mem_append_left _ (List.mem_of_getElem? (i := 12) rfl)))), rfl⟩)) rfl
theorem q_1407 : Cond.selects RX7 yX7_readsCommand yX7_readsCommand ∈ sw_all := sw_q (List.mem_append_left _ (List.mem_map.mpr ⟨(yX7_readsCommand, 22), List.mem_append_right _ (List.mem_append_right _ (List.mem_append_right _ (List.mem_append_left _ (List.mem_of_getElem? (i := 13) rfl)))), rfl⟩)) rfl
theorem q_1408 : Cond.selects RX7 yX7_behind yX7_behind ∈ sw_all := sw_q (List.mem_append_left _ (List.mem_map.mpr ⟨(yX7_behind, 22), List.mem_append_right _ (List.mem_append_right _ (List.mem_append_right _ (List.mem_append_left _ (List.mem_of_getElem? (i := 14) rfl)))), rfl⟩)) rfl
theorem q_1409 : Cond.selects RX7 yX7_readsWord yX7_readsWord ∈ sw_all := sw_q (List.mem_append_left _ (List.mem_map.mpr ⟨(yX7_readsWord, 22), List.mem_append_right _ (List.mem_append_right _ (List.mem_append_right _ (List.mem_append_left _ (List.mem_of_getElem? (i := 15) rfl)))), rfl⟩)) rfl
theorem q_1410 : Cond.selects RX7 yX7_skip yX7_skip ∈ sw_all := sw_q (List.mem_append_left _ (List.mem_map.mpr ⟨(yX7_skip, 22), List.mem_append_right _ (List.mem_append_right _ (List.mem_append_right _ (List.mem_append_right _ (List.mem_of_getElem? (i := 0) rfl)))), rfl⟩)) rfl
theorem q_1411 : Cond.selects RX7 yX7_reads yX7_reads ∈ sw_all := sw_q (List.mem_append_left _ (List.mem_map.mpr ⟨(yX7_reads, 22), List.mem_append_right _ (List.mem_append_right _ (List.mem_append_right _ (List.mem_append_right _ (List.mem_of_getElem? (i := 1) rfl)))), rfl⟩)) rfl
theorem q_1412 : Cond.selects RX7 yX7_isDigit yX7_isDigit ∈ sw_all := sw_q (List.mem_append_left _ (List.mem_map.mpr ⟨(yX7_isDigit, 22), List.mem_append_right _ (List.mem_append_right _ (List.mem_append_right _ (List.mem_append_right _ (List.mem_of_getElem? (i := 2) rfl)))), rfl⟩)) rfl
theorem q_1413 : Cond.selects RX7 yX7_does yX7_does ∈ sw_all := sw_q (List.mem_append_left _ (List.mem_map.mpr ⟨(yX7_does, 22), List.mem_append_right _ (List.mem_append_right _ (List.mem_append_right _ (List.mem_append_right _ (List.mem_of_getElem? (i := 3) rfl)))), rfl⟩)) rfl
theorem q_1414 : Cond.selects RX7 yX7_says yX7_says ∈ sw_all := sw_q (List.mem_append_left _ (List.mem_map.mpr ⟨(yX7_says, 22), List.mem_append_right _ (List.mem_append_right _ (List.mem_append_right _ (List.mem_append_right _ (List.mem_of_getElem? (i := 4) rfl)))), rfl⟩)) rfl
theorem q_1415 : Cond.selects RX7 yX7_saysNumber yX7_saysNumber ∈ sw_all := sw_q (List.mem_append_left _ (List.mem_map.mpr ⟨(yX7_saysNumber, 22), List.mem_append_right _ (List.mem_append_right _ (List.mem_append_right _ (List.mem_append_right _ (List.mem_of_getElem? (i := 5) rfl)))), rfl⟩)) rfl
theorem q_1416 : Cond.codeWith yL_addDoor method_3_code 5 (Option.some .int) [(0, 10, 13, 13), (0, 10, 17, 15)] ∈ sw_all := sw_q (qt_3 _ (List.mem_of_getElem? (i := 110) rfl)) rfl
theorem q_1417 : Cond.codeWith yL_addExaminer method_4_code 7 (Option.some .int) [(0, 14, 17, 13), (0, 14, 21, 15)] ∈ sw_all := sw_q (qt_3 _ (List.mem_of_getElem? (i := 126) rfl)) rfl
theorem q_1418 : Cond.codeWith yL_declareConflict method_5_code 5 (Option.some .int) [(0, 10, 13, 25), (0, 10, 17, 15)] ∈ sw_all := sw_q (qt_3 _ (List.mem_of_getElem? (i := 137) rfl)) rfl
theorem q_1419 : Cond.codeWith yL_assign method_6_code 5 (Option.some .int) [(0, 10, 13, 25), (0, 10, 17, 15), (0, 10, 21, 30)] ∈ sw_all := sw_q (qt_3 _ (List.mem_of_getElem? (i := 194) rfl)) rfl
theorem q_1420 : Cond.codeWith yL_grade method_7_code 6 (Option.some .int) [(0, 12, 15, 25), (0, 12, 19, 13), (0, 12, 23, 15)] ∈ sw_all := sw_q (qt_3 _ (List.mem_of_getElem? (i := 209) rfl)) rfl
theorem q_1421 : Cond.codeWith yL_setThreshold method_8_code 4 (Option.some .int) [(0, 9, 12, 13)] ∈ sw_all := sw_q (qt_3 _ (List.mem_of_getElem? (i := 224) rfl)) rfl
theorem q_1422 : Cond.codeWith yL_appeal method_9_code 4 (Option.some .int) [(0, 9, 12, 25), (0, 9, 15, 15), (0, 9, 18, 30)] ∈ sw_all := sw_q (qt_3 _ (List.mem_of_getElem? (i := 235) rfl)) rfl
theorem q_1423 : Cond.codeWith yL_award method_10_code 4 (Option.some .int) [(0, 9, 12, 25), (0, 9, 15, 15), (0, 9, 18, 30)] ∈ sw_all := sw_q (qt_4 _ (List.mem_of_getElem? (i := 22) rfl)) rfl
theorem q_1424 : Cond.codeWith yL_revoke method_11_code 4 (Option.some .int) [(0, 9, 12, 49), (0, 9, 15, 15)] ∈ sw_all := sw_q (qt_4 _ (List.mem_of_getElem? (i := 46) rfl)) rfl
theorem q_1425 : Cond.codeWith yL_frameOfDoor method_12_code 4 (Option.some .int) [(0, 9, 12, 25)] ∈ sw_all := sw_q (qt_4 _ (List.mem_of_getElem? (i := 62) rfl)) rfl
theorem q_1426 : Cond.codeWith yL_topic method_13_code 4 (Option.some .int) [(0, 9, 12, 25)] ∈ sw_all := sw_q (qt_4 _ (List.mem_of_getElem? (i := 74) rfl)) rfl
theorem q_1427 : Cond.codeWith yL_examinersOf method_14_code 4 (Option.some .int) [(0, 9, 12, 25)] ∈ sw_all := sw_q (qt_4 _ (List.mem_of_getElem? (i := 81) rfl)) rfl
theorem q_1428 : Cond.codeWith yL_gradesOf method_15_code 4 (Option.some .int) [(0, 9, 12, 25)] ∈ sw_all := sw_q (qt_4 _ (List.mem_of_getElem? (i := 88) rfl)) rfl
theorem q_1429 : Cond.codeWith yL_result method_16_code 4 (Option.some .int) [(0, 9, 12, 25), (0, 9, 15, 49)] ∈ sw_all := sw_q (qt_4 _ (List.mem_of_getElem? (i := 96) rfl)) rfl
theorem q_1430 : Cond.codeWith yL_passes method_17_code 4 (Option.some .int) [(0, 16, 19, 25)] ∈ sw_all := sw_q (qt_4 _ (List.mem_of_getElem? (i := 107) rfl)) rfl
theorem q_1431 : Cond.codeWith yL_wasGranted method_18_code 4 (Option.some .int) [(0, 16, 19, 25)] ∈ sw_all := sw_q (qt_4 _ (List.mem_of_getElem? (i := 115) rfl)) rfl
theorem q_1432 : Cond.codeWith yL_isEntitled method_19_code 4 (Option.some .int) [(0, 16, 19, 25)] ∈ sw_all := sw_q (qt_4 _ (List.mem_of_getElem? (i := 123) rfl)) rfl
theorem q_1433 : Cond.codeWith yL_doorAtRank method_20_code 4 (Option.some .int) [(0, 9, 12, 49)] ∈ sw_all := sw_q (qt_4 _ (List.mem_of_getElem? (i := 131) rfl)) rfl
theorem q_1434 : Cond.codeWith yL_frameOfExaminer method_21_code 4 (Option.some .int) [(0, 9, 12, 25)] ∈ sw_all := sw_q (qt_4 _ (List.mem_of_getElem? (i := 150) rfl)) rfl
theorem q_1435 : Cond.codeWith yL_load method_22_code 4 (Option.some .int) [(0, 9, 12, 25)] ∈ sw_all := sw_q (qt_4 _ (List.mem_of_getElem? (i := 162) rfl)) rfl
theorem q_1436 : Cond.codeWith yL_isNeutral method_23_code 5 (Option.some .int) [(0, 17, 20, 25)] ∈ sw_all := sw_q (qt_4 _ (List.mem_of_getElem? (i := 169) rfl)) rfl
theorem q_1437 : Cond.codeWith yL_mayJudge method_24_code 5 (Option.some .int) [(0, 17, 20, 25)] ∈ sw_all := sw_q (qt_4 _ (List.mem_of_getElem? (i := 181) rfl)) rfl
theorem q_1438 : Cond.codeWith yL_isAssigned method_25_code 5 (Option.some .int) [(0, 17, 20, 25)] ∈ sw_all := sw_q (qt_4 _ (List.mem_of_getElem? (i := 189) rfl)) rfl
theorem q_1439 : Cond.codeWith yL_gradeBy method_26_code 5 (Option.some .int) [(0, 10, 13, 25), (0, 10, 17, 49)] ∈ sw_all := sw_q (qt_4 _ (List.mem_of_getElem? (i := 196) rfl)) rfl
theorem q_1440 : Cond.codeWith yL_plannedExaminer method_27_code 4 (Option.some .int) [(0, 9, 12, 25), (0, 9, 15, 49)] ∈ sw_all := sw_q (qt_4 _ (List.mem_of_getElem? (i := 203) rfl)) rfl
theorem q_1441 : Cond.codeWith yL_panelCount method_28_code 4 (Option.some .int) [(0, 9, 12, 25)] ∈ sw_all := sw_q (qt_4 _ (List.mem_of_getElem? (i := 210) rfl)) rfl
theorem q_1442 : Cond.codeWith yL_panelCountByFrames method_29_code 4 (Option.some .int) [(0, 9, 12, 25)] ∈ sw_all := sw_q (qt_4 _ (List.mem_of_getElem? (i := 217) rfl)) rfl
theorem q_1443 : Cond.codeWith yL_panelMember method_30_code 5 (Option.some .int) [(0, 10, 13, 25), (0, 10, 17, 13), (0, 10, 21, 49)] ∈ sw_all := sw_q (qt_4 _ (List.mem_of_getElem? (i := 224) rfl)) rfl
theorem q_1444 : Cond.codeWith yL_doorOf method_31_code 4 (Option.some .int) [(0, 9, 12, 49)] ∈ sw_all := sw_q (qt_4 _ (List.mem_of_getElem? (i := 235) rfl)) rfl
theorem q_1445 : Cond.codeWith yL_isRevoked method_32_code 4 (Option.some .int) [(0, 16, 19, 49)] ∈ sw_all := sw_q (qt_5 _ (List.mem_of_getElem? (i := 7) rfl)) rfl
theorem q_1446 : Cond.codeWith yL_meanGrade method_33_code 3 (Option.some .int) [(0, 7, 10, 121)] ∈ sw_all := sw_q (qt_5 _ (List.mem_of_getElem? (i := 14) rfl)) rfl
theorem q_1447 : Cond.codeWith yL_passShare method_34_code 3 (Option.some .int) [(0, 8, 11, 121)] ∈ sw_all := sw_q (qt_5 _ (List.mem_of_getElem? (i := 41) rfl)) rfl
theorem q_1448 : Cond.codeWith yL_append method_35_code 4 (Option.some .int) [(0, 9, 12, 15)] ∈ sw_all := sw_q (qt_5 _ (List.mem_of_getElem? (i := 48) rfl)) rfl
theorem q_1449 : Cond.codeWith yL_run method_36_code 3 (Option.some .int) [(0, 8, 11, 13), (0, 8, 14, 30)] ∈ sw_all := sw_q (qt_5 _ (List.mem_of_getElem? (i := 63) rfl)) rfl
theorem q_1450 : Cond.codeWith yL_errorPosition method_37_code 3 (Option.some .int) [(0, 8, 11, 49)] ∈ sw_all := sw_q (qt_5 _ (List.mem_of_getElem? (i := 172) rfl)) rfl
theorem q_1451 : Cond.codeWith yL_failedCommand method_38_code 3 (Option.some .int) [(0, 8, 11, 49)] ∈ sw_all := sw_q (qt_5 _ (List.mem_of_getElem? (i := 179) rfl)) rfl
theorem q_1452 : Cond.codeWith yL_writeDoor method_39_code 4 (Option.some .int) [(0, 9, 12, 25)] ∈ sw_all := sw_q (qt_5 _ (List.mem_of_getElem? (i := 186) rfl)) rfl
theorem q_1453 : Cond.codeWith yL_writeExaminer method_40_code 4 (Option.some .int) [(0, 9, 12, 25)] ∈ sw_all := sw_q (qt_5 _ (List.mem_of_getElem? (i := 215) rfl)) rfl
theorem q_1454 : Cond.codeWith yL_outputAt method_41_code 4 (Option.some .int) [(0, 9, 12, 25)] ∈ sw_all := sw_q (qt_5 _ (List.mem_of_getElem? (i := 228) rfl)) rfl
theorem q_1455 : Cond.codeWith yL_undo method_42_code 3 (Option.some .int) [(0, 8, 11, 15)] ∈ sw_all := sw_q (qt_5 _ (List.mem_of_getElem? (i := 235) rfl)) rfl
theorem q_1456 : Cond.codeWith yL_restore method_43_code 2 (Option.some .int) [(0, 4, 7, 15)] ∈ sw_all := sw_q (qt_6 _ (List.mem_of_getElem? (i := 7) rfl)) rfl
theorem qf_0 : ∀ w ∈ u_ws RX0 TX0 3, w ∈ sw_all := List.forall_mem_cons.mpr ⟨sw_q (qt_1 _ (List.mem_of_getElem? (i := 136) rfl)) rfl, List.forall_mem_cons.mpr ⟨sw_q (qt_1 _ (List.mem_of_getElem? (i := 138) rfl)) rfl, List.forall_mem_cons.mpr ⟨sw_q (qt_1 _ (List.mem_of_getElem? (i := 140) rfl)) rfl, fun _ h => absurd h List.not_mem_nil⟩⟩⟩
theorem qf_1 : ∀ w ∈ u_ws RX1 TX1 2, w ∈ sw_all := List.forall_mem_cons.mpr ⟨sw_q (qt_1 _ (List.mem_of_getElem? (i := 226) rfl)) rfl, List.forall_mem_cons.mpr ⟨sw_q (qt_1 _ (List.mem_of_getElem? (i := 228) rfl)) rfl, fun _ h => absurd h List.not_mem_nil⟩⟩
theorem qf_2 : ∀ w ∈ u_ws RX2 TX2 1, w ∈ sw_all := List.forall_mem_cons.mpr ⟨sw_q (qt_1 _ (List.mem_of_getElem? (i := 186) rfl)) rfl, fun _ h => absurd h List.not_mem_nil⟩
theorem qf_3 : ∀ w ∈ u_ws RX3 TX3 9, w ∈ sw_all := List.forall_mem_cons.mpr ⟨sw_q (qt_1 _ (List.mem_of_getElem? (i := 159) rfl)) rfl, List.forall_mem_cons.mpr ⟨sw_q (qt_1 _ (List.mem_of_getElem? (i := 161) rfl)) rfl, List.forall_mem_cons.mpr ⟨sw_q (qt_1 _ (List.mem_of_getElem? (i := 163) rfl)) rfl, List.forall_mem_cons.mpr ⟨sw_q (qt_1 _ (List.mem_of_getElem? (i := 165) rfl)) rfl, List.forall_mem_cons.mpr ⟨sw_q (qt_1 _ (List.mem_of_getElem? (i := 167) rfl)) rfl, List.forall_mem_cons.mpr ⟨sw_q (qt_1 _ (List.mem_of_getElem? (i := 169) rfl)) rfl, List.forall_mem_cons.mpr ⟨sw_q (qt_1 _ (List.mem_of_getElem? (i := 171) rfl)) rfl, List.forall_mem_cons.mpr ⟨sw_q (qt_1 _ (List.mem_of_getElem? (i := 173) rfl)) rfl, List.forall_mem_cons.mpr ⟨sw_q (qt_1 _ (List.mem_of_getElem? (i := 175) rfl)) rfl, fun _ h => absurd h List.not_mem_nil⟩⟩⟩⟩⟩⟩⟩⟩⟩
theorem qf_4 : ∀ w ∈ u_ws RX4 TX4 5, w ∈ sw_all := List.forall_mem_cons.mpr ⟨sw_q (qt_1 _ (List.mem_of_getElem? (i := 205) rfl)) rfl, List.forall_mem_cons.mpr ⟨sw_q (qt_1 _ (List.mem_of_getElem? (i := 207) rfl)) rfl, List.forall_mem_cons.mpr ⟨sw_q (qt_1 _ (List.mem_of_getElem? (i := 209) rfl)) rfl, List.forall_mem_cons.mpr ⟨sw_q (qt_1 _ (List.mem_of_getElem? (i := 211) rfl)) rfl, List.forall_mem_cons.mpr ⟨sw_q (qt_1 _ (List.mem_of_getElem? (i := 213) rfl)) rfl, fun _ h => absurd h List.not_mem_nil⟩⟩⟩⟩⟩
theorem qf_5 : ∀ w ∈ u_ws RX5 TX5 17, w ∈ sw_all := List.forall_mem_cons.mpr ⟨sw_q (qt_1 _ (List.mem_of_getElem? (i := 86) rfl)) rfl, List.forall_mem_cons.mpr ⟨sw_q (qt_1 _ (List.mem_of_getElem? (i := 88) rfl)) rfl, List.forall_mem_cons.mpr ⟨sw_q (qt_1 _ (List.mem_of_getElem? (i := 90) rfl)) rfl, List.forall_mem_cons.mpr ⟨sw_q (qt_1 _ (List.mem_of_getElem? (i := 92) rfl)) rfl, List.forall_mem_cons.mpr ⟨sw_q (qt_1 _ (List.mem_of_getElem? (i := 94) rfl)) rfl, List.forall_mem_cons.mpr ⟨sw_q (qt_1 _ (List.mem_of_getElem? (i := 96) rfl)) rfl, List.forall_mem_cons.mpr ⟨sw_q (qt_1 _ (List.mem_of_getElem? (i := 98) rfl)) rfl, List.forall_mem_cons.mpr ⟨sw_q (qt_1 _ (List.mem_of_getElem? (i := 100) rfl)) rfl, List.forall_mem_cons.mpr ⟨sw_q (qt_1 _ (List.mem_of_getElem? (i := 102) rfl)) rfl, List.forall_mem_cons.mpr ⟨sw_q (qt_1 _ (List.mem_of_getElem? (i := 104) rfl)) rfl, List.forall_mem_cons.mpr ⟨sw_q (qt_1 _ (List.mem_of_getElem? (i := 106) rfl)) rfl, List.forall_mem_cons.mpr ⟨sw_q (qt_1 _ (List.mem_of_getElem? (i := 108) rfl)) rfl, List.forall_mem_cons.mpr ⟨sw_q (qt_1 _ (List.mem_of_getElem? (i := 110) rfl)) rfl, List.forall_mem_cons.mpr ⟨sw_q (qt_1 _ (List.mem_of_getElem? (i := 112) rfl)) rfl, List.forall_mem_cons.mpr ⟨sw_q (qt_1 _ (List.mem_of_getElem? (i := 114) rfl)) rfl, List.forall_mem_cons.mpr ⟨sw_q (qt_1 _ (List.mem_of_getElem? (i := 116) rfl)) rfl, List.forall_mem_cons.mpr ⟨sw_q (qt_1 _ (List.mem_of_getElem? (i := 118) rfl)) rfl, fun _ h => absurd h List.not_mem_nil⟩⟩⟩⟩⟩⟩⟩⟩⟩⟩⟩⟩⟩⟩⟩⟩⟩
theorem qf_6 : ∀ w ∈ u_ws RX6 TX6 10, w ∈ sw_all := List.forall_mem_cons.mpr ⟨sw_q (qt_2 _ (List.mem_of_getElem? (i := 1) rfl)) rfl, List.forall_mem_cons.mpr ⟨sw_q (qt_2 _ (List.mem_of_getElem? (i := 3) rfl)) rfl, List.forall_mem_cons.mpr ⟨sw_q (qt_2 _ (List.mem_of_getElem? (i := 5) rfl)) rfl, List.forall_mem_cons.mpr ⟨sw_q (qt_2 _ (List.mem_of_getElem? (i := 7) rfl)) rfl, List.forall_mem_cons.mpr ⟨sw_q (qt_2 _ (List.mem_of_getElem? (i := 9) rfl)) rfl, List.forall_mem_cons.mpr ⟨sw_q (qt_2 _ (List.mem_of_getElem? (i := 11) rfl)) rfl, List.forall_mem_cons.mpr ⟨sw_q (qt_2 _ (List.mem_of_getElem? (i := 13) rfl)) rfl, List.forall_mem_cons.mpr ⟨sw_q (qt_2 _ (List.mem_of_getElem? (i := 15) rfl)) rfl, List.forall_mem_cons.mpr ⟨sw_q (qt_2 _ (List.mem_of_getElem? (i := 17) rfl)) rfl, List.forall_mem_cons.mpr ⟨sw_q (qt_2 _ (List.mem_of_getElem? (i := 19) rfl)) rfl, fun _ h => absurd h List.not_mem_nil⟩⟩⟩⟩⟩⟩⟩⟩⟩⟩
theorem qf_7 : ∀ w ∈ u_ws RX7 TX7 22, w ∈ sw_all := List.forall_mem_cons.mpr ⟨sw_q (qt_6 _ (List.mem_of_getElem? (i := 44) rfl)) rfl, List.forall_mem_cons.mpr ⟨sw_q (qt_6 _ (List.mem_of_getElem? (i := 46) rfl)) rfl, List.forall_mem_cons.mpr ⟨sw_q (qt_6 _ (List.mem_of_getElem? (i := 48) rfl)) rfl, List.forall_mem_cons.mpr ⟨sw_q (qt_6 _ (List.mem_of_getElem? (i := 50) rfl)) rfl, List.forall_mem_cons.mpr ⟨sw_q (qt_6 _ (List.mem_of_getElem? (i := 52) rfl)) rfl, List.forall_mem_cons.mpr ⟨sw_q (qt_6 _ (List.mem_of_getElem? (i := 54) rfl)) rfl, List.forall_mem_cons.mpr ⟨sw_q (qt_6 _ (List.mem_of_getElem? (i := 56) rfl)) rfl, List.forall_mem_cons.mpr ⟨sw_q (qt_6 _ (List.mem_of_getElem? (i := 58) rfl)) rfl, List.forall_mem_cons.mpr ⟨sw_q (qt_6 _ (List.mem_of_getElem? (i := 60) rfl)) rfl, List.forall_mem_cons.mpr ⟨sw_q (qt_6 _ (List.mem_of_getElem? (i := 62) rfl)) rfl, List.forall_mem_cons.mpr ⟨sw_q (qt_6 _ (List.mem_of_getElem? (i := 64) rfl)) rfl, List.forall_mem_cons.mpr ⟨sw_q (qt_6 _ (List.mem_of_getElem? (i := 66) rfl)) rfl, List.forall_mem_cons.mpr ⟨sw_q (qt_6 _ (List.mem_of_getElem? (i := 68) rfl)) rfl, List.forall_mem_cons.mpr ⟨sw_q (qt_6 _ (List.mem_of_getElem? (i := 70) rfl)) rfl, List.forall_mem_cons.mpr ⟨sw_q (qt_6 _ (List.mem_of_getElem? (i := 72) rfl)) rfl, List.forall_mem_cons.mpr ⟨sw_q (qt_6 _ (List.mem_of_getElem? (i := 74) rfl)) rfl, List.forall_mem_cons.mpr ⟨sw_q (qt_6 _ (List.mem_of_getElem? (i := 76) rfl)) rfl, List.forall_mem_cons.mpr ⟨sw_q (qt_6 _ (List.mem_of_getElem? (i := 78) rfl)) rfl, List.forall_mem_cons.mpr ⟨sw_q (qt_6 _ (List.mem_of_getElem? (i := 80) rfl)) rfl, List.forall_mem_cons.mpr ⟨sw_q (qt_6 _ (List.mem_of_getElem? (i := 82) rfl)) rfl, List.forall_mem_cons.mpr ⟨sw_q (qt_6 _ (List.mem_of_getElem? (i := 84) rfl)) rfl, List.forall_mem_cons.mpr ⟨sw_q (qt_6 _ (List.mem_of_getElem? (i := 86) rfl)) rfl, fun _ h => absurd h List.not_mem_nil⟩⟩⟩⟩⟩⟩⟩⟩⟩⟩⟩⟩⟩⟩⟩⟩⟩⟩⟩⟩⟩⟩
theorem qf_J : ∀ w ∈ u_ws RJ0 TJ0 2, w ∈ sw_all := List.forall_mem_cons.mpr ⟨sw_q (qt_3 _ (List.mem_of_getElem? (i := 167) rfl)) rfl, List.forall_mem_cons.mpr ⟨sw_q (qt_3 _ (List.mem_of_getElem? (i := 169) rfl)) rfl, fun _ h => absurd h List.not_mem_nil⟩⟩
