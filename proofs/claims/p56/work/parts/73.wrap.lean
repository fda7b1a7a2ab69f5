/-! The law's wrappers over pictures. -/
theorem z_bool {v : Nat} (h : ¬ nI v = 0) (h1 : v ≤ 1) : (1 : Int32) = nI v := by
  rcases (show v = 0 ∨ v = 1 by omega) with e | e
  · subst e; exact absurd rfl h
  · subst e; rfl
theorem s_passes_1 (z : zG) (a1 : Int32) : (s_passes z a1).2.1 ≤ 1 := by
  unfold s_passes
  split
  · show (if _ then 1 else 0) ≤ 1
    split <;> decide
  · exact Nat.zero_le _
theorem s_wasGranted_1 (z : zG) (a1 : Int32) : (s_wasGranted z a1).2.1 ≤ 1 := by
  unfold s_wasGranted
  split
  · show (if _ then 1 else 0) ≤ 1
    split <;> decide
  · exact Nat.zero_le _
theorem s_isEntitled_1 (z : zG) (a1 : Int32) : (s_isEntitled z a1).2.1 ≤ 1 := by
  unfold s_isEntitled
  split
  · show (if _ then 1 else 0) ≤ 1
    split <;> decide
  · exact Nat.zero_le _
theorem s_isNeutral_1 (z : zG) (a1 a2 : Int32) : (s_isNeutral z a1 a2).2.1 ≤ 1 := by
  unfold s_isNeutral
  split
  · show (if _ then 1 else 0) ≤ 1
    split <;> decide
  · exact Nat.zero_le _
theorem s_mayJudge_1 (z : zG) (a1 a2 : Int32) : (s_mayJudge z a1 a2).2.1 ≤ 1 := by
  unfold s_mayJudge
  split
  · show (if _ then 1 else 0) ≤ 1
    split <;> decide
  · exact Nat.zero_le _
theorem s_isAssigned_1 (z : zG) (a1 a2 : Int32) : (s_isAssigned z a1 a2).2.1 ≤ 1 := by
  unfold s_isAssigned
  split
  · show (if _ then 1 else 0) ≤ 1
    split <;> decide
  · exact Nat.zero_le _
theorem s_isRevoked_1 (z : zG) (a1 : Int32) : (s_isRevoked z a1).2.1 ≤ 1 := by
  unfold s_isRevoked
  split
  · show (if _ then 1 else 0) ≤ 1
    split <;> decide
  · exact Nat.zero_le _
theorem ch_L_addDoor : sw_cH yL_addDoor cL_addDoor 4 (some .int) [(0, 6, 7, 14), (0, 6, 10, 16)] 3 := ⟨q_165, q_1, q_1174, by decide +kernel⟩
set_option maxRecDepth 20000 in
theorem kL_addDoor (l : Launch) (hst : l.stackTraces = false) (g : sG) (z : zG) (a1 : Int32) (a2 : Int32) : Met l yL_addDoor (sw_wsH yL_addDoor cL_addDoor 4 (some .int) [(0, 6, 7, 14), (0, 6, 10, 16)]) { frames := 9, cells := 1, slots := 6, locals := 158 } (va_Pc [.ref (sw_ad g 0), .int a1, .int a2] (zl_Pr g z)) (va_Qi (fun r z' => r = zv (zstep z (oDoor z.1 a1 a2)) [(-1), (-2)] ∧ z' = (zstep z (oDoor z.1 a1 a2)).2.2) (zl_Po g) (sw_A g)) 1 6 (sw_A g) := by
  refine zl_metH (by decide) (Nat.le_of_ble_eq_true rfl) ?_
  intro p e s m args below meth c ls hx hb hr hts hown hml hlocks htab hW hl
  have hown : s.vm.findClass RL = some m.cls := hown
  have hl : lv_has ls 4 [(0, .ref (sw_ad g 0)), (1, .int a1), (2, .int a2)] := hl
  refine lv_aload_n hx hb dL_addDoor_0 rfl (lv_at hl 0 rfl) ?_
  refine lv_iload_n hx hb dL_addDoor_1 rfl (lv_at hl 1 rfl) ?_
  refine lv_iload_n hx hb dL_addDoor_2 rfl (lv_at hl 2 rfl) ?_
  refine zl_xki (g := g) (rest := []) (zl_xrunV (g := g) (As := [.int a1, .int a2]) (rest := []) hx hb hml hown hts (zX_addDoor l hst (zl_re g s.heap.size) z a1 a2) cv_X6_addDoor q_168 rfl rfl ⟨(Nat.le_of_ble_eq_true rfl), (Nat.le_of_ble_eq_true rfl)⟩ hW (Or.inl (Nat.le_of_ble_eq_true rfl)) sl_0 rfl rfl hl.1 rfl (Nat.le_of_ble_eq_true rfl) dL_addDoor_3 ⟨(Nat.le_of_ble_eq_true rfl), (Nat.le_of_ble_eq_true rfl)⟩) hW (fun E9 ce9 q9 z9 H locs h hW f1 f2 f3 => ?_) (fun r1 z2 H locs h hW => ?_)
  · by_cases kE0 : E9 = "java/lang/IllegalArgumentException"
    · obtain ⟨h0, h1, h2⟩ := h.1 kE0
      subst kE0
      refine zl_catch htab [] [(0, 6, 10, 16)] rfl hown hts (fun z hz => nomatch hz) ⟨by decide, by decide⟩ (by decide) q_166 cast_IllegalArgumentException hW f1 f2 f3 ?_
      refine lv_astore_n (lv' := [(3, .ref q9), (0, .ref (sw_ad g 0)), (1, .int a1), (2, .int a2)]) hx hb dL_addDoor_7 rfl hl (Nat.le_of_ble_eq_true rfl) rfl (fun ls hl => ?_)
      refine lv_iconst (v := -1) hx hb dL_addDoor_8 (by decide) ?_
      exact zl_ri hx hb hr hlocks hW rfl ⟨(zv_c (l := [(-1), (-2)]) h1 h0).symm, h2⟩ dL_addDoor_9
    · replace h := h.2 kE0
      by_cases kE1 : E9 = "java/lang/IllegalStateException"
      · obtain ⟨h0, h1, h2⟩ := h.1 kE1
        subst kE1
        refine zl_catch htab [(0, 6, 7, 14)] [] rfl hown hts (fun z hz => by
          simp only [List.mem_cons, List.not_mem_nil, or_false] at hz
          rcases hz with rfl
          · exact ⟨by decide, "java/lang/IllegalArgumentException", q_166, hW.2.2.2.2.2.2.2.2.1.2.2.1 ("java/lang/IllegalStateException", "java/lang/IllegalArgumentException") (by decide)⟩) ⟨by decide, by decide⟩ (by decide) q_167 cast_IllegalStateException hW f1 f2 f3 ?_
        refine lv_astore_n (lv' := [(3, .ref q9), (0, .ref (sw_ad g 0)), (1, .int a1), (2, .int a2)]) hx hb dL_addDoor_10 rfl hl (Nat.le_of_ble_eq_true rfl) rfl (fun ls hl => ?_)
        refine lv_bipush (v := -2) hx hb dL_addDoor_11 (by decide) ?_
        exact zl_ri hx hb hr hlocks hW rfl ⟨(zv_c (l := [(-1), (-2)]) h1 h0).symm, h2⟩ dL_addDoor_13
      · exact (h.2 kE1).elim
  · obtain ⟨h0, h1, h2⟩ := h
    exact zl_ri hx hb hr hlocks hW rfl ⟨h1.trans (zv_0 h0).symm, h2⟩ dL_addDoor_6

theorem ch_L_addExaminer : sw_cH yL_addExaminer cL_addExaminer 6 (some .int) [(0, 9, 10, 14), (0, 9, 14, 16)] 5 := ⟨q_264, q_1, q_1175, by decide +kernel⟩
set_option maxRecDepth 20000 in
theorem kL_addExaminer (l : Launch) (hst : l.stackTraces = false) (g : sG) (z : zG) (a1 : Int32) (a2 : Int32) (a3 : Int32) (a4 : Int32) : Met l yL_addExaminer (sw_wsH yL_addExaminer cL_addExaminer 6 (some .int) [(0, 9, 10, 14), (0, 9, 14, 16)]) { frames := 9, cells := 1, slots := 6, locals := 160 } (va_Pc [.ref (sw_ad g 0), .int a1, .int a2, .int a3, .int a4] (zl_Pr g z)) (va_Qi (fun r z' => r = zv (zstep z (oExam z.1 a1 a2 a3 a4)) [(-1), (-2)] ∧ z' = (zstep z (oExam z.1 a1 a2 a3 a4)).2.2) (zl_Po g) (sw_A g)) 1 6 (sw_A g) := by
  refine zl_metH (by decide) (Nat.le_of_ble_eq_true rfl) ?_
  intro p e s m args below meth c ls hx hb hr hts hown hml hlocks htab hW hl
  have hown : s.vm.findClass RL = some m.cls := hown
  have hl : lv_has ls 6 [(0, .ref (sw_ad g 0)), (1, .int a1), (2, .int a2), (3, .int a3), (4, .int a4)] := hl
  refine lv_aload_n hx hb dL_addExaminer_0 rfl (lv_at hl 0 rfl) ?_
  refine lv_iload_n hx hb dL_addExaminer_1 rfl (lv_at hl 1 rfl) ?_
  refine lv_iload_n hx hb dL_addExaminer_2 rfl (lv_at hl 2 rfl) ?_
  refine lv_iload_n hx hb dL_addExaminer_3 rfl (lv_at hl 3 rfl) ?_
  refine lv_iload hx hb dL_addExaminer_4 (lv_at hl 4 rfl) ?_
  refine zl_xki (g := g) (rest := []) (zl_xrunV (g := g) (As := [.int a1, .int a2, .int a3, .int a4]) (rest := []) hx hb hml hown hts (zX_addExaminer l hst (zl_re g s.heap.size) z a1 a2 a3 a4) cv_X6_addExaminer q_265 rfl rfl ⟨(Nat.le_of_ble_eq_true rfl), (Nat.le_of_ble_eq_true rfl)⟩ hW (Or.inl (Nat.le_of_ble_eq_true rfl)) sl_0 rfl rfl hl.1 rfl (Nat.le_of_ble_eq_true rfl) dL_addExaminer_6 ⟨(Nat.le_of_ble_eq_true rfl), (Nat.le_of_ble_eq_true rfl)⟩) hW (fun E9 ce9 q9 z9 H locs h hW f1 f2 f3 => ?_) (fun r1 z2 H locs h hW => ?_)
  · by_cases kE0 : E9 = "java/lang/IllegalArgumentException"
    · obtain ⟨h0, h1, h2⟩ := h.1 kE0
      subst kE0
      refine zl_catch htab [] [(0, 9, 14, 16)] rfl hown hts (fun z hz => nomatch hz) ⟨by decide, by decide⟩ (by decide) q_166 cast_IllegalArgumentException hW f1 f2 f3 ?_
      refine lv_astore (lv' := [(5, .ref q9), (0, .ref (sw_ad g 0)), (1, .int a1), (2, .int a2), (3, .int a3), (4, .int a4)]) hx hb dL_addExaminer_10 hl (Nat.le_of_ble_eq_true rfl) rfl (fun ls hl => ?_)
      refine lv_iconst (v := -1) hx hb dL_addExaminer_12 (by decide) ?_
      exact zl_ri hx hb hr hlocks hW rfl ⟨(zv_c (l := [(-1), (-2)]) h1 h0).symm, h2⟩ dL_addExaminer_13
    · replace h := h.2 kE0
      by_cases kE1 : E9 = "java/lang/IllegalStateException"
      · obtain ⟨h0, h1, h2⟩ := h.1 kE1
        subst kE1
        refine zl_catch htab [(0, 9, 10, 14)] [] rfl hown hts (fun z hz => by
          simp only [List.mem_cons, List.not_mem_nil, or_false] at hz
          rcases hz with rfl
          · exact ⟨by decide, "java/lang/IllegalArgumentException", q_166, hW.2.2.2.2.2.2.2.2.1.2.2.1 ("java/lang/IllegalStateException", "java/lang/IllegalArgumentException") (by decide)⟩) ⟨by decide, by decide⟩ (by decide) q_167 cast_IllegalStateException hW f1 f2 f3 ?_
        refine lv_astore (lv' := [(5, .ref q9), (0, .ref (sw_ad g 0)), (1, .int a1), (2, .int a2), (3, .int a3), (4, .int a4)]) hx hb dL_addExaminer_14 hl (Nat.le_of_ble_eq_true rfl) rfl (fun ls hl => ?_)
        refine lv_bipush (v := -2) hx hb dL_addExaminer_16 (by decide) ?_
        exact zl_ri hx hb hr hlocks hW rfl ⟨(zv_c (l := [(-1), (-2)]) h1 h0).symm, h2⟩ dL_addExaminer_18
      · exact (h.2 kE1).elim
  · obtain ⟨h0, h1, h2⟩ := h
    exact zl_ri hx hb hr hlocks hW rfl ⟨h1.trans (zv_0 h0).symm, h2⟩ dL_addExaminer_9

theorem ch_L_conflict : sw_cH yL_conflict cL_conflict 4 (some .int) [(0, 6, 7, 26), (0, 6, 10, 16)] 3 := ⟨q_385, q_1, q_1177, by decide +kernel⟩
set_option maxRecDepth 20000 in
theorem kL_conflict (l : Launch) (hst : l.stackTraces = false) (g : sG) (z : zG) (a1 : Int32) (a2 : Int32) : Met l yL_conflict (sw_wsH yL_conflict cL_conflict 4 (some .int) [(0, 6, 7, 26), (0, 6, 10, 16)]) { frames := 9, cells := 1, slots := 6, locals := 158 } (va_Pc [.ref (sw_ad g 0), .int a1, .int a2] (zl_Pr g z)) (va_Qi (fun r z' => r = zv (zstep z (oConf z.1 a1 a2)) [(-1), (-2)] ∧ z' = (zstep z (oConf z.1 a1 a2)).2.2) (zl_Po g) (sw_A g)) 1 6 (sw_A g) := by
  refine zl_metH (by decide) (Nat.le_of_ble_eq_true rfl) ?_
  intro p e s m args below meth c ls hx hb hr hts hown hml hlocks htab hW hl
  have hown : s.vm.findClass RL = some m.cls := hown
  have hl : lv_has ls 4 [(0, .ref (sw_ad g 0)), (1, .int a1), (2, .int a2)] := hl
  refine lv_aload_n hx hb dL_conflict_0 rfl (lv_at hl 0 rfl) ?_
  refine lv_iload_n hx hb dL_conflict_1 rfl (lv_at hl 1 rfl) ?_
  refine lv_iload_n hx hb dL_conflict_2 rfl (lv_at hl 2 rfl) ?_
  refine zl_xki (g := g) (rest := []) (zl_xrunV (g := g) (As := [.int a1, .int a2]) (rest := []) hx hb hml hown hts (zX_declareConflict l hst (zl_re g s.heap.size) z a1 a2) cv_X6_declareConflict q_386 rfl rfl ⟨(Nat.le_of_ble_eq_true rfl), (Nat.le_of_ble_eq_true rfl)⟩ hW (Or.inl (Nat.le_of_ble_eq_true rfl)) sl_0 rfl rfl hl.1 rfl (Nat.le_of_ble_eq_true rfl) dL_conflict_3 ⟨(Nat.le_of_ble_eq_true rfl), (Nat.le_of_ble_eq_true rfl)⟩) hW (fun E9 ce9 q9 z9 H locs h hW f1 f2 f3 => ?_) (fun r1 z2 H locs h hW => ?_)
  · by_cases kE0 : E9 = "java/lang/IndexOutOfBoundsException"
    · obtain ⟨h0, h1, h2⟩ := h.1 kE0
      subst kE0
      refine zl_catch htab [] [(0, 6, 10, 16)] rfl hown hts (fun z hz => nomatch hz) ⟨by decide, by decide⟩ (by decide) q_275 cast_IndexOutOfBoundsException hW f1 f2 f3 ?_
      refine lv_astore_n (lv' := [(3, .ref q9), (0, .ref (sw_ad g 0)), (1, .int a1), (2, .int a2)]) hx hb dL_conflict_7 rfl hl (Nat.le_of_ble_eq_true rfl) rfl (fun ls hl => ?_)
      refine lv_iconst (v := -1) hx hb dL_conflict_8 (by decide) ?_
      exact zl_ri hx hb hr hlocks hW rfl ⟨(zv_c (l := [(-1), (-2)]) h1 h0).symm, h2⟩ dL_conflict_9
    · replace h := h.2 kE0
      by_cases kE1 : E9 = "java/lang/IllegalStateException"
      · obtain ⟨h0, h1, h2⟩ := h.1 kE1
        subst kE1
        refine zl_catch htab [(0, 6, 7, 26)] [] rfl hown hts (fun z hz => by
          simp only [List.mem_cons, List.not_mem_nil, or_false] at hz
          rcases hz with rfl
          · exact ⟨by decide, "java/lang/IndexOutOfBoundsException", q_275, hW.2.2.2.2.2.2.2.2.1.2.2.1 ("java/lang/IllegalStateException", "java/lang/IndexOutOfBoundsException") (by decide)⟩) ⟨by decide, by decide⟩ (by decide) q_167 cast_IllegalStateException hW f1 f2 f3 ?_
        refine lv_astore_n (lv' := [(3, .ref q9), (0, .ref (sw_ad g 0)), (1, .int a1), (2, .int a2)]) hx hb dL_conflict_10 rfl hl (Nat.le_of_ble_eq_true rfl) rfl (fun ls hl => ?_)
        refine lv_bipush (v := -2) hx hb dL_conflict_11 (by decide) ?_
        exact zl_ri hx hb hr hlocks hW rfl ⟨(zv_c (l := [(-1), (-2)]) h1 h0).symm, h2⟩ dL_conflict_13
      · exact (h.2 kE1).elim
  · obtain ⟨h0, h1, h2⟩ := h
    exact zl_ri hx hb hr hlocks hW rfl ⟨h1.trans (zv_0 h0).symm, h2⟩ dL_conflict_6

theorem ch_L_assign : sw_cH yL_assign cL_assign 4 (some .int) [(0, 6, 7, 26), (0, 6, 10, 16), (0, 6, 14, 31)] 3 := ⟨q_274, q_1, q_1176, by decide +kernel⟩
set_option maxRecDepth 20000 in
theorem kL_assign (l : Launch) (hst : l.stackTraces = false) (g : sG) (z : zG) (a1 : Int32) (a2 : Int32) : Met l yL_assign (sw_wsH yL_assign cL_assign 4 (some .int) [(0, 6, 7, 26), (0, 6, 10, 16), (0, 6, 14, 31)]) { frames := 9, cells := 1, slots := 6, locals := 158 } (va_Pc [.ref (sw_ad g 0), .int a1, .int a2] (zl_Pr g z)) (va_Qi (fun r z' => r = zv (zstep z (oAss z.1 a1 a2)) [(-1), (-2), (-3)] ∧ z' = (zstep z (oAss z.1 a1 a2)).2.2) (zl_Po g) (sw_A g)) 1 6 (sw_A g) := by
  refine zl_metH (by decide) (Nat.le_of_ble_eq_true rfl) ?_
  intro p e s m args below meth c ls hx hb hr hts hown hml hlocks htab hW hl
  have hown : s.vm.findClass RL = some m.cls := hown
  have hl : lv_has ls 4 [(0, .ref (sw_ad g 0)), (1, .int a1), (2, .int a2)] := hl
  refine lv_aload_n hx hb dL_assign_0 rfl (lv_at hl 0 rfl) ?_
  refine lv_iload_n hx hb dL_assign_1 rfl (lv_at hl 1 rfl) ?_
  refine lv_iload_n hx hb dL_assign_2 rfl (lv_at hl 2 rfl) ?_
  refine zl_xki (g := g) (rest := []) (zl_xrunV (g := g) (As := [.int a1, .int a2]) (rest := []) hx hb hml hown hts (zX_assign l hst (zl_re g s.heap.size) z a1 a2) cv_X6_assign q_294 rfl rfl ⟨(Nat.le_of_ble_eq_true rfl), (Nat.le_of_ble_eq_true rfl)⟩ hW (Or.inl (Nat.le_of_ble_eq_true rfl)) sl_0 rfl rfl hl.1 rfl (Nat.le_of_ble_eq_true rfl) dL_assign_3 ⟨(Nat.le_of_ble_eq_true rfl), (Nat.le_of_ble_eq_true rfl)⟩) hW (fun E9 ce9 q9 z9 H locs h hW f1 f2 f3 => ?_) (fun r1 z2 H locs h hW => ?_)
  · by_cases kE0 : E9 = "java/lang/IndexOutOfBoundsException"
    · obtain ⟨h0, h1, h2⟩ := h.1 kE0
      subst kE0
      refine zl_catch htab [] [(0, 6, 10, 16), (0, 6, 14, 31)] rfl hown hts (fun z hz => nomatch hz) ⟨by decide, by decide⟩ (by decide) q_275 cast_IndexOutOfBoundsException hW f1 f2 f3 ?_
      refine lv_astore_n (lv' := [(3, .ref q9), (0, .ref (sw_ad g 0)), (1, .int a1), (2, .int a2)]) hx hb dL_assign_7 rfl hl (Nat.le_of_ble_eq_true rfl) rfl (fun ls hl => ?_)
      refine lv_iconst (v := -1) hx hb dL_assign_8 (by decide) ?_
      exact zl_ri hx hb hr hlocks hW rfl ⟨(zv_c (l := [(-1), (-2), (-3)]) h1 h0).symm, h2⟩ dL_assign_9
    · replace h := h.2 kE0
      by_cases kE1 : E9 = "java/lang/IllegalStateException"
      · obtain ⟨h0, h1, h2⟩ := h.1 kE1
        subst kE1
        refine zl_catch htab [(0, 6, 7, 26)] [(0, 6, 14, 31)] rfl hown hts (fun z hz => by
          simp only [List.mem_cons, List.not_mem_nil, or_false] at hz
          rcases hz with rfl
          · exact ⟨by decide, "java/lang/IndexOutOfBoundsException", q_275, hW.2.2.2.2.2.2.2.2.1.2.2.1 ("java/lang/IllegalStateException", "java/lang/IndexOutOfBoundsException") (by decide)⟩) ⟨by decide, by decide⟩ (by decide) q_167 cast_IllegalStateException hW f1 f2 f3 ?_
        refine lv_astore_n (lv' := [(3, .ref q9), (0, .ref (sw_ad g 0)), (1, .int a1), (2, .int a2)]) hx hb dL_assign_10 rfl hl (Nat.le_of_ble_eq_true rfl) rfl (fun ls hl => ?_)
        refine lv_bipush (v := -2) hx hb dL_assign_11 (by decide) ?_
        exact zl_ri hx hb hr hlocks hW rfl ⟨(zv_c (l := [(-1), (-2), (-3)]) h1 h0).symm, h2⟩ dL_assign_13
      · replace h := h.2 kE1
        by_cases kE2 : E9 = "java/lang/UnsupportedOperationException"
        · obtain ⟨h0, h1, h2⟩ := h.1 kE2
          subst kE2
          refine zl_catch htab [(0, 6, 7, 26), (0, 6, 10, 16)] [] rfl hown hts (fun z hz => by
            simp only [List.mem_cons, List.not_mem_nil, or_false] at hz
            rcases hz with rfl | rfl
            · exact ⟨by decide, "java/lang/IndexOutOfBoundsException", q_275, hW.2.2.2.2.2.2.2.2.1.2.2.1 ("java/lang/UnsupportedOperationException", "java/lang/IndexOutOfBoundsException") (by decide)⟩
            · exact ⟨by decide, "java/lang/IllegalStateException", q_167, hW.2.2.2.2.2.2.2.2.1.2.2.1 ("java/lang/UnsupportedOperationException", "java/lang/IllegalStateException") (by decide)⟩) ⟨by decide, by decide⟩ (by decide) q_293 cast_UnsupportedOperationException hW f1 f2 f3 ?_
          refine lv_astore_n (lv' := [(3, .ref q9), (0, .ref (sw_ad g 0)), (1, .int a1), (2, .int a2)]) hx hb dL_assign_14 rfl hl (Nat.le_of_ble_eq_true rfl) rfl (fun ls hl => ?_)
          refine lv_bipush (v := -3) hx hb dL_assign_15 (by decide) ?_
          exact zl_ri hx hb hr hlocks hW rfl ⟨(zv_c (l := [(-1), (-2), (-3)]) h1 h0).symm, h2⟩ dL_assign_17
        · exact (h.2 kE2).elim
  · obtain ⟨h0, h1, h2⟩ := h
    exact zl_ri hx hb hr hlocks hW rfl ⟨h1.trans (zv_0 h0).symm, h2⟩ dL_assign_6

theorem ch_L_grade : sw_cH yL_grade cL_grade 5 (some .int) [(0, 7, 8, 26), (0, 7, 12, 14), (0, 7, 17, 16)] 4 := ⟨q_399, q_1, q_1178, by decide +kernel⟩
set_option maxRecDepth 20000 in
theorem kL_grade (l : Launch) (hst : l.stackTraces = false) (g : sG) (z : zG) (a1 : Int32) (a2 : Int32) (a3 : Int32) : Met l yL_grade (sw_wsH yL_grade cL_grade 5 (some .int) [(0, 7, 8, 26), (0, 7, 12, 14), (0, 7, 17, 16)]) { frames := 9, cells := 1, slots := 6, locals := 159 } (va_Pc [.ref (sw_ad g 0), .int a1, .int a2, .int a3] (zl_Pr g z)) (va_Qi (fun r z' => r = zv (zstep z (oGrad z.1 a1 a2 a3)) [(-1), (-2), (-3)] ∧ z' = (zstep z (oGrad z.1 a1 a2 a3)).2.2) (zl_Po g) (sw_A g)) 1 6 (sw_A g) := by
  refine zl_metH (by decide) (Nat.le_of_ble_eq_true rfl) ?_
  intro p e s m args below meth c ls hx hb hr hts hown hml hlocks htab hW hl
  have hown : s.vm.findClass RL = some m.cls := hown
  have hl : lv_has ls 5 [(0, .ref (sw_ad g 0)), (1, .int a1), (2, .int a2), (3, .int a3)] := hl
  refine lv_aload_n hx hb dL_grade_0 rfl (lv_at hl 0 rfl) ?_
  refine lv_iload_n hx hb dL_grade_1 rfl (lv_at hl 1 rfl) ?_
  refine lv_iload_n hx hb dL_grade_2 rfl (lv_at hl 2 rfl) ?_
  refine lv_iload_n hx hb dL_grade_3 rfl (lv_at hl 3 rfl) ?_
  refine zl_xki (g := g) (rest := []) (zl_xrunV (g := g) (As := [.int a1, .int a2, .int a3]) (rest := []) hx hb hml hown hts (zX_grade l hst (zl_re g s.heap.size) z a1 a2 a3) cv_X6_grade q_400 rfl rfl ⟨(Nat.le_of_ble_eq_true rfl), (Nat.le_of_ble_eq_true rfl)⟩ hW (Or.inl (Nat.le_of_ble_eq_true rfl)) sl_0 rfl rfl hl.1 rfl (Nat.le_of_ble_eq_true rfl) dL_grade_4 ⟨(Nat.le_of_ble_eq_true rfl), (Nat.le_of_ble_eq_true rfl)⟩) hW (fun E9 ce9 q9 z9 H locs h hW f1 f2 f3 => ?_) (fun r1 z2 H locs h hW => ?_)
  · by_cases kE0 : E9 = "java/lang/IndexOutOfBoundsException"
    · obtain ⟨h0, h1, h2⟩ := h.1 kE0
      subst kE0
      refine zl_catch htab [] [(0, 7, 12, 14), (0, 7, 17, 16)] rfl hown hts (fun z hz => nomatch hz) ⟨by decide, by decide⟩ (by decide) q_275 cast_IndexOutOfBoundsException hW f1 f2 f3 ?_
      refine lv_astore (lv' := [(4, .ref q9), (0, .ref (sw_ad g 0)), (1, .int a1), (2, .int a2), (3, .int a3)]) hx hb dL_grade_8 hl (Nat.le_of_ble_eq_true rfl) rfl (fun ls hl => ?_)
      refine lv_iconst (v := -1) hx hb dL_grade_10 (by decide) ?_
      exact zl_ri hx hb hr hlocks hW rfl ⟨(zv_c (l := [(-1), (-2), (-3)]) h1 h0).symm, h2⟩ dL_grade_11
    · replace h := h.2 kE0
      by_cases kE1 : E9 = "java/lang/IllegalArgumentException"
      · obtain ⟨h0, h1, h2⟩ := h.1 kE1
        subst kE1
        refine zl_catch htab [(0, 7, 8, 26)] [(0, 7, 17, 16)] rfl hown hts (fun z hz => by
          simp only [List.mem_cons, List.not_mem_nil, or_false] at hz
          rcases hz with rfl
          · exact ⟨by decide, "java/lang/IndexOutOfBoundsException", q_275, hW.2.2.2.2.2.2.2.2.1.2.2.1 ("java/lang/IllegalArgumentException", "java/lang/IndexOutOfBoundsException") (by decide)⟩) ⟨by decide, by decide⟩ (by decide) q_166 cast_IllegalArgumentException hW f1 f2 f3 ?_
        refine lv_astore (lv' := [(4, .ref q9), (0, .ref (sw_ad g 0)), (1, .int a1), (2, .int a2), (3, .int a3)]) hx hb dL_grade_12 hl (Nat.le_of_ble_eq_true rfl) rfl (fun ls hl => ?_)
        refine lv_bipush (v := -2) hx hb dL_grade_14 (by decide) ?_
        exact zl_ri hx hb hr hlocks hW rfl ⟨(zv_c (l := [(-1), (-2), (-3)]) h1 h0).symm, h2⟩ dL_grade_16
      · replace h := h.2 kE1
        by_cases kE2 : E9 = "java/lang/IllegalStateException"
        · obtain ⟨h0, h1, h2⟩ := h.1 kE2
          subst kE2
          refine zl_catch htab [(0, 7, 8, 26), (0, 7, 12, 14)] [] rfl hown hts (fun z hz => by
            simp only [List.mem_cons, List.not_mem_nil, or_false] at hz
            rcases hz with rfl | rfl
            · exact ⟨by decide, "java/lang/IndexOutOfBoundsException", q_275, hW.2.2.2.2.2.2.2.2.1.2.2.1 ("java/lang/IllegalStateException", "java/lang/IndexOutOfBoundsException") (by decide)⟩
            · exact ⟨by decide, "java/lang/IllegalArgumentException", q_166, hW.2.2.2.2.2.2.2.2.1.2.2.1 ("java/lang/IllegalStateException", "java/lang/IllegalArgumentException") (by decide)⟩) ⟨by decide, by decide⟩ (by decide) q_167 cast_IllegalStateException hW f1 f2 f3 ?_
          refine lv_astore (lv' := [(4, .ref q9), (0, .ref (sw_ad g 0)), (1, .int a1), (2, .int a2), (3, .int a3)]) hx hb dL_grade_17 hl (Nat.le_of_ble_eq_true rfl) rfl (fun ls hl => ?_)
          refine lv_bipush (v := -3) hx hb dL_grade_19 (by decide) ?_
          exact zl_ri hx hb hr hlocks hW rfl ⟨(zv_c (l := [(-1), (-2), (-3)]) h1 h0).symm, h2⟩ dL_grade_21
        · exact (h.2 kE2).elim
  · obtain ⟨h0, h1, h2⟩ := h
    exact zl_ri hx hb hr hlocks hW rfl ⟨h1.trans (zv_0 h0).symm, h2⟩ dL_grade_7

theorem ch_L_setThreshold : sw_cH yL_setThreshold cL_setThreshold 3 (some .int) [(0, 5, 6, 14)] 2 := ⟨q_413, q_1, q_1179, by decide +kernel⟩
set_option maxRecDepth 20000 in
theorem kL_setThreshold (l : Launch) (hst : l.stackTraces = false) (g : sG) (z : zG) (a1 : Int32) : Met l yL_setThreshold (sw_wsH yL_setThreshold cL_setThreshold 3 (some .int) [(0, 5, 6, 14)]) { frames := 9, cells := 1, slots := 6, locals := 157 } (va_Pc [.ref (sw_ad g 0), .int a1] (zl_Pr g z)) (va_Qi (fun r z' => r = zv (zstep z (oThr z.1 a1)) [(-1)] ∧ z' = (zstep z (oThr z.1 a1)).2.2) (zl_Po g) (sw_A g)) 1 6 (sw_A g) := by
  refine zl_metH (by decide) (Nat.le_of_ble_eq_true rfl) ?_
  intro p e s m args below meth c ls hx hb hr hts hown hml hlocks htab hW hl
  have hown : s.vm.findClass RL = some m.cls := hown
  have hl : lv_has ls 3 [(0, .ref (sw_ad g 0)), (1, .int a1)] := hl
  refine lv_aload_n hx hb dL_setThreshold_0 rfl (lv_at hl 0 rfl) ?_
  refine lv_iload_n hx hb dL_setThreshold_1 rfl (lv_at hl 1 rfl) ?_
  refine zl_xki (g := g) (rest := []) (zl_xrunV (g := g) (As := [.int a1]) (rest := []) hx hb hml hown hts (zX_setThreshold l hst (zl_re g s.heap.size) z a1) cv_X6_setThreshold q_414 rfl rfl ⟨(Nat.le_of_ble_eq_true rfl), (Nat.le_of_ble_eq_true rfl)⟩ hW (Or.inl (Nat.le_of_ble_eq_true rfl)) sl_0 rfl rfl hl.1 rfl (Nat.le_of_ble_eq_true rfl) dL_setThreshold_2 ⟨(Nat.le_of_ble_eq_true rfl), (Nat.le_of_ble_eq_true rfl)⟩) hW (fun E9 ce9 q9 z9 H locs h hW f1 f2 f3 => ?_) (fun r1 z2 H locs h hW => ?_)
  · by_cases kE0 : E9 = "java/lang/IllegalArgumentException"
    · obtain ⟨h0, h1, h2⟩ := h.1 kE0
      subst kE0
      refine zl_catch htab [] [] rfl hown hts (fun z hz => nomatch hz) ⟨by decide, by decide⟩ (by decide) q_166 cast_IllegalArgumentException hW f1 f2 f3 ?_
      refine lv_astore_n (lv' := [(2, .ref q9), (0, .ref (sw_ad g 0)), (1, .int a1)]) hx hb dL_setThreshold_6 rfl hl (Nat.le_of_ble_eq_true rfl) rfl (fun ls hl => ?_)
      refine lv_iconst (v := -1) hx hb dL_setThreshold_7 (by decide) ?_
      exact zl_ri hx hb hr hlocks hW rfl ⟨(zv_c (l := [(-1)]) h1 h0).symm, h2⟩ dL_setThreshold_8
    · exact (h.2 kE0).elim
  · obtain ⟨h0, h1, h2⟩ := h
    exact zl_ri hx hb hr hlocks hW rfl ⟨h1.trans (zv_0 h0).symm, h2⟩ dL_setThreshold_5

theorem ch_L_appeal : sw_cH yL_appeal cL_appeal 3 (some .int) [(0, 5, 6, 26), (0, 5, 9, 16), (0, 5, 13, 31)] 2 := ⟨q_423, q_1, q_1180, by decide +kernel⟩
set_option maxRecDepth 20000 in
theorem kL_appeal (l : Launch) (hst : l.stackTraces = false) (g : sG) (z : zG) (a1 : Int32) : Met l yL_appeal (sw_wsH yL_appeal cL_appeal 3 (some .int) [(0, 5, 6, 26), (0, 5, 9, 16), (0, 5, 13, 31)]) { frames := 9, cells := 1, slots := 6, locals := 157 } (va_Pc [.ref (sw_ad g 0), .int a1] (zl_Pr g z)) (va_Qi (fun r z' => r = zv (zstep z (oApp z.1 a1)) [(-1), (-2), (-3)] ∧ z' = (zstep z (oApp z.1 a1)).2.2) (zl_Po g) (sw_A g)) 1 6 (sw_A g) := by
  refine zl_metH (by decide) (Nat.le_of_ble_eq_true rfl) ?_
  intro p e s m args below meth c ls hx hb hr hts hown hml hlocks htab hW hl
  have hown : s.vm.findClass RL = some m.cls := hown
  have hl : lv_has ls 3 [(0, .ref (sw_ad g 0)), (1, .int a1)] := hl
  refine lv_aload_n hx hb dL_appeal_0 rfl (lv_at hl 0 rfl) ?_
  refine lv_iload_n hx hb dL_appeal_1 rfl (lv_at hl 1 rfl) ?_
  refine zl_xki (g := g) (rest := []) (zl_xrunV (g := g) (As := [.int a1]) (rest := []) hx hb hml hown hts (zX_appeal l hst (zl_re g s.heap.size) z a1) cv_X6_appeal q_424 rfl rfl ⟨(Nat.le_of_ble_eq_true rfl), (Nat.le_of_ble_eq_true rfl)⟩ hW (Or.inl (Nat.le_of_ble_eq_true rfl)) sl_0 rfl rfl hl.1 rfl (Nat.le_of_ble_eq_true rfl) dL_appeal_2 ⟨(Nat.le_of_ble_eq_true rfl), (Nat.le_of_ble_eq_true rfl)⟩) hW (fun E9 ce9 q9 z9 H locs h hW f1 f2 f3 => ?_) (fun r1 z2 H locs h hW => ?_)
  · by_cases kE0 : E9 = "java/lang/IndexOutOfBoundsException"
    · obtain ⟨h0, h1, h2⟩ := h.1 kE0
      subst kE0
      refine zl_catch htab [] [(0, 5, 9, 16), (0, 5, 13, 31)] rfl hown hts (fun z hz => nomatch hz) ⟨by decide, by decide⟩ (by decide) q_275 cast_IndexOutOfBoundsException hW f1 f2 f3 ?_
      refine lv_astore_n (lv' := [(2, .ref q9), (0, .ref (sw_ad g 0)), (1, .int a1)]) hx hb dL_appeal_6 rfl hl (Nat.le_of_ble_eq_true rfl) rfl (fun ls hl => ?_)
      refine lv_iconst (v := -1) hx hb dL_appeal_7 (by decide) ?_
      exact zl_ri hx hb hr hlocks hW rfl ⟨(zv_c (l := [(-1), (-2), (-3)]) h1 h0).symm, h2⟩ dL_appeal_8
    · replace h := h.2 kE0
      by_cases kE1 : E9 = "java/lang/IllegalStateException"
      · obtain ⟨h0, h1, h2⟩ := h.1 kE1
        subst kE1
        refine zl_catch htab [(0, 5, 6, 26)] [(0, 5, 13, 31)] rfl hown hts (fun z hz => by
          simp only [List.mem_cons, List.not_mem_nil, or_false] at hz
          rcases hz with rfl
          · exact ⟨by decide, "java/lang/IndexOutOfBoundsException", q_275, hW.2.2.2.2.2.2.2.2.1.2.2.1 ("java/lang/IllegalStateException", "java/lang/IndexOutOfBoundsException") (by decide)⟩) ⟨by decide, by decide⟩ (by decide) q_167 cast_IllegalStateException hW f1 f2 f3 ?_
        refine lv_astore_n (lv' := [(2, .ref q9), (0, .ref (sw_ad g 0)), (1, .int a1)]) hx hb dL_appeal_9 rfl hl (Nat.le_of_ble_eq_true rfl) rfl (fun ls hl => ?_)
        refine lv_bipush (v := -2) hx hb dL_appeal_10 (by decide) ?_
        exact zl_ri hx hb hr hlocks hW rfl ⟨(zv_c (l := [(-1), (-2), (-3)]) h1 h0).symm, h2⟩ dL_appeal_12
      · replace h := h.2 kE1
        by_cases kE2 : E9 = "java/lang/UnsupportedOperationException"
        · obtain ⟨h0, h1, h2⟩ := h.1 kE2
          subst kE2
          refine zl_catch htab [(0, 5, 6, 26), (0, 5, 9, 16)] [] rfl hown hts (fun z hz => by
            simp only [List.mem_cons, List.not_mem_nil, or_false] at hz
            rcases hz with rfl | rfl
            · exact ⟨by decide, "java/lang/IndexOutOfBoundsException", q_275, hW.2.2.2.2.2.2.2.2.1.2.2.1 ("java/lang/UnsupportedOperationException", "java/lang/IndexOutOfBoundsException") (by decide)⟩
            · exact ⟨by decide, "java/lang/IllegalStateException", q_167, hW.2.2.2.2.2.2.2.2.1.2.2.1 ("java/lang/UnsupportedOperationException", "java/lang/IllegalStateException") (by decide)⟩) ⟨by decide, by decide⟩ (by decide) q_293 cast_UnsupportedOperationException hW f1 f2 f3 ?_
          refine lv_astore_n (lv' := [(2, .ref q9), (0, .ref (sw_ad g 0)), (1, .int a1)]) hx hb dL_appeal_13 rfl hl (Nat.le_of_ble_eq_true rfl) rfl (fun ls hl => ?_)
          refine lv_bipush (v := -3) hx hb dL_appeal_14 (by decide) ?_
          exact zl_ri hx hb hr hlocks hW rfl ⟨(zv_c (l := [(-1), (-2), (-3)]) h1 h0).symm, h2⟩ dL_appeal_16
        · exact (h.2 kE2).elim
  · obtain ⟨h0, h1, h2⟩ := h
    exact zl_ri hx hb hr hlocks hW rfl ⟨h1.trans (zv_0 h0).symm, h2⟩ dL_appeal_5

theorem ch_L_award : sw_cH yL_award cL_award 3 (some .int) [(0, 5, 6, 26), (0, 5, 9, 16), (0, 5, 13, 31)] 2 := ⟨q_462, q_1, q_1181, by decide +kernel⟩
set_option maxRecDepth 20000 in
theorem kL_award (l : Launch) (hst : l.stackTraces = false) (g : sG) (z : zG) (a1 : Int32) : Met l yL_award (sw_wsH yL_award cL_award 3 (some .int) [(0, 5, 6, 26), (0, 5, 9, 16), (0, 5, 13, 31)]) { frames := 9, cells := 1, slots := 6, locals := 157 } (va_Pc [.ref (sw_ad g 0), .int a1] (zl_Pr g z)) (va_Qi (fun r z' => r = zv (zstep z (oAw z.1 a1)) [(-1), (-2), (-3)] ∧ z' = (zstep z (oAw z.1 a1)).2.2) (zl_Po g) (sw_A g)) 1 6 (sw_A g) := by
  refine zl_metH (by decide) (Nat.le_of_ble_eq_true rfl) ?_
  intro p e s m args below meth c ls hx hb hr hts hown hml hlocks htab hW hl
  have hown : s.vm.findClass RL = some m.cls := hown
  have hl : lv_has ls 3 [(0, .ref (sw_ad g 0)), (1, .int a1)] := hl
  refine lv_aload_n hx hb dL_award_0 rfl (lv_at hl 0 rfl) ?_
  refine lv_iload_n hx hb dL_award_1 rfl (lv_at hl 1 rfl) ?_
  refine zl_xki (g := g) (rest := []) (zl_xrunV (g := g) (As := [.int a1]) (rest := []) hx hb hml hown hts (zX_award l hst (zl_re g s.heap.size) z a1) cv_X6_award q_463 rfl rfl ⟨(Nat.le_of_ble_eq_true rfl), (Nat.le_of_ble_eq_true rfl)⟩ hW (Or.inl (Nat.le_of_ble_eq_true rfl)) sl_0 rfl rfl hl.1 rfl (Nat.le_of_ble_eq_true rfl) dL_award_2 ⟨(Nat.le_of_ble_eq_true rfl), (Nat.le_of_ble_eq_true rfl)⟩) hW (fun E9 ce9 q9 z9 H locs h hW f1 f2 f3 => ?_) (fun r1 z2 H locs h hW => ?_)
  · by_cases kE0 : E9 = "java/lang/IndexOutOfBoundsException"
    · obtain ⟨h0, h1, h2⟩ := h.1 kE0
      subst kE0
      refine zl_catch htab [] [(0, 5, 9, 16), (0, 5, 13, 31)] rfl hown hts (fun z hz => nomatch hz) ⟨by decide, by decide⟩ (by decide) q_275 cast_IndexOutOfBoundsException hW f1 f2 f3 ?_
      refine lv_astore_n (lv' := [(2, .ref q9), (0, .ref (sw_ad g 0)), (1, .int a1)]) hx hb dL_award_6 rfl hl (Nat.le_of_ble_eq_true rfl) rfl (fun ls hl => ?_)
      refine lv_iconst (v := -1) hx hb dL_award_7 (by decide) ?_
      exact zl_ri hx hb hr hlocks hW rfl ⟨(zv_c (l := [(-1), (-2), (-3)]) h1 h0).symm, h2⟩ dL_award_8
    · replace h := h.2 kE0
      by_cases kE1 : E9 = "java/lang/IllegalStateException"
      · obtain ⟨h0, h1, h2⟩ := h.1 kE1
        subst kE1
        refine zl_catch htab [(0, 5, 6, 26)] [(0, 5, 13, 31)] rfl hown hts (fun z hz => by
          simp only [List.mem_cons, List.not_mem_nil, or_false] at hz
          rcases hz with rfl
          · exact ⟨by decide, "java/lang/IndexOutOfBoundsException", q_275, hW.2.2.2.2.2.2.2.2.1.2.2.1 ("java/lang/IllegalStateException", "java/lang/IndexOutOfBoundsException") (by decide)⟩) ⟨by decide, by decide⟩ (by decide) q_167 cast_IllegalStateException hW f1 f2 f3 ?_
        refine lv_astore_n (lv' := [(2, .ref q9), (0, .ref (sw_ad g 0)), (1, .int a1)]) hx hb dL_award_9 rfl hl (Nat.le_of_ble_eq_true rfl) rfl (fun ls hl => ?_)
        refine lv_bipush (v := -2) hx hb dL_award_10 (by decide) ?_
        exact zl_ri hx hb hr hlocks hW rfl ⟨(zv_c (l := [(-1), (-2), (-3)]) h1 h0).symm, h2⟩ dL_award_12
      · replace h := h.2 kE1
        by_cases kE2 : E9 = "java/lang/UnsupportedOperationException"
        · obtain ⟨h0, h1, h2⟩ := h.1 kE2
          subst kE2
          refine zl_catch htab [(0, 5, 6, 26), (0, 5, 9, 16)] [] rfl hown hts (fun z hz => by
            simp only [List.mem_cons, List.not_mem_nil, or_false] at hz
            rcases hz with rfl | rfl
            · exact ⟨by decide, "java/lang/IndexOutOfBoundsException", q_275, hW.2.2.2.2.2.2.2.2.1.2.2.1 ("java/lang/UnsupportedOperationException", "java/lang/IndexOutOfBoundsException") (by decide)⟩
            · exact ⟨by decide, "java/lang/IllegalStateException", q_167, hW.2.2.2.2.2.2.2.2.1.2.2.1 ("java/lang/UnsupportedOperationException", "java/lang/IllegalStateException") (by decide)⟩) ⟨by decide, by decide⟩ (by decide) q_293 cast_UnsupportedOperationException hW f1 f2 f3 ?_
          refine lv_astore_n (lv' := [(2, .ref q9), (0, .ref (sw_ad g 0)), (1, .int a1)]) hx hb dL_award_13 rfl hl (Nat.le_of_ble_eq_true rfl) rfl (fun ls hl => ?_)
          refine lv_bipush (v := -3) hx hb dL_award_14 (by decide) ?_
          exact zl_ri hx hb hr hlocks hW rfl ⟨(zv_c (l := [(-1), (-2), (-3)]) h1 h0).symm, h2⟩ dL_award_16
        · exact (h.2 kE2).elim
  · obtain ⟨h0, h1, h2⟩ := h
    exact zl_ri hx hb hr hlocks hW rfl ⟨h1.trans (zv_0 h0).symm, h2⟩ dL_award_5

theorem ch_L_revoke : sw_cH yL_revoke cL_revoke 3 (some .int) [(0, 5, 6, 50), (0, 5, 9, 16)] 2 := ⟨q_1068, q_1, q_1206, by decide +kernel⟩
set_option maxRecDepth 20000 in
theorem kL_revoke (l : Launch) (hst : l.stackTraces = false) (g : sG) (z : zG) (a1 : Int32) : Met l yL_revoke (sw_wsH yL_revoke cL_revoke 3 (some .int) [(0, 5, 6, 50), (0, 5, 9, 16)]) { frames := 9, cells := 1, slots := 6, locals := 157 } (va_Pc [.ref (sw_ad g 0), .int a1] (zl_Pr g z)) (va_Qi (fun r z' => r = zv (zstep z (oRev z.1 a1)) [(-1), (-2)] ∧ z' = (zstep z (oRev z.1 a1)).2.2) (zl_Po g) (sw_A g)) 1 6 (sw_A g) := by
  refine zl_metH (by decide) (Nat.le_of_ble_eq_true rfl) ?_
  intro p e s m args below meth c ls hx hb hr hts hown hml hlocks htab hW hl
  have hown : s.vm.findClass RL = some m.cls := hown
  have hl : lv_has ls 3 [(0, .ref (sw_ad g 0)), (1, .int a1)] := hl
  refine lv_aload_n hx hb dL_revoke_0 rfl (lv_at hl 0 rfl) ?_
  refine lv_iload_n hx hb dL_revoke_1 rfl (lv_at hl 1 rfl) ?_
  refine zl_xki (g := g) (rest := []) (zl_xrunV (g := g) (As := [.int a1]) (rest := []) hx hb hml hown hts (zX_revoke l hst (zl_re g s.heap.size) z a1) cv_X6_revoke q_1069 rfl rfl ⟨(Nat.le_of_ble_eq_true rfl), (Nat.le_of_ble_eq_true rfl)⟩ hW (Or.inl (Nat.le_of_ble_eq_true rfl)) sl_0 rfl rfl hl.1 rfl (Nat.le_of_ble_eq_true rfl) dL_revoke_2 ⟨(Nat.le_of_ble_eq_true rfl), (Nat.le_of_ble_eq_true rfl)⟩) hW (fun E9 ce9 q9 z9 H locs h hW f1 f2 f3 => ?_) (fun r1 z2 H locs h hW => ?_)
  · by_cases kE0 : E9 = "java/util/NoSuchElementException"
    · obtain ⟨h0, h1, h2⟩ := h.1 kE0
      subst kE0
      refine zl_catch htab [] [(0, 5, 9, 16)] rfl hown hts (fun z hz => nomatch hz) ⟨by decide, by decide⟩ (by decide) q_515 cast_NoSuchElementException hW f1 f2 f3 ?_
      refine lv_astore_n (lv' := [(2, .ref q9), (0, .ref (sw_ad g 0)), (1, .int a1)]) hx hb dL_revoke_6 rfl hl (Nat.le_of_ble_eq_true rfl) rfl (fun ls hl => ?_)
      refine lv_iconst (v := -1) hx hb dL_revoke_7 (by decide) ?_
      exact zl_ri hx hb hr hlocks hW rfl ⟨(zv_c (l := [(-1), (-2)]) h1 h0).symm, h2⟩ dL_revoke_8
    · replace h := h.2 kE0
      by_cases kE1 : E9 = "java/lang/IllegalStateException"
      · obtain ⟨h0, h1, h2⟩ := h.1 kE1
        subst kE1
        refine zl_catch htab [(0, 5, 6, 50)] [] rfl hown hts (fun z hz => by
          simp only [List.mem_cons, List.not_mem_nil, or_false] at hz
          rcases hz with rfl
          · exact ⟨by decide, "java/util/NoSuchElementException", q_515, hW.2.2.2.2.2.2.2.2.1.2.2.1 ("java/lang/IllegalStateException", "java/util/NoSuchElementException") (by decide)⟩) ⟨by decide, by decide⟩ (by decide) q_167 cast_IllegalStateException hW f1 f2 f3 ?_
        refine lv_astore_n (lv' := [(2, .ref q9), (0, .ref (sw_ad g 0)), (1, .int a1)]) hx hb dL_revoke_9 rfl hl (Nat.le_of_ble_eq_true rfl) rfl (fun ls hl => ?_)
        refine lv_bipush (v := -2) hx hb dL_revoke_10 (by decide) ?_
        exact zl_ri hx hb hr hlocks hW rfl ⟨(zv_c (l := [(-1), (-2)]) h1 h0).symm, h2⟩ dL_revoke_12
      · exact (h.2 kE1).elim
  · obtain ⟨h0, h1, h2⟩ := h
    exact zl_ri hx hb hr hlocks hW rfl ⟨h1.trans (zv_0 h0).symm, h2⟩ dL_revoke_5

theorem ch_L_frameOfDoor : sw_cH yL_frameOfDoor cL_frameOfDoor 3 (some .int) [(0, 5, 6, 26)] 2 := ⟨q_589, q_1, q_1190, by decide +kernel⟩
set_option maxRecDepth 20000 in
theorem kL_frameOfDoor (l : Launch) (hst : l.stackTraces = false) (g : sG) (z : zG) (a1 : Int32) : Met l yL_frameOfDoor (sw_wsH yL_frameOfDoor cL_frameOfDoor 3 (some .int) [(0, 5, 6, 26)]) { frames := 8, cells := 1, slots := 6, locals := 137 } (va_Pc [.ref (sw_ad g 0), .int a1] (zl_Pr g z)) (va_Qi (fun r z' => r = zv (s_frameOfDoor z a1) [(-11)] ∧ z' = (s_frameOfDoor z a1).2.2) (zl_Po g) (sw_A g)) 1 6 (sw_A g) := by
  refine zl_metH (by decide) (Nat.le_of_ble_eq_true rfl) ?_
  intro p e s m args below meth c ls hx hb hr hts hown hml hlocks htab hW hl
  have hown : s.vm.findClass RL = some m.cls := hown
  have hl : lv_has ls 3 [(0, .ref (sw_ad g 0)), (1, .int a1)] := hl
  refine lv_aload_n hx hb dL_frameOfDoor_0 rfl (lv_at hl 0 rfl) ?_
  refine lv_iload_n hx hb dL_frameOfDoor_1 rfl (lv_at hl 1 rfl) ?_
  refine zl_xki (g := g) (rest := []) (zl_xrunV (g := g) (As := [.int a1]) (rest := []) hx hb hml hown hts (zX_frameOfDoor l hst (zl_re g s.heap.size) z a1) cv_X6_frameOfDoor q_590 rfl rfl ⟨(Nat.le_of_ble_eq_true rfl), (Nat.le_of_ble_eq_true rfl)⟩ hW (Or.inl (Nat.le_of_ble_eq_true rfl)) sl_0 rfl rfl hl.1 rfl (Nat.le_of_ble_eq_true rfl) dL_frameOfDoor_2 ⟨(Nat.le_of_ble_eq_true rfl), (Nat.le_of_ble_eq_true rfl)⟩) hW (fun E9 ce9 q9 z9 H locs h hW f1 f2 f3 => ?_) (fun r1 z2 H locs h hW => ?_)
  · by_cases kE0 : E9 = "java/lang/IndexOutOfBoundsException"
    · obtain ⟨h0, h1, h2⟩ := h.1 kE0
      subst kE0
      refine zl_catch htab [] [] rfl hown hts (fun z hz => nomatch hz) ⟨by decide, by decide⟩ (by decide) q_275 cast_IndexOutOfBoundsException hW f1 f2 f3 ?_
      refine lv_astore_n (lv' := [(2, .ref q9), (0, .ref (sw_ad g 0)), (1, .int a1)]) hx hb dL_frameOfDoor_6 rfl hl (Nat.le_of_ble_eq_true rfl) rfl (fun ls hl => ?_)
      refine lv_bipush (v := -11) hx hb dL_frameOfDoor_7 (by decide) ?_
      exact zl_ri hx hb hr hlocks hW rfl ⟨(zv_c (l := [(-11)]) h1 h0).symm, h2⟩ dL_frameOfDoor_9
    · exact (h.2 kE0).elim
  · obtain ⟨h0, h1, h2⟩ := h
    exact zl_ri hx hb hr hlocks hW rfl ⟨h1.trans (zv_0 h0).symm, h2⟩ dL_frameOfDoor_5

theorem ch_L_topic : sw_cH yL_topic cL_topic 3 (some .int) [(0, 5, 6, 26)] 2 := ⟨q_595, q_1, q_1191, by decide +kernel⟩
set_option maxRecDepth 20000 in
theorem kL_topic (l : Launch) (hst : l.stackTraces = false) (g : sG) (z : zG) (a1 : Int32) : Met l yL_topic (sw_wsH yL_topic cL_topic 3 (some .int) [(0, 5, 6, 26)]) { frames := 8, cells := 1, slots := 6, locals := 137 } (va_Pc [.ref (sw_ad g 0), .int a1] (zl_Pr g z)) (va_Qi (fun r z' => r = zv (s_topic z a1) [(-11)] ∧ z' = (s_topic z a1).2.2) (zl_Po g) (sw_A g)) 1 6 (sw_A g) := by
  refine zl_metH (by decide) (Nat.le_of_ble_eq_true rfl) ?_
  intro p e s m args below meth c ls hx hb hr hts hown hml hlocks htab hW hl
  have hown : s.vm.findClass RL = some m.cls := hown
  have hl : lv_has ls 3 [(0, .ref (sw_ad g 0)), (1, .int a1)] := hl
  refine lv_aload_n hx hb dL_topic_0 rfl (lv_at hl 0 rfl) ?_
  refine lv_iload_n hx hb dL_topic_1 rfl (lv_at hl 1 rfl) ?_
  refine zl_xki (g := g) (rest := []) (zl_xrunV (g := g) (As := [.int a1]) (rest := []) hx hb hml hown hts (zX_topic l hst (zl_re g s.heap.size) z a1) cv_X6_topic q_596 rfl rfl ⟨(Nat.le_of_ble_eq_true rfl), (Nat.le_of_ble_eq_true rfl)⟩ hW (Or.inl (Nat.le_of_ble_eq_true rfl)) sl_0 rfl rfl hl.1 rfl (Nat.le_of_ble_eq_true rfl) dL_topic_2 ⟨(Nat.le_of_ble_eq_true rfl), (Nat.le_of_ble_eq_true rfl)⟩) hW (fun E9 ce9 q9 z9 H locs h hW f1 f2 f3 => ?_) (fun r1 z2 H locs h hW => ?_)
  · by_cases kE0 : E9 = "java/lang/IndexOutOfBoundsException"
    · obtain ⟨h0, h1, h2⟩ := h.1 kE0
      subst kE0
      refine zl_catch htab [] [] rfl hown hts (fun z hz => nomatch hz) ⟨by decide, by decide⟩ (by decide) q_275 cast_IndexOutOfBoundsException hW f1 f2 f3 ?_
      refine lv_astore_n (lv' := [(2, .ref q9), (0, .ref (sw_ad g 0)), (1, .int a1)]) hx hb dL_topic_6 rfl hl (Nat.le_of_ble_eq_true rfl) rfl (fun ls hl => ?_)
      refine lv_bipush (v := -11) hx hb dL_topic_7 (by decide) ?_
      exact zl_ri hx hb hr hlocks hW rfl ⟨(zv_c (l := [(-11)]) h1 h0).symm, h2⟩ dL_topic_9
    · exact (h.2 kE0).elim
  · obtain ⟨h0, h1, h2⟩ := h
    exact zl_ri hx hb hr hlocks hW rfl ⟨h1.trans (zv_0 h0).symm, h2⟩ dL_topic_5

theorem ch_L_examinersOf : sw_cH yL_examinersOf cL_examinersOf 3 (some .int) [(0, 5, 6, 26)] 2 := ⟨q_531, q_1, q_1184, by decide +kernel⟩
set_option maxRecDepth 20000 in
theorem kL_examinersOf (l : Launch) (hst : l.stackTraces = false) (g : sG) (z : zG) (a1 : Int32) : Met l yL_examinersOf (sw_wsH yL_examinersOf cL_examinersOf 3 (some .int) [(0, 5, 6, 26)]) { frames := 8, cells := 1, slots := 6, locals := 137 } (va_Pc [.ref (sw_ad g 0), .int a1] (zl_Pr g z)) (va_Qi (fun r z' => r = zv (s_examinersOf z a1) [(-11)] ∧ z' = (s_examinersOf z a1).2.2) (zl_Po g) (sw_A g)) 1 6 (sw_A g) := by
  refine zl_metH (by decide) (Nat.le_of_ble_eq_true rfl) ?_
  intro p e s m args below meth c ls hx hb hr hts hown hml hlocks htab hW hl
  have hown : s.vm.findClass RL = some m.cls := hown
  have hl : lv_has ls 3 [(0, .ref (sw_ad g 0)), (1, .int a1)] := hl
  refine lv_aload_n hx hb dL_examinersOf_0 rfl (lv_at hl 0 rfl) ?_
  refine lv_iload_n hx hb dL_examinersOf_1 rfl (lv_at hl 1 rfl) ?_
  refine zl_xki (g := g) (rest := []) (zl_xrunV (g := g) (As := [.int a1]) (rest := []) hx hb hml hown hts (zX_examinersOf l hst (zl_re g s.heap.size) z a1) cv_X6_examinersOf q_532 rfl rfl ⟨(Nat.le_of_ble_eq_true rfl), (Nat.le_of_ble_eq_true rfl)⟩ hW (Or.inl (Nat.le_of_ble_eq_true rfl)) sl_0 rfl rfl hl.1 rfl (Nat.le_of_ble_eq_true rfl) dL_examinersOf_2 ⟨(Nat.le_of_ble_eq_true rfl), (Nat.le_of_ble_eq_true rfl)⟩) hW (fun E9 ce9 q9 z9 H locs h hW f1 f2 f3 => ?_) (fun r1 z2 H locs h hW => ?_)
  · by_cases kE0 : E9 = "java/lang/IndexOutOfBoundsException"
    · obtain ⟨h0, h1, h2⟩ := h.1 kE0
      subst kE0
      refine zl_catch htab [] [] rfl hown hts (fun z hz => nomatch hz) ⟨by decide, by decide⟩ (by decide) q_275 cast_IndexOutOfBoundsException hW f1 f2 f3 ?_
      refine lv_astore_n (lv' := [(2, .ref q9), (0, .ref (sw_ad g 0)), (1, .int a1)]) hx hb dL_examinersOf_6 rfl hl (Nat.le_of_ble_eq_true rfl) rfl (fun ls hl => ?_)
      refine lv_bipush (v := -11) hx hb dL_examinersOf_7 (by decide) ?_
      exact zl_ri hx hb hr hlocks hW rfl ⟨(zv_c (l := [(-11)]) h1 h0).symm, h2⟩ dL_examinersOf_9
    · exact (h.2 kE0).elim
  · obtain ⟨h0, h1, h2⟩ := h
    exact zl_ri hx hb hr hlocks hW rfl ⟨h1.trans (zv_0 h0).symm, h2⟩ dL_examinersOf_5

theorem ch_L_gradesOf : sw_cH yL_gradesOf cL_gradesOf 3 (some .int) [(0, 5, 6, 26)] 2 := ⟨q_538, q_1, q_1185, by decide +kernel⟩
set_option maxRecDepth 20000 in
theorem kL_gradesOf (l : Launch) (hst : l.stackTraces = false) (g : sG) (z : zG) (a1 : Int32) : Met l yL_gradesOf (sw_wsH yL_gradesOf cL_gradesOf 3 (some .int) [(0, 5, 6, 26)]) { frames := 8, cells := 1, slots := 6, locals := 137 } (va_Pc [.ref (sw_ad g 0), .int a1] (zl_Pr g z)) (va_Qi (fun r z' => r = zv (s_gradesOf z a1) [(-11)] ∧ z' = (s_gradesOf z a1).2.2) (zl_Po g) (sw_A g)) 1 6 (sw_A g) := by
  refine zl_metH (by decide) (Nat.le_of_ble_eq_true rfl) ?_
  intro p e s m args below meth c ls hx hb hr hts hown hml hlocks htab hW hl
  have hown : s.vm.findClass RL = some m.cls := hown
  have hl : lv_has ls 3 [(0, .ref (sw_ad g 0)), (1, .int a1)] := hl
  refine lv_aload_n hx hb dL_gradesOf_0 rfl (lv_at hl 0 rfl) ?_
  refine lv_iload_n hx hb dL_gradesOf_1 rfl (lv_at hl 1 rfl) ?_
  refine zl_xki (g := g) (rest := []) (zl_xrunV (g := g) (As := [.int a1]) (rest := []) hx hb hml hown hts (zX_gradesOf l hst (zl_re g s.heap.size) z a1) cv_X6_gradesOf q_539 rfl rfl ⟨(Nat.le_of_ble_eq_true rfl), (Nat.le_of_ble_eq_true rfl)⟩ hW (Or.inl (Nat.le_of_ble_eq_true rfl)) sl_0 rfl rfl hl.1 rfl (Nat.le_of_ble_eq_true rfl) dL_gradesOf_2 ⟨(Nat.le_of_ble_eq_true rfl), (Nat.le_of_ble_eq_true rfl)⟩) hW (fun E9 ce9 q9 z9 H locs h hW f1 f2 f3 => ?_) (fun r1 z2 H locs h hW => ?_)
  · by_cases kE0 : E9 = "java/lang/IndexOutOfBoundsException"
    · obtain ⟨h0, h1, h2⟩ := h.1 kE0
      subst kE0
      refine zl_catch htab [] [] rfl hown hts (fun z hz => nomatch hz) ⟨by decide, by decide⟩ (by decide) q_275 cast_IndexOutOfBoundsException hW f1 f2 f3 ?_
      refine lv_astore_n (lv' := [(2, .ref q9), (0, .ref (sw_ad g 0)), (1, .int a1)]) hx hb dL_gradesOf_6 rfl hl (Nat.le_of_ble_eq_true rfl) rfl (fun ls hl => ?_)
      refine lv_bipush (v := -11) hx hb dL_gradesOf_7 (by decide) ?_
      exact zl_ri hx hb hr hlocks hW rfl ⟨(zv_c (l := [(-11)]) h1 h0).symm, h2⟩ dL_gradesOf_9
    · exact (h.2 kE0).elim
  · obtain ⟨h0, h1, h2⟩ := h
    exact zl_ri hx hb hr hlocks hW rfl ⟨h1.trans (zv_0 h0).symm, h2⟩ dL_gradesOf_5

theorem ch_L_result : sw_cH yL_result cL_result 3 (some .int) [(0, 5, 6, 26), (0, 5, 10, 50)] 2 := ⟨q_545, q_1, q_1186, by decide +kernel⟩
set_option maxRecDepth 20000 in
theorem kL_result (l : Launch) (hst : l.stackTraces = false) (g : sG) (z : zG) (a1 : Int32) : Met l yL_result (sw_wsH yL_result cL_result 3 (some .int) [(0, 5, 6, 26), (0, 5, 10, 50)]) { frames := 8, cells := 2, slots := 12, locals := 137 } (va_Pc [.ref (sw_ad g 0), .int a1] (zl_Pr g z)) (va_Qi (fun r z' => r = zv (s_result z a1) [(-11), (-13)] ∧ z' = (s_result z a1).2.2) (zl_Po g) (sw_A g)) 2 12 (sw_A g) := by
  refine zl_metH (by decide) (Nat.le_of_ble_eq_true rfl) ?_
  intro p e s m args below meth c ls hx hb hr hts hown hml hlocks htab hW hl
  have hown : s.vm.findClass RL = some m.cls := hown
  have hl : lv_has ls 3 [(0, .ref (sw_ad g 0)), (1, .int a1)] := hl
  refine lv_aload_n hx hb dL_result_0 rfl (lv_at hl 0 rfl) ?_
  refine lv_iload_n hx hb dL_result_1 rfl (lv_at hl 1 rfl) ?_
  refine zl_xki (g := g) (rest := []) (zl_xrunV (g := g) (As := [.int a1]) (rest := []) hx hb hml hown hts (zX_result l hst (zl_re g s.heap.size) z a1) cv_X6_result q_546 rfl rfl ⟨(Nat.le_of_ble_eq_true rfl), (Nat.le_of_ble_eq_true rfl)⟩ hW (Or.inl (Nat.le_of_ble_eq_true rfl)) sl_0 rfl rfl hl.1 rfl (Nat.le_of_ble_eq_true rfl) dL_result_2 ⟨(Nat.le_of_ble_eq_true rfl), (Nat.le_of_ble_eq_true rfl)⟩) hW (fun E9 ce9 q9 z9 H locs h hW f1 f2 f3 => ?_) (fun r1 z2 H locs h hW => ?_)
  · by_cases kE0 : E9 = "java/lang/IndexOutOfBoundsException"
    · obtain ⟨h0, h1, h2⟩ := h.1 kE0
      subst kE0
      refine zl_catch htab [] [(0, 5, 10, 50)] rfl hown hts (fun z hz => nomatch hz) ⟨by decide, by decide⟩ (by decide) q_275 cast_IndexOutOfBoundsException hW f1 f2 f3 ?_
      refine lv_astore_n (lv' := [(2, .ref q9), (0, .ref (sw_ad g 0)), (1, .int a1)]) hx hb dL_result_6 rfl hl (Nat.le_of_ble_eq_true rfl) rfl (fun ls hl => ?_)
      refine lv_bipush (v := -11) hx hb dL_result_7 (by decide) ?_
      exact zl_ri hx hb hr hlocks hW rfl ⟨(zv_c (l := [(-11), (-13)]) h1 h0).symm, h2⟩ dL_result_9
    · replace h := h.2 kE0
      by_cases kE1 : E9 = "java/util/NoSuchElementException"
      · obtain ⟨h0, h1, h2⟩ := h.1 kE1
        subst kE1
        refine zl_catch htab [(0, 5, 6, 26)] [] rfl hown hts (fun z hz => by
          simp only [List.mem_cons, List.not_mem_nil, or_false] at hz
          rcases hz with rfl
          · exact ⟨by decide, "java/lang/IndexOutOfBoundsException", q_275, hW.2.2.2.2.2.2.2.2.1.2.2.1 ("java/util/NoSuchElementException", "java/lang/IndexOutOfBoundsException") (by decide)⟩) ⟨by decide, by decide⟩ (by decide) q_515 cast_NoSuchElementException hW f1 f2 f3 ?_
        refine lv_astore_n (lv' := [(2, .ref q9), (0, .ref (sw_ad g 0)), (1, .int a1)]) hx hb dL_result_10 rfl hl (Nat.le_of_ble_eq_true rfl) rfl (fun ls hl => ?_)
        refine lv_bipush (v := -13) hx hb dL_result_11 (by decide) ?_
        exact zl_ri hx hb hr hlocks hW rfl ⟨(zv_c (l := [(-11), (-13)]) h1 h0).symm, h2⟩ dL_result_13
      · exact (h.2 kE1).elim
  · obtain ⟨h0, h1, h2⟩ := h
    exact zl_ri hx hb hr hlocks hW rfl ⟨h1.trans (zv_0 h0).symm, h2⟩ dL_result_5

theorem ch_L_passes : sw_cH yL_passes cL_passes 3 (some .int) [(0, 13, 14, 26)] 2 := ⟨q_552, q_1, q_1187, by decide +kernel⟩
set_option maxRecDepth 20000 in
theorem kL_passes (l : Launch) (hst : l.stackTraces = false) (g : sG) (z : zG) (a1 : Int32) : Met l yL_passes (sw_wsH yL_passes cL_passes 3 (some .int) [(0, 13, 14, 26)]) { frames := 8, cells := 1, slots := 6, locals := 137 } (va_Pc [.ref (sw_ad g 0), .int a1] (zl_Pr g z)) (va_Qi (fun r z' => r = zv (s_passes z a1) [(-11)] ∧ z' = (s_passes z a1).2.2) (zl_Po g) (sw_A g)) 1 6 (sw_A g) := by
  refine zl_metH (by decide) (Nat.le_of_ble_eq_true rfl) ?_
  intro p e s m args below meth c ls hx hb hr hts hown hml hlocks htab hW hl
  have hown : s.vm.findClass RL = some m.cls := hown
  have hl : lv_has ls 3 [(0, .ref (sw_ad g 0)), (1, .int a1)] := hl
  refine lv_aload_n hx hb dL_passes_0 rfl (lv_at hl 0 rfl) ?_
  refine lv_iload_n hx hb dL_passes_1 rfl (lv_at hl 1 rfl) ?_
  refine zl_xki (g := g) (rest := []) (zl_xrunV (g := g) (As := [.int a1]) (rest := []) hx hb hml hown hts (zX_passes l hst (zl_re g s.heap.size) z a1) cv_X6_passes q_553 rfl rfl ⟨(Nat.le_of_ble_eq_true rfl), (Nat.le_of_ble_eq_true rfl)⟩ hW (Or.inl (Nat.le_of_ble_eq_true rfl)) sl_0 rfl rfl hl.1 rfl (Nat.le_of_ble_eq_true rfl) dL_passes_2 ⟨(Nat.le_of_ble_eq_true rfl), (Nat.le_of_ble_eq_true rfl)⟩) hW (fun E9 ce9 q9 z9 H locs h hW f1 f2 f3 => ?_) (fun r1 z2 H locs h hW => ?_)
  · by_cases kE0 : E9 = "java/lang/IndexOutOfBoundsException"
    · obtain ⟨h0, h1, h2⟩ := h.1 kE0
      subst kE0
      refine zl_catch htab [] [] rfl hown hts (fun z hz => nomatch hz) ⟨by decide, by decide⟩ (by decide) q_275 cast_IndexOutOfBoundsException hW f1 f2 f3 ?_
      refine lv_astore_n (lv' := [(2, .ref q9), (0, .ref (sw_ad g 0)), (1, .int a1)]) hx hb dL_passes_14 rfl hl (Nat.le_of_ble_eq_true rfl) rfl (fun ls hl => ?_)
      refine lv_bipush (v := -11) hx hb dL_passes_15 (by decide) ?_
      exact zl_ri hx hb hr hlocks hW rfl ⟨(zv_c (l := [(-11)]) h1 h0).symm, h2⟩ dL_passes_17
    · exact (h.2 kE0).elim
  · obtain ⟨h0, h1, h2⟩ := h
    refine lv_if_eq (tgt := 12) hx hb dL_passes_5 (by decide) (fun k => ?_) (fun k => ?_)
    · refine lv_iconst (v := 0) hx hb dL_passes_12 (by decide) ?_
      exact zl_ri hx hb hr hlocks hW rfl ⟨(k.symm.trans h1).trans (zv_0 h0).symm, h2⟩ dL_passes_13
    · refine lv_iconst (v := 1) hx hb dL_passes_8 (by decide) ?_
      refine lv_goto (tgt := 13) hx hb dL_passes_9 (by decide) ?_
      exact zl_ri hx hb hr hlocks hW rfl ⟨(z_bool (by rw [← h1]; exact k) (s_passes_1 z a1)).trans (zv_0 h0).symm, h2⟩ dL_passes_13

theorem ch_L_wasGranted : sw_cH yL_wasGranted cL_wasGranted 3 (some .int) [(0, 13, 14, 26)] 2 := ⟨q_601, q_1, q_1192, by decide +kernel⟩
set_option maxRecDepth 20000 in
theorem kL_wasGranted (l : Launch) (hst : l.stackTraces = false) (g : sG) (z : zG) (a1 : Int32) : Met l yL_wasGranted (sw_wsH yL_wasGranted cL_wasGranted 3 (some .int) [(0, 13, 14, 26)]) { frames := 8, cells := 1, slots := 6, locals := 137 } (va_Pc [.ref (sw_ad g 0), .int a1] (zl_Pr g z)) (va_Qi (fun r z' => r = zv (s_wasGranted z a1) [(-11)] ∧ z' = (s_wasGranted z a1).2.2) (zl_Po g) (sw_A g)) 1 6 (sw_A g) := by
  refine zl_metH (by decide) (Nat.le_of_ble_eq_true rfl) ?_
  intro p e s m args below meth c ls hx hb hr hts hown hml hlocks htab hW hl
  have hown : s.vm.findClass RL = some m.cls := hown
  have hl : lv_has ls 3 [(0, .ref (sw_ad g 0)), (1, .int a1)] := hl
  refine lv_aload_n hx hb dL_wasGranted_0 rfl (lv_at hl 0 rfl) ?_
  refine lv_iload_n hx hb dL_wasGranted_1 rfl (lv_at hl 1 rfl) ?_
  refine zl_xki (g := g) (rest := []) (zl_xrunV (g := g) (As := [.int a1]) (rest := []) hx hb hml hown hts (zX_wasGranted l hst (zl_re g s.heap.size) z a1) cv_X6_wasGranted q_565 rfl rfl ⟨(Nat.le_of_ble_eq_true rfl), (Nat.le_of_ble_eq_true rfl)⟩ hW (Or.inl (Nat.le_of_ble_eq_true rfl)) sl_0 rfl rfl hl.1 rfl (Nat.le_of_ble_eq_true rfl) dL_wasGranted_2 ⟨(Nat.le_of_ble_eq_true rfl), (Nat.le_of_ble_eq_true rfl)⟩) hW (fun E9 ce9 q9 z9 H locs h hW f1 f2 f3 => ?_) (fun r1 z2 H locs h hW => ?_)
  · by_cases kE0 : E9 = "java/lang/IndexOutOfBoundsException"
    · obtain ⟨h0, h1, h2⟩ := h.1 kE0
      subst kE0
      refine zl_catch htab [] [] rfl hown hts (fun z hz => nomatch hz) ⟨by decide, by decide⟩ (by decide) q_275 cast_IndexOutOfBoundsException hW f1 f2 f3 ?_
      refine lv_astore_n (lv' := [(2, .ref q9), (0, .ref (sw_ad g 0)), (1, .int a1)]) hx hb dL_wasGranted_14 rfl hl (Nat.le_of_ble_eq_true rfl) rfl (fun ls hl => ?_)
      refine lv_bipush (v := -11) hx hb dL_wasGranted_15 (by decide) ?_
      exact zl_ri hx hb hr hlocks hW rfl ⟨(zv_c (l := [(-11)]) h1 h0).symm, h2⟩ dL_wasGranted_17
    · exact (h.2 kE0).elim
  · obtain ⟨h0, h1, h2⟩ := h
    refine lv_if_eq (tgt := 12) hx hb dL_wasGranted_5 (by decide) (fun k => ?_) (fun k => ?_)
    · refine lv_iconst (v := 0) hx hb dL_wasGranted_12 (by decide) ?_
      exact zl_ri hx hb hr hlocks hW rfl ⟨(k.symm.trans h1).trans (zv_0 h0).symm, h2⟩ dL_wasGranted_13
    · refine lv_iconst (v := 1) hx hb dL_wasGranted_8 (by decide) ?_
      refine lv_goto (tgt := 13) hx hb dL_wasGranted_9 (by decide) ?_
      exact zl_ri hx hb hr hlocks hW rfl ⟨(z_bool (by rw [← h1]; exact k) (s_wasGranted_1 z a1)).trans (zv_0 h0).symm, h2⟩ dL_wasGranted_13

theorem ch_L_isEntitled : sw_cH yL_isEntitled cL_isEntitled 3 (some .int) [(0, 13, 14, 26)] 2 := ⟨q_559, q_1, q_1188, by decide +kernel⟩
set_option maxRecDepth 20000 in
theorem kL_isEntitled (l : Launch) (hst : l.stackTraces = false) (g : sG) (z : zG) (a1 : Int32) : Met l yL_isEntitled (sw_wsH yL_isEntitled cL_isEntitled 3 (some .int) [(0, 13, 14, 26)]) { frames := 8, cells := 1, slots := 6, locals := 137 } (va_Pc [.ref (sw_ad g 0), .int a1] (zl_Pr g z)) (va_Qi (fun r z' => r = zv (s_isEntitled z a1) [(-11)] ∧ z' = (s_isEntitled z a1).2.2) (zl_Po g) (sw_A g)) 1 6 (sw_A g) := by
  refine zl_metH (by decide) (Nat.le_of_ble_eq_true rfl) ?_
  intro p e s m args below meth c ls hx hb hr hts hown hml hlocks htab hW hl
  have hown : s.vm.findClass RL = some m.cls := hown
  have hl : lv_has ls 3 [(0, .ref (sw_ad g 0)), (1, .int a1)] := hl
  refine lv_aload_n hx hb dL_isEntitled_0 rfl (lv_at hl 0 rfl) ?_
  refine lv_iload_n hx hb dL_isEntitled_1 rfl (lv_at hl 1 rfl) ?_
  refine zl_xki (g := g) (rest := []) (zl_xrunV (g := g) (As := [.int a1]) (rest := []) hx hb hml hown hts (zX_isEntitled l hst (zl_re g s.heap.size) z a1) cv_X6_isEntitled q_560 rfl rfl ⟨(Nat.le_of_ble_eq_true rfl), (Nat.le_of_ble_eq_true rfl)⟩ hW (Or.inl (Nat.le_of_ble_eq_true rfl)) sl_0 rfl rfl hl.1 rfl (Nat.le_of_ble_eq_true rfl) dL_isEntitled_2 ⟨(Nat.le_of_ble_eq_true rfl), (Nat.le_of_ble_eq_true rfl)⟩) hW (fun E9 ce9 q9 z9 H locs h hW f1 f2 f3 => ?_) (fun r1 z2 H locs h hW => ?_)
  · by_cases kE0 : E9 = "java/lang/IndexOutOfBoundsException"
    · obtain ⟨h0, h1, h2⟩ := h.1 kE0
      subst kE0
      refine zl_catch htab [] [] rfl hown hts (fun z hz => nomatch hz) ⟨by decide, by decide⟩ (by decide) q_275 cast_IndexOutOfBoundsException hW f1 f2 f3 ?_
      refine lv_astore_n (lv' := [(2, .ref q9), (0, .ref (sw_ad g 0)), (1, .int a1)]) hx hb dL_isEntitled_14 rfl hl (Nat.le_of_ble_eq_true rfl) rfl (fun ls hl => ?_)
      refine lv_bipush (v := -11) hx hb dL_isEntitled_15 (by decide) ?_
      exact zl_ri hx hb hr hlocks hW rfl ⟨(zv_c (l := [(-11)]) h1 h0).symm, h2⟩ dL_isEntitled_17
    · exact (h.2 kE0).elim
  · obtain ⟨h0, h1, h2⟩ := h
    refine lv_if_eq (tgt := 12) hx hb dL_isEntitled_5 (by decide) (fun k => ?_) (fun k => ?_)
    · refine lv_iconst (v := 0) hx hb dL_isEntitled_12 (by decide) ?_
      exact zl_ri hx hb hr hlocks hW rfl ⟨(k.symm.trans h1).trans (zv_0 h0).symm, h2⟩ dL_isEntitled_13
    · refine lv_iconst (v := 1) hx hb dL_isEntitled_8 (by decide) ?_
      refine lv_goto (tgt := 13) hx hb dL_isEntitled_9 (by decide) ?_
      exact zl_ri hx hb hr hlocks hW rfl ⟨(z_bool (by rw [← h1]; exact k) (s_isEntitled_1 z a1)).trans (zv_0 h0).symm, h2⟩ dL_isEntitled_13

theorem ch_L_doorAtRank : sw_cH yL_doorAtRank cL_doorAtRank 3 (some .int) [(0, 5, 6, 50)] 2 := ⟨q_571, q_1, q_1189, by decide +kernel⟩
set_option maxRecDepth 20000 in
theorem kL_doorAtRank (l : Launch) (hst : l.stackTraces = false) (g : sG) (z : zG) (a1 : Int32) : Met l yL_doorAtRank (sw_wsH yL_doorAtRank cL_doorAtRank 3 (some .int) [(0, 5, 6, 50)]) { frames := 8, cells := 1, slots := 6, locals := 142 } (va_Pc [.ref (sw_ad g 0), .int a1] (zl_Pr g z)) (va_Qi (fun r z' => r = zv (s_doorAtRank z a1) [(-13)] ∧ z' = (s_doorAtRank z a1).2.2) (zl_Po g) (sw_A g)) 1 6 (sw_A g) := by
  refine zl_metH (by decide) (Nat.le_of_ble_eq_true rfl) ?_
  intro p e s m args below meth c ls hx hb hr hts hown hml hlocks htab hW hl
  have hown : s.vm.findClass RL = some m.cls := hown
  have hl : lv_has ls 3 [(0, .ref (sw_ad g 0)), (1, .int a1)] := hl
  refine lv_aload_n hx hb dL_doorAtRank_0 rfl (lv_at hl 0 rfl) ?_
  refine lv_iload_n hx hb dL_doorAtRank_1 rfl (lv_at hl 1 rfl) ?_
  refine zl_xki (g := g) (rest := []) (zl_xrunV (g := g) (As := [.int a1]) (rest := []) hx hb hml hown hts (zX_doorAtRank l hst (zl_re g s.heap.size) z a1) cv_X6_doorAtRank q_572 rfl rfl ⟨(Nat.le_of_ble_eq_true rfl), (Nat.le_of_ble_eq_true rfl)⟩ hW (Or.inl (Nat.le_of_ble_eq_true rfl)) sl_0 rfl rfl hl.1 rfl (Nat.le_of_ble_eq_true rfl) dL_doorAtRank_2 ⟨(Nat.le_of_ble_eq_true rfl), (Nat.le_of_ble_eq_true rfl)⟩) hW (fun E9 ce9 q9 z9 H locs h hW f1 f2 f3 => ?_) (fun r1 z2 H locs h hW => ?_)
  · by_cases kE0 : E9 = "java/util/NoSuchElementException"
    · obtain ⟨h0, h1, h2⟩ := h.1 kE0
      subst kE0
      refine zl_catch htab [] [] rfl hown hts (fun z hz => nomatch hz) ⟨by decide, by decide⟩ (by decide) q_515 cast_NoSuchElementException hW f1 f2 f3 ?_
      refine lv_astore_n (lv' := [(2, .ref q9), (0, .ref (sw_ad g 0)), (1, .int a1)]) hx hb dL_doorAtRank_6 rfl hl (Nat.le_of_ble_eq_true rfl) rfl (fun ls hl => ?_)
      refine lv_bipush (v := -13) hx hb dL_doorAtRank_7 (by decide) ?_
      exact zl_ri hx hb hr hlocks hW rfl ⟨(zv_c (l := [(-13)]) h1 h0).symm, h2⟩ dL_doorAtRank_9
    · exact (h.2 kE0).elim
  · obtain ⟨h0, h1, h2⟩ := h
    exact zl_ri hx hb hr hlocks hW rfl ⟨h1.trans (zv_0 h0).symm, h2⟩ dL_doorAtRank_5

theorem ch_L_frameOfExaminer : sw_cH yL_frameOfExaminer cL_frameOfExaminer 3 (some .int) [(0, 5, 6, 26)] 2 := ⟨q_612, q_1, q_1194, by decide +kernel⟩
set_option maxRecDepth 20000 in
theorem kL_frameOfExaminer (l : Launch) (hst : l.stackTraces = false) (g : sG) (z : zG) (a1 : Int32) : Met l yL_frameOfExaminer (sw_wsH yL_frameOfExaminer cL_frameOfExaminer 3 (some .int) [(0, 5, 6, 26)]) { frames := 8, cells := 1, slots := 6, locals := 137 } (va_Pc [.ref (sw_ad g 0), .int a1] (zl_Pr g z)) (va_Qi (fun r z' => r = zv (s_frameOfExaminer z a1) [(-11)] ∧ z' = (s_frameOfExaminer z a1).2.2) (zl_Po g) (sw_A g)) 1 6 (sw_A g) := by
  refine zl_metH (by decide) (Nat.le_of_ble_eq_true rfl) ?_
  intro p e s m args below meth c ls hx hb hr hts hown hml hlocks htab hW hl
  have hown : s.vm.findClass RL = some m.cls := hown
  have hl : lv_has ls 3 [(0, .ref (sw_ad g 0)), (1, .int a1)] := hl
  refine lv_aload_n hx hb dL_frameOfExaminer_0 rfl (lv_at hl 0 rfl) ?_
  refine lv_iload_n hx hb dL_frameOfExaminer_1 rfl (lv_at hl 1 rfl) ?_
  refine zl_xki (g := g) (rest := []) (zl_xrunV (g := g) (As := [.int a1]) (rest := []) hx hb hml hown hts (zX_frameOfExaminer l hst (zl_re g s.heap.size) z a1) cv_X6_frameOfExaminer q_613 rfl rfl ⟨(Nat.le_of_ble_eq_true rfl), (Nat.le_of_ble_eq_true rfl)⟩ hW (Or.inl (Nat.le_of_ble_eq_true rfl)) sl_0 rfl rfl hl.1 rfl (Nat.le_of_ble_eq_true rfl) dL_frameOfExaminer_2 ⟨(Nat.le_of_ble_eq_true rfl), (Nat.le_of_ble_eq_true rfl)⟩) hW (fun E9 ce9 q9 z9 H locs h hW f1 f2 f3 => ?_) (fun r1 z2 H locs h hW => ?_)
  · by_cases kE0 : E9 = "java/lang/IndexOutOfBoundsException"
    · obtain ⟨h0, h1, h2⟩ := h.1 kE0
      subst kE0
      refine zl_catch htab [] [] rfl hown hts (fun z hz => nomatch hz) ⟨by decide, by decide⟩ (by decide) q_275 cast_IndexOutOfBoundsException hW f1 f2 f3 ?_
      refine lv_astore_n (lv' := [(2, .ref q9), (0, .ref (sw_ad g 0)), (1, .int a1)]) hx hb dL_frameOfExaminer_6 rfl hl (Nat.le_of_ble_eq_true rfl) rfl (fun ls hl => ?_)
      refine lv_bipush (v := -11) hx hb dL_frameOfExaminer_7 (by decide) ?_
      exact zl_ri hx hb hr hlocks hW rfl ⟨(zv_c (l := [(-11)]) h1 h0).symm, h2⟩ dL_frameOfExaminer_9
    · exact (h.2 kE0).elim
  · obtain ⟨h0, h1, h2⟩ := h
    exact zl_ri hx hb hr hlocks hW rfl ⟨h1.trans (zv_0 h0).symm, h2⟩ dL_frameOfExaminer_5

theorem ch_L_load : sw_cH yL_load cL_load 3 (some .int) [(0, 5, 6, 26)] 2 := ⟨q_632, q_1, q_1197, by decide +kernel⟩
set_option maxRecDepth 20000 in
theorem kL_load (l : Launch) (hst : l.stackTraces = false) (g : sG) (z : zG) (a1 : Int32) : Met l yL_load (sw_wsH yL_load cL_load 3 (some .int) [(0, 5, 6, 26)]) { frames := 8, cells := 1, slots := 6, locals := 137 } (va_Pc [.ref (sw_ad g 0), .int a1] (zl_Pr g z)) (va_Qi (fun r z' => r = zv (s_load z a1) [(-11)] ∧ z' = (s_load z a1).2.2) (zl_Po g) (sw_A g)) 1 6 (sw_A g) := by
  refine zl_metH (by decide) (Nat.le_of_ble_eq_true rfl) ?_
  intro p e s m args below meth c ls hx hb hr hts hown hml hlocks htab hW hl
  have hown : s.vm.findClass RL = some m.cls := hown
  have hl : lv_has ls 3 [(0, .ref (sw_ad g 0)), (1, .int a1)] := hl
  refine lv_aload_n hx hb dL_load_0 rfl (lv_at hl 0 rfl) ?_
  refine lv_iload_n hx hb dL_load_1 rfl (lv_at hl 1 rfl) ?_
  refine zl_xki (g := g) (rest := []) (zl_xrunV (g := g) (As := [.int a1]) (rest := []) hx hb hml hown hts (zX_load l hst (zl_re g s.heap.size) z a1) cv_X6_load q_633 rfl rfl ⟨(Nat.le_of_ble_eq_true rfl), (Nat.le_of_ble_eq_true rfl)⟩ hW (Or.inl (Nat.le_of_ble_eq_true rfl)) sl_0 rfl rfl hl.1 rfl (Nat.le_of_ble_eq_true rfl) dL_load_2 ⟨(Nat.le_of_ble_eq_true rfl), (Nat.le_of_ble_eq_true rfl)⟩) hW (fun E9 ce9 q9 z9 H locs h hW f1 f2 f3 => ?_) (fun r1 z2 H locs h hW => ?_)
  · by_cases kE0 : E9 = "java/lang/IndexOutOfBoundsException"
    · obtain ⟨h0, h1, h2⟩ := h.1 kE0
      subst kE0
      refine zl_catch htab [] [] rfl hown hts (fun z hz => nomatch hz) ⟨by decide, by decide⟩ (by decide) q_275 cast_IndexOutOfBoundsException hW f1 f2 f3 ?_
      refine lv_astore_n (lv' := [(2, .ref q9), (0, .ref (sw_ad g 0)), (1, .int a1)]) hx hb dL_load_6 rfl hl (Nat.le_of_ble_eq_true rfl) rfl (fun ls hl => ?_)
      refine lv_bipush (v := -11) hx hb dL_load_7 (by decide) ?_
      exact zl_ri hx hb hr hlocks hW rfl ⟨(zv_c (l := [(-11)]) h1 h0).symm, h2⟩ dL_load_9
    · exact (h.2 kE0).elim
  · obtain ⟨h0, h1, h2⟩ := h
    exact zl_ri hx hb hr hlocks hW rfl ⟨h1.trans (zv_0 h0).symm, h2⟩ dL_load_5

theorem ch_L_isNeutral : sw_cH yL_isNeutral cL_isNeutral 4 (some .int) [(0, 14, 15, 26)] 3 := ⟨q_618, q_1, q_1195, by decide +kernel⟩
set_option maxRecDepth 20000 in
theorem kL_isNeutral (l : Launch) (hst : l.stackTraces = false) (g : sG) (z : zG) (a1 : Int32) (a2 : Int32) : Met l yL_isNeutral (sw_wsH yL_isNeutral cL_isNeutral 4 (some .int) [(0, 14, 15, 26)]) { frames := 9, cells := 2, slots := 12, locals := 160 } (va_Pc [.ref (sw_ad g 0), .int a1, .int a2] (zl_Pr g z)) (va_Qi (fun r z' => r = zv (s_isNeutral z a1 a2) [(-11)] ∧ z' = (s_isNeutral z a1 a2).2.2) (zl_Po g) (sw_A g)) 2 12 (sw_A g) := by
  refine zl_metH (by decide) (Nat.le_of_ble_eq_true rfl) ?_
  intro p e s m args below meth c ls hx hb hr hts hown hml hlocks htab hW hl
  have hown : s.vm.findClass RL = some m.cls := hown
  have hl : lv_has ls 4 [(0, .ref (sw_ad g 0)), (1, .int a1), (2, .int a2)] := hl
  refine lv_aload_n hx hb dL_isNeutral_0 rfl (lv_at hl 0 rfl) ?_
  refine lv_iload_n hx hb dL_isNeutral_1 rfl (lv_at hl 1 rfl) ?_
  refine lv_iload_n hx hb dL_isNeutral_2 rfl (lv_at hl 2 rfl) ?_
  refine zl_xki (g := g) (rest := []) (zl_xrunV (g := g) (As := [.int a1, .int a2]) (rest := []) hx hb hml hown hts (zX_isNeutral l hst (zl_re g s.heap.size) z a1 a2) cv_X6_isNeutral q_619 rfl rfl ⟨(Nat.le_of_ble_eq_true rfl), (Nat.le_of_ble_eq_true rfl)⟩ hW (Or.inl (Nat.le_of_ble_eq_true rfl)) sl_0 rfl rfl hl.1 rfl (Nat.le_of_ble_eq_true rfl) dL_isNeutral_3 ⟨(Nat.le_of_ble_eq_true rfl), (Nat.le_of_ble_eq_true rfl)⟩) hW (fun E9 ce9 q9 z9 H locs h hW f1 f2 f3 => ?_) (fun r1 z2 H locs h hW => ?_)
  · by_cases kE0 : E9 = "java/lang/IndexOutOfBoundsException"
    · obtain ⟨h0, h1, h2⟩ := h.1 kE0
      subst kE0
      refine zl_catch htab [] [] rfl hown hts (fun z hz => nomatch hz) ⟨by decide, by decide⟩ (by decide) q_275 cast_IndexOutOfBoundsException hW f1 f2 f3 ?_
      refine lv_astore_n (lv' := [(3, .ref q9), (0, .ref (sw_ad g 0)), (1, .int a1), (2, .int a2)]) hx hb dL_isNeutral_15 rfl hl (Nat.le_of_ble_eq_true rfl) rfl (fun ls hl => ?_)
      refine lv_bipush (v := -11) hx hb dL_isNeutral_16 (by decide) ?_
      exact zl_ri hx hb hr hlocks hW rfl ⟨(zv_c (l := [(-11)]) h1 h0).symm, h2⟩ dL_isNeutral_18
    · exact (h.2 kE0).elim
  · obtain ⟨h0, h1, h2⟩ := h
    refine lv_if_eq (tgt := 13) hx hb dL_isNeutral_6 (by decide) (fun k => ?_) (fun k => ?_)
    · refine lv_iconst (v := 0) hx hb dL_isNeutral_13 (by decide) ?_
      exact zl_ri hx hb hr hlocks hW rfl ⟨(k.symm.trans h1).trans (zv_0 h0).symm, h2⟩ dL_isNeutral_14
    · refine lv_iconst (v := 1) hx hb dL_isNeutral_9 (by decide) ?_
      refine lv_goto (tgt := 14) hx hb dL_isNeutral_10 (by decide) ?_
      exact zl_ri hx hb hr hlocks hW rfl ⟨(z_bool (by rw [← h1]; exact k) (s_isNeutral_1 z a1 a2)).trans (zv_0 h0).symm, h2⟩ dL_isNeutral_14

theorem ch_L_mayJudge : sw_cH yL_mayJudge cL_mayJudge 4 (some .int) [(0, 14, 15, 26)] 3 := ⟨q_625, q_1, q_1196, by decide +kernel⟩
set_option maxRecDepth 20000 in
theorem kL_mayJudge (l : Launch) (hst : l.stackTraces = false) (g : sG) (z : zG) (a1 : Int32) (a2 : Int32) : Met l yL_mayJudge (sw_wsH yL_mayJudge cL_mayJudge 4 (some .int) [(0, 14, 15, 26)]) { frames := 9, cells := 2, slots := 12, locals := 160 } (va_Pc [.ref (sw_ad g 0), .int a1, .int a2] (zl_Pr g z)) (va_Qi (fun r z' => r = zv (s_mayJudge z a1 a2) [(-11)] ∧ z' = (s_mayJudge z a1 a2).2.2) (zl_Po g) (sw_A g)) 2 12 (sw_A g) := by
  refine zl_metH (by decide) (Nat.le_of_ble_eq_true rfl) ?_
  intro p e s m args below meth c ls hx hb hr hts hown hml hlocks htab hW hl
  have hown : s.vm.findClass RL = some m.cls := hown
  have hl : lv_has ls 4 [(0, .ref (sw_ad g 0)), (1, .int a1), (2, .int a2)] := hl
  refine lv_aload_n hx hb dL_mayJudge_0 rfl (lv_at hl 0 rfl) ?_
  refine lv_iload_n hx hb dL_mayJudge_1 rfl (lv_at hl 1 rfl) ?_
  refine lv_iload_n hx hb dL_mayJudge_2 rfl (lv_at hl 2 rfl) ?_
  refine zl_xki (g := g) (rest := []) (zl_xrunV (g := g) (As := [.int a1, .int a2]) (rest := []) hx hb hml hown hts (zX_mayJudge l hst (zl_re g s.heap.size) z a1 a2) cv_X6_mayJudge q_626 rfl rfl ⟨(Nat.le_of_ble_eq_true rfl), (Nat.le_of_ble_eq_true rfl)⟩ hW (Or.inl (Nat.le_of_ble_eq_true rfl)) sl_0 rfl rfl hl.1 rfl (Nat.le_of_ble_eq_true rfl) dL_mayJudge_3 ⟨(Nat.le_of_ble_eq_true rfl), (Nat.le_of_ble_eq_true rfl)⟩) hW (fun E9 ce9 q9 z9 H locs h hW f1 f2 f3 => ?_) (fun r1 z2 H locs h hW => ?_)
  · by_cases kE0 : E9 = "java/lang/IndexOutOfBoundsException"
    · obtain ⟨h0, h1, h2⟩ := h.1 kE0
      subst kE0
      refine zl_catch htab [] [] rfl hown hts (fun z hz => nomatch hz) ⟨by decide, by decide⟩ (by decide) q_275 cast_IndexOutOfBoundsException hW f1 f2 f3 ?_
      refine lv_astore_n (lv' := [(3, .ref q9), (0, .ref (sw_ad g 0)), (1, .int a1), (2, .int a2)]) hx hb dL_mayJudge_15 rfl hl (Nat.le_of_ble_eq_true rfl) rfl (fun ls hl => ?_)
      refine lv_bipush (v := -11) hx hb dL_mayJudge_16 (by decide) ?_
      exact zl_ri hx hb hr hlocks hW rfl ⟨(zv_c (l := [(-11)]) h1 h0).symm, h2⟩ dL_mayJudge_18
    · exact (h.2 kE0).elim
  · obtain ⟨h0, h1, h2⟩ := h
    refine lv_if_eq (tgt := 13) hx hb dL_mayJudge_6 (by decide) (fun k => ?_) (fun k => ?_)
    · refine lv_iconst (v := 0) hx hb dL_mayJudge_13 (by decide) ?_
      exact zl_ri hx hb hr hlocks hW rfl ⟨(k.symm.trans h1).trans (zv_0 h0).symm, h2⟩ dL_mayJudge_14
    · refine lv_iconst (v := 1) hx hb dL_mayJudge_9 (by decide) ?_
      refine lv_goto (tgt := 14) hx hb dL_mayJudge_10 (by decide) ?_
      exact zl_ri hx hb hr hlocks hW rfl ⟨(z_bool (by rw [← h1]; exact k) (s_mayJudge_1 z a1 a2)).trans (zv_0 h0).symm, h2⟩ dL_mayJudge_14

theorem ch_L_isAssigned : sw_cH yL_isAssigned cL_isAssigned 4 (some .int) [(0, 14, 15, 26)] 3 := ⟨q_496, q_1, q_1182, by decide +kernel⟩
set_option maxRecDepth 20000 in
theorem kL_isAssigned (l : Launch) (hst : l.stackTraces = false) (g : sG) (z : zG) (a1 : Int32) (a2 : Int32) : Met l yL_isAssigned (sw_wsH yL_isAssigned cL_isAssigned 4 (some .int) [(0, 14, 15, 26)]) { frames := 9, cells := 2, slots := 12, locals := 160 } (va_Pc [.ref (sw_ad g 0), .int a1, .int a2] (zl_Pr g z)) (va_Qi (fun r z' => r = zv (s_isAssigned z a1 a2) [(-11)] ∧ z' = (s_isAssigned z a1 a2).2.2) (zl_Po g) (sw_A g)) 2 12 (sw_A g) := by
  refine zl_metH (by decide) (Nat.le_of_ble_eq_true rfl) ?_
  intro p e s m args below meth c ls hx hb hr hts hown hml hlocks htab hW hl
  have hown : s.vm.findClass RL = some m.cls := hown
  have hl : lv_has ls 4 [(0, .ref (sw_ad g 0)), (1, .int a1), (2, .int a2)] := hl
  refine lv_aload_n hx hb dL_isAssigned_0 rfl (lv_at hl 0 rfl) ?_
  refine lv_iload_n hx hb dL_isAssigned_1 rfl (lv_at hl 1 rfl) ?_
  refine lv_iload_n hx hb dL_isAssigned_2 rfl (lv_at hl 2 rfl) ?_
  refine zl_xki (g := g) (rest := []) (zl_xrunV (g := g) (As := [.int a1, .int a2]) (rest := []) hx hb hml hown hts (zX_isAssigned l hst (zl_re g s.heap.size) z a1 a2) cv_X6_isAssigned q_497 rfl rfl ⟨(Nat.le_of_ble_eq_true rfl), (Nat.le_of_ble_eq_true rfl)⟩ hW (Or.inl (Nat.le_of_ble_eq_true rfl)) sl_0 rfl rfl hl.1 rfl (Nat.le_of_ble_eq_true rfl) dL_isAssigned_3 ⟨(Nat.le_of_ble_eq_true rfl), (Nat.le_of_ble_eq_true rfl)⟩) hW (fun E9 ce9 q9 z9 H locs h hW f1 f2 f3 => ?_) (fun r1 z2 H locs h hW => ?_)
  · by_cases kE0 : E9 = "java/lang/IndexOutOfBoundsException"
    · obtain ⟨h0, h1, h2⟩ := h.1 kE0
      subst kE0
      refine zl_catch htab [] [] rfl hown hts (fun z hz => nomatch hz) ⟨by decide, by decide⟩ (by decide) q_275 cast_IndexOutOfBoundsException hW f1 f2 f3 ?_
      refine lv_astore_n (lv' := [(3, .ref q9), (0, .ref (sw_ad g 0)), (1, .int a1), (2, .int a2)]) hx hb dL_isAssigned_15 rfl hl (Nat.le_of_ble_eq_true rfl) rfl (fun ls hl => ?_)
      refine lv_bipush (v := -11) hx hb dL_isAssigned_16 (by decide) ?_
      exact zl_ri hx hb hr hlocks hW rfl ⟨(zv_c (l := [(-11)]) h1 h0).symm, h2⟩ dL_isAssigned_18
    · exact (h.2 kE0).elim
  · obtain ⟨h0, h1, h2⟩ := h
    refine lv_if_eq (tgt := 13) hx hb dL_isAssigned_6 (by decide) (fun k => ?_) (fun k => ?_)
    · refine lv_iconst (v := 0) hx hb dL_isAssigned_13 (by decide) ?_
      exact zl_ri hx hb hr hlocks hW rfl ⟨(k.symm.trans h1).trans (zv_0 h0).symm, h2⟩ dL_isAssigned_14
    · refine lv_iconst (v := 1) hx hb dL_isAssigned_9 (by decide) ?_
      refine lv_goto (tgt := 14) hx hb dL_isAssigned_10 (by decide) ?_
      exact zl_ri hx hb hr hlocks hW rfl ⟨(z_bool (by rw [← h1]; exact k) (s_isAssigned_1 z a1 a2)).trans (zv_0 h0).symm, h2⟩ dL_isAssigned_14

theorem ch_L_gradeBy : sw_cH yL_gradeBy cL_gradeBy 4 (some .int) [(0, 6, 7, 26), (0, 6, 11, 50)] 3 := ⟨q_514, q_1, q_1183, by decide +kernel⟩
set_option maxRecDepth 20000 in
theorem kL_gradeBy (l : Launch) (hst : l.stackTraces = false) (g : sG) (z : zG) (a1 : Int32) (a2 : Int32) : Met l yL_gradeBy (sw_wsH yL_gradeBy cL_gradeBy 4 (some .int) [(0, 6, 7, 26), (0, 6, 11, 50)]) { frames := 9, cells := 3, slots := 18, locals := 160 } (va_Pc [.ref (sw_ad g 0), .int a1, .int a2] (zl_Pr g z)) (va_Qi (fun r z' => r = zv (s_gradeBy z a1 a2) [(-11), (-13)] ∧ z' = (s_gradeBy z a1 a2).2.2) (zl_Po g) (sw_A g)) 3 18 (sw_A g) := by
  refine zl_metH (by decide) (Nat.le_of_ble_eq_true rfl) ?_
  intro p e s m args below meth c ls hx hb hr hts hown hml hlocks htab hW hl
  have hown : s.vm.findClass RL = some m.cls := hown
  have hl : lv_has ls 4 [(0, .ref (sw_ad g 0)), (1, .int a1), (2, .int a2)] := hl
  refine lv_aload_n hx hb dL_gradeBy_0 rfl (lv_at hl 0 rfl) ?_
  refine lv_iload_n hx hb dL_gradeBy_1 rfl (lv_at hl 1 rfl) ?_
  refine lv_iload_n hx hb dL_gradeBy_2 rfl (lv_at hl 2 rfl) ?_
  refine zl_xki (g := g) (rest := []) (zl_xrunV (g := g) (As := [.int a1, .int a2]) (rest := []) hx hb hml hown hts (zX_gradeBy l hst (zl_re g s.heap.size) z a1 a2) cv_X6_gradeBy q_516 rfl rfl ⟨(Nat.le_of_ble_eq_true rfl), (Nat.le_of_ble_eq_true rfl)⟩ hW (Or.inl (Nat.le_of_ble_eq_true rfl)) sl_0 rfl rfl hl.1 rfl (Nat.le_of_ble_eq_true rfl) dL_gradeBy_3 ⟨(Nat.le_of_ble_eq_true rfl), (Nat.le_of_ble_eq_true rfl)⟩) hW (fun E9 ce9 q9 z9 H locs h hW f1 f2 f3 => ?_) (fun r1 z2 H locs h hW => ?_)
  · by_cases kE0 : E9 = "java/lang/IndexOutOfBoundsException"
    · obtain ⟨h0, h1, h2⟩ := h.1 kE0
      subst kE0
      refine zl_catch htab [] [(0, 6, 11, 50)] rfl hown hts (fun z hz => nomatch hz) ⟨by decide, by decide⟩ (by decide) q_275 cast_IndexOutOfBoundsException hW f1 f2 f3 ?_
      refine lv_astore_n (lv' := [(3, .ref q9), (0, .ref (sw_ad g 0)), (1, .int a1), (2, .int a2)]) hx hb dL_gradeBy_7 rfl hl (Nat.le_of_ble_eq_true rfl) rfl (fun ls hl => ?_)
      refine lv_bipush (v := -11) hx hb dL_gradeBy_8 (by decide) ?_
      exact zl_ri hx hb hr hlocks hW rfl ⟨(zv_c (l := [(-11), (-13)]) h1 h0).symm, h2⟩ dL_gradeBy_10
    · replace h := h.2 kE0
      by_cases kE1 : E9 = "java/util/NoSuchElementException"
      · obtain ⟨h0, h1, h2⟩ := h.1 kE1
        subst kE1
        refine zl_catch htab [(0, 6, 7, 26)] [] rfl hown hts (fun z hz => by
          simp only [List.mem_cons, List.not_mem_nil, or_false] at hz
          rcases hz with rfl
          · exact ⟨by decide, "java/lang/IndexOutOfBoundsException", q_275, hW.2.2.2.2.2.2.2.2.1.2.2.1 ("java/util/NoSuchElementException", "java/lang/IndexOutOfBoundsException") (by decide)⟩) ⟨by decide, by decide⟩ (by decide) q_515 cast_NoSuchElementException hW f1 f2 f3 ?_
        refine lv_astore_n (lv' := [(3, .ref q9), (0, .ref (sw_ad g 0)), (1, .int a1), (2, .int a2)]) hx hb dL_gradeBy_11 rfl hl (Nat.le_of_ble_eq_true rfl) rfl (fun ls hl => ?_)
        refine lv_bipush (v := -13) hx hb dL_gradeBy_12 (by decide) ?_
        exact zl_ri hx hb hr hlocks hW rfl ⟨(zv_c (l := [(-11), (-13)]) h1 h0).symm, h2⟩ dL_gradeBy_14
      · exact (h.2 kE1).elim
  · obtain ⟨h0, h1, h2⟩ := h
    exact zl_ri hx hb hr hlocks hW rfl ⟨h1.trans (zv_0 h0).symm, h2⟩ dL_gradeBy_6

theorem ch_L_planned : sw_cH yL_planned cL_planned 3 (some .int) [(0, 5, 6, 26), (0, 5, 10, 50)] 2 := ⟨q_606, q_1, q_1193, by decide +kernel⟩
set_option maxRecDepth 20000 in
theorem kL_planned (l : Launch) (hst : l.stackTraces = false) (g : sG) (z : zG) (a1 : Int32) : Met l yL_planned (sw_wsH yL_planned cL_planned 3 (some .int) [(0, 5, 6, 26), (0, 5, 10, 50)]) { frames := 8, cells := 2, slots := 12, locals := 142 } (va_Pc [.ref (sw_ad g 0), .int a1] (zl_Pr g z)) (va_Qi (fun r z' => r = zv (s_planned z a1) [(-11), (-13)] ∧ z' = (s_planned z a1).2.2) (zl_Po g) (sw_A g)) 2 12 (sw_A g) := by
  refine zl_metH (by decide) (Nat.le_of_ble_eq_true rfl) ?_
  intro p e s m args below meth c ls hx hb hr hts hown hml hlocks htab hW hl
  have hown : s.vm.findClass RL = some m.cls := hown
  have hl : lv_has ls 3 [(0, .ref (sw_ad g 0)), (1, .int a1)] := hl
  refine lv_aload_n hx hb dL_planned_0 rfl (lv_at hl 0 rfl) ?_
  refine lv_iload_n hx hb dL_planned_1 rfl (lv_at hl 1 rfl) ?_
  refine zl_xki (g := g) (rest := []) (zl_xrunV (g := g) (As := [.int a1]) (rest := []) hx hb hml hown hts (zX_plannedExaminer l hst (zl_re g s.heap.size) z a1) cv_X6_plannedExaminer q_607 rfl rfl ⟨(Nat.le_of_ble_eq_true rfl), (Nat.le_of_ble_eq_true rfl)⟩ hW (Or.inl (Nat.le_of_ble_eq_true rfl)) sl_0 rfl rfl hl.1 rfl (Nat.le_of_ble_eq_true rfl) dL_planned_2 ⟨(Nat.le_of_ble_eq_true rfl), (Nat.le_of_ble_eq_true rfl)⟩) hW (fun E9 ce9 q9 z9 H locs h hW f1 f2 f3 => ?_) (fun r1 z2 H locs h hW => ?_)
  · by_cases kE0 : E9 = "java/lang/IndexOutOfBoundsException"
    · obtain ⟨h0, h1, h2⟩ := h.1 kE0
      subst kE0
      refine zl_catch htab [] [(0, 5, 10, 50)] rfl hown hts (fun z hz => nomatch hz) ⟨by decide, by decide⟩ (by decide) q_275 cast_IndexOutOfBoundsException hW f1 f2 f3 ?_
      refine lv_astore_n (lv' := [(2, .ref q9), (0, .ref (sw_ad g 0)), (1, .int a1)]) hx hb dL_planned_6 rfl hl (Nat.le_of_ble_eq_true rfl) rfl (fun ls hl => ?_)
      refine lv_bipush (v := -11) hx hb dL_planned_7 (by decide) ?_
      exact zl_ri hx hb hr hlocks hW rfl ⟨(zv_c (l := [(-11), (-13)]) h1 h0).symm, h2⟩ dL_planned_9
    · replace h := h.2 kE0
      by_cases kE1 : E9 = "java/util/NoSuchElementException"
      · obtain ⟨h0, h1, h2⟩ := h.1 kE1
        subst kE1
        refine zl_catch htab [(0, 5, 6, 26)] [] rfl hown hts (fun z hz => by
          simp only [List.mem_cons, List.not_mem_nil, or_false] at hz
          rcases hz with rfl
          · exact ⟨by decide, "java/lang/IndexOutOfBoundsException", q_275, hW.2.2.2.2.2.2.2.2.1.2.2.1 ("java/util/NoSuchElementException", "java/lang/IndexOutOfBoundsException") (by decide)⟩) ⟨by decide, by decide⟩ (by decide) q_515 cast_NoSuchElementException hW f1 f2 f3 ?_
        refine lv_astore_n (lv' := [(2, .ref q9), (0, .ref (sw_ad g 0)), (1, .int a1)]) hx hb dL_planned_10 rfl hl (Nat.le_of_ble_eq_true rfl) rfl (fun ls hl => ?_)
        refine lv_bipush (v := -13) hx hb dL_planned_11 (by decide) ?_
        exact zl_ri hx hb hr hlocks hW rfl ⟨(zv_c (l := [(-11), (-13)]) h1 h0).symm, h2⟩ dL_planned_13
      · exact (h.2 kE1).elim
  · obtain ⟨h0, h1, h2⟩ := h
    exact zl_ri hx hb hr hlocks hW rfl ⟨h1.trans (zv_0 h0).symm, h2⟩ dL_planned_5

theorem ch_L_panels : sw_cH yL_panels cL_panels 3 (some .int) [(0, 5, 6, 26)] 2 := ⟨q_680, q_1, q_1199, by decide +kernel⟩
set_option maxRecDepth 20000 in
theorem kL_panels (l : Launch) (hst : l.stackTraces = false) (g : sG) (z : zG) (a1 : Int32) : Met l yL_panels (sw_wsH yL_panels cL_panels 3 (some .int) [(0, 5, 6, 26)]) { frames := 8, cells := 1, slots := 6, locals := 137 } (va_Pc [.ref (sw_ad g 0), .int a1] (zl_Pr g z)) (va_Qi (fun r z' => r = zv (s_panelCount z a1) [(-11)] ∧ z' = (s_panelCount z a1).2.2) (zl_Po g) (sw_A g)) 1 6 (sw_A g) := by
  refine zl_metH (by decide) (Nat.le_of_ble_eq_true rfl) ?_
  intro p e s m args below meth c ls hx hb hr hts hown hml hlocks htab hW hl
  have hown : s.vm.findClass RL = some m.cls := hown
  have hl : lv_has ls 3 [(0, .ref (sw_ad g 0)), (1, .int a1)] := hl
  refine lv_aload_n hx hb dL_panels_0 rfl (lv_at hl 0 rfl) ?_
  refine lv_iload_n hx hb dL_panels_1 rfl (lv_at hl 1 rfl) ?_
  refine zl_xki (g := g) (rest := []) (zl_xrunV (g := g) (As := [.int a1]) (rest := []) hx hb hml hown hts (zX_panelCount l hst (zl_re g s.heap.size) z a1) cv_X6_panelCount q_681 rfl rfl ⟨(Nat.le_of_ble_eq_true rfl), (Nat.le_of_ble_eq_true rfl)⟩ hW (Or.inl (Nat.le_of_ble_eq_true rfl)) sl_0 rfl rfl hl.1 rfl (Nat.le_of_ble_eq_true rfl) dL_panels_2 ⟨(Nat.le_of_ble_eq_true rfl), (Nat.le_of_ble_eq_true rfl)⟩) hW (fun E9 ce9 q9 z9 H locs h hW f1 f2 f3 => ?_) (fun r1 z2 H locs h hW => ?_)
  · by_cases kE0 : E9 = "java/lang/IndexOutOfBoundsException"
    · obtain ⟨h0, h1, h2⟩ := h.1 kE0
      subst kE0
      refine zl_catch htab [] [] rfl hown hts (fun z hz => nomatch hz) ⟨by decide, by decide⟩ (by decide) q_275 cast_IndexOutOfBoundsException hW f1 f2 f3 ?_
      refine lv_astore_n (lv' := [(2, .ref q9), (0, .ref (sw_ad g 0)), (1, .int a1)]) hx hb dL_panels_6 rfl hl (Nat.le_of_ble_eq_true rfl) rfl (fun ls hl => ?_)
      refine lv_bipush (v := -11) hx hb dL_panels_7 (by decide) ?_
      exact zl_ri hx hb hr hlocks hW rfl ⟨(zv_c (l := [(-11)]) h1 h0).symm, h2⟩ dL_panels_9
    · exact (h.2 kE0).elim
  · obtain ⟨h0, h1, h2⟩ := h
    exact zl_ri hx hb hr hlocks hW rfl ⟨h1.trans (zv_0 h0).symm, h2⟩ dL_panels_5

theorem ch_L_byFrames : sw_cH yL_byFrames cL_byFrames 3 (some .int) [(0, 5, 6, 26)] 2 := ⟨q_690, q_1, q_1200, by decide +kernel⟩
set_option maxRecDepth 20000 in
theorem kL_byFrames (l : Launch) (hst : l.stackTraces = false) (g : sG) (z : zG) (a1 : Int32) : Met l yL_byFrames (sw_wsH yL_byFrames cL_byFrames 3 (some .int) [(0, 5, 6, 26)]) { frames := 8, cells := 1, slots := 6, locals := 137 } (va_Pc [.ref (sw_ad g 0), .int a1] (zl_Pr g z)) (va_Qi (fun r z' => r = zv (s_panelCount z a1) [(-11)] ∧ z' = (s_panelCount z a1).2.2) (zl_Po g) (sw_A g)) 1 6 (sw_A g) := by
  refine zl_metH (by decide) (Nat.le_of_ble_eq_true rfl) ?_
  intro p e s m args below meth c ls hx hb hr hts hown hml hlocks htab hW hl
  have hown : s.vm.findClass RL = some m.cls := hown
  have hl : lv_has ls 3 [(0, .ref (sw_ad g 0)), (1, .int a1)] := hl
  refine lv_aload_n hx hb dL_byFrames_0 rfl (lv_at hl 0 rfl) ?_
  refine lv_iload_n hx hb dL_byFrames_1 rfl (lv_at hl 1 rfl) ?_
  refine zl_xki (g := g) (rest := []) (zl_xrunV (g := g) (As := [.int a1]) (rest := []) hx hb hml hown hts (zX_panelCountByFrames l hst (zl_re g s.heap.size) z a1) cv_X6_panelCountByFrames q_691 rfl rfl ⟨(Nat.le_of_ble_eq_true rfl), (Nat.le_of_ble_eq_true rfl)⟩ hW (Or.inl (Nat.le_of_ble_eq_true rfl)) sl_0 rfl rfl hl.1 rfl (Nat.le_of_ble_eq_true rfl) dL_byFrames_2 ⟨(Nat.le_of_ble_eq_true rfl), (Nat.le_of_ble_eq_true rfl)⟩) hW (fun E9 ce9 q9 z9 H locs h hW f1 f2 f3 => ?_) (fun r1 z2 H locs h hW => ?_)
  · by_cases kE0 : E9 = "java/lang/IndexOutOfBoundsException"
    · obtain ⟨h0, h1, h2⟩ := h.1 kE0
      subst kE0
      refine zl_catch htab [] [] rfl hown hts (fun z hz => nomatch hz) ⟨by decide, by decide⟩ (by decide) q_275 cast_IndexOutOfBoundsException hW f1 f2 f3 ?_
      refine lv_astore_n (lv' := [(2, .ref q9), (0, .ref (sw_ad g 0)), (1, .int a1)]) hx hb dL_byFrames_6 rfl hl (Nat.le_of_ble_eq_true rfl) rfl (fun ls hl => ?_)
      refine lv_bipush (v := -11) hx hb dL_byFrames_7 (by decide) ?_
      exact zl_ri hx hb hr hlocks hW rfl ⟨(zv_c (l := [(-11)]) h1 h0).symm, h2⟩ dL_byFrames_9
    · exact (h.2 kE0).elim
  · obtain ⟨h0, h1, h2⟩ := h
    exact zl_ri hx hb hr hlocks hW rfl ⟨h1.trans (zv_0 h0).symm, h2⟩ dL_byFrames_5

theorem ch_L_member : sw_cH yL_member cL_member 4 (some .int) [(0, 6, 7, 26), (0, 6, 11, 14), (0, 6, 15, 50)] 3 := ⟨q_670, q_1, q_1198, by decide +kernel⟩
set_option maxRecDepth 20000 in
theorem kL_member (l : Launch) (hst : l.stackTraces = false) (g : sG) (z : zG) (a1 : Int32) (a2 : Int32) : Met l yL_member (sw_wsH yL_member cL_member 4 (some .int) [(0, 6, 7, 26), (0, 6, 11, 14), (0, 6, 15, 50)]) { frames := 8, cells := 2, slots := 12, locals := 138 } (va_Pc [.ref (sw_ad g 0), .int a1, .int a2] (zl_Pr g z)) (va_Qi (fun r z' => r = zv (s_panelMember z a1 a2) [(-11), (-12), (-13)] ∧ z' = (s_panelMember z a1 a2).2.2) (zl_Po g) (sw_A g)) 2 12 (sw_A g) := by
  refine zl_metH (by decide) (Nat.le_of_ble_eq_true rfl) ?_
  intro p e s m args below meth c ls hx hb hr hts hown hml hlocks htab hW hl
  have hown : s.vm.findClass RL = some m.cls := hown
  have hl : lv_has ls 4 [(0, .ref (sw_ad g 0)), (1, .int a1), (2, .int a2)] := hl
  refine lv_aload_n hx hb dL_member_0 rfl (lv_at hl 0 rfl) ?_
  refine lv_iload_n hx hb dL_member_1 rfl (lv_at hl 1 rfl) ?_
  refine lv_iload_n hx hb dL_member_2 rfl (lv_at hl 2 rfl) ?_
  refine zl_xki (g := g) (rest := []) (zl_xrunV (g := g) (As := [.int a1, .int a2]) (rest := []) hx hb hml hown hts (zX_panelMember l hst (zl_re g s.heap.size) z a1 a2) cv_X6_panelMember q_671 rfl rfl ⟨(Nat.le_of_ble_eq_true rfl), (Nat.le_of_ble_eq_true rfl)⟩ hW (Or.inl (Nat.le_of_ble_eq_true rfl)) sl_0 rfl rfl hl.1 rfl (Nat.le_of_ble_eq_true rfl) dL_member_3 ⟨(Nat.le_of_ble_eq_true rfl), (Nat.le_of_ble_eq_true rfl)⟩) hW (fun E9 ce9 q9 z9 H locs h hW f1 f2 f3 => ?_) (fun r1 z2 H locs h hW => ?_)
  · by_cases kE0 : E9 = "java/lang/IndexOutOfBoundsException"
    · obtain ⟨h0, h1, h2⟩ := h.1 kE0
      subst kE0
      refine zl_catch htab [] [(0, 6, 11, 14), (0, 6, 15, 50)] rfl hown hts (fun z hz => nomatch hz) ⟨by decide, by decide⟩ (by decide) q_275 cast_IndexOutOfBoundsException hW f1 f2 f3 ?_
      refine lv_astore_n (lv' := [(3, .ref q9), (0, .ref (sw_ad g 0)), (1, .int a1), (2, .int a2)]) hx hb dL_member_7 rfl hl (Nat.le_of_ble_eq_true rfl) rfl (fun ls hl => ?_)
      refine lv_bipush (v := -11) hx hb dL_member_8 (by decide) ?_
      exact zl_ri hx hb hr hlocks hW rfl ⟨(zv_c (l := [(-11), (-12), (-13)]) h1 h0).symm, h2⟩ dL_member_10
    · replace h := h.2 kE0
      by_cases kE1 : E9 = "java/lang/IllegalArgumentException"
      · obtain ⟨h0, h1, h2⟩ := h.1 kE1
        subst kE1
        refine zl_catch htab [(0, 6, 7, 26)] [(0, 6, 15, 50)] rfl hown hts (fun z hz => by
          simp only [List.mem_cons, List.not_mem_nil, or_false] at hz
          rcases hz with rfl
          · exact ⟨by decide, "java/lang/IndexOutOfBoundsException", q_275, hW.2.2.2.2.2.2.2.2.1.2.2.1 ("java/lang/IllegalArgumentException", "java/lang/IndexOutOfBoundsException") (by decide)⟩) ⟨by decide, by decide⟩ (by decide) q_166 cast_IllegalArgumentException hW f1 f2 f3 ?_
        refine lv_astore_n (lv' := [(3, .ref q9), (0, .ref (sw_ad g 0)), (1, .int a1), (2, .int a2)]) hx hb dL_member_11 rfl hl (Nat.le_of_ble_eq_true rfl) rfl (fun ls hl => ?_)
        refine lv_bipush (v := -12) hx hb dL_member_12 (by decide) ?_
        exact zl_ri hx hb hr hlocks hW rfl ⟨(zv_c (l := [(-11), (-12), (-13)]) h1 h0).symm, h2⟩ dL_member_14
      · replace h := h.2 kE1
        by_cases kE2 : E9 = "java/util/NoSuchElementException"
        · obtain ⟨h0, h1, h2⟩ := h.1 kE2
          subst kE2
          refine zl_catch htab [(0, 6, 7, 26), (0, 6, 11, 14)] [] rfl hown hts (fun z hz => by
            simp only [List.mem_cons, List.not_mem_nil, or_false] at hz
            rcases hz with rfl | rfl
            · exact ⟨by decide, "java/lang/IndexOutOfBoundsException", q_275, hW.2.2.2.2.2.2.2.2.1.2.2.1 ("java/util/NoSuchElementException", "java/lang/IndexOutOfBoundsException") (by decide)⟩
            · exact ⟨by decide, "java/lang/IllegalArgumentException", q_166, hW.2.2.2.2.2.2.2.2.1.2.2.1 ("java/util/NoSuchElementException", "java/lang/IllegalArgumentException") (by decide)⟩) ⟨by decide, by decide⟩ (by decide) q_515 cast_NoSuchElementException hW f1 f2 f3 ?_
          refine lv_astore_n (lv' := [(3, .ref q9), (0, .ref (sw_ad g 0)), (1, .int a1), (2, .int a2)]) hx hb dL_member_15 rfl hl (Nat.le_of_ble_eq_true rfl) rfl (fun ls hl => ?_)
          refine lv_bipush (v := -13) hx hb dL_member_16 (by decide) ?_
          exact zl_ri hx hb hr hlocks hW rfl ⟨(zv_c (l := [(-11), (-12), (-13)]) h1 h0).symm, h2⟩ dL_member_18
        · exact (h.2 kE2).elim
  · obtain ⟨h0, h1, h2⟩ := h
    exact zl_ri hx hb hr hlocks hW rfl ⟨h1.trans (zv_0 h0).symm, h2⟩ dL_member_6

theorem ch_L_doorOf : sw_cH yL_doorOf cL_doorOf 3 (some .int) [(0, 5, 6, 50)] 2 := ⟨q_711, q_1, q_1201, by decide +kernel⟩
set_option maxRecDepth 20000 in
theorem kL_doorOf (l : Launch) (hst : l.stackTraces = false) (g : sG) (z : zG) (a1 : Int32) : Met l yL_doorOf (sw_wsH yL_doorOf cL_doorOf 3 (some .int) [(0, 5, 6, 50)]) { frames := 8, cells := 1, slots := 6, locals := 137 } (va_Pc [.ref (sw_ad g 0), .int a1] (zl_Pr g z)) (va_Qi (fun r z' => r = zv (s_doorOf z a1) [(-13)] ∧ z' = (s_doorOf z a1).2.2) (zl_Po g) (sw_A g)) 1 6 (sw_A g) := by
  refine zl_metH (by decide) (Nat.le_of_ble_eq_true rfl) ?_
  intro p e s m args below meth c ls hx hb hr hts hown hml hlocks htab hW hl
  have hown : s.vm.findClass RL = some m.cls := hown
  have hl : lv_has ls 3 [(0, .ref (sw_ad g 0)), (1, .int a1)] := hl
  refine lv_aload_n hx hb dL_doorOf_0 rfl (lv_at hl 0 rfl) ?_
  refine lv_iload_n hx hb dL_doorOf_1 rfl (lv_at hl 1 rfl) ?_
  refine zl_xki (g := g) (rest := []) (zl_xrunV (g := g) (As := [.int a1]) (rest := []) hx hb hml hown hts (zX_doorOf l hst (zl_re g s.heap.size) z a1) cv_X6_doorOf q_712 rfl rfl ⟨(Nat.le_of_ble_eq_true rfl), (Nat.le_of_ble_eq_true rfl)⟩ hW (Or.inl (Nat.le_of_ble_eq_true rfl)) sl_0 rfl rfl hl.1 rfl (Nat.le_of_ble_eq_true rfl) dL_doorOf_2 ⟨(Nat.le_of_ble_eq_true rfl), (Nat.le_of_ble_eq_true rfl)⟩) hW (fun E9 ce9 q9 z9 H locs h hW f1 f2 f3 => ?_) (fun r1 z2 H locs h hW => ?_)
  · by_cases kE0 : E9 = "java/util/NoSuchElementException"
    · obtain ⟨h0, h1, h2⟩ := h.1 kE0
      subst kE0
      refine zl_catch htab [] [] rfl hown hts (fun z hz => nomatch hz) ⟨by decide, by decide⟩ (by decide) q_515 cast_NoSuchElementException hW f1 f2 f3 ?_
      refine lv_astore_n (lv' := [(2, .ref q9), (0, .ref (sw_ad g 0)), (1, .int a1)]) hx hb dL_doorOf_6 rfl hl (Nat.le_of_ble_eq_true rfl) rfl (fun ls hl => ?_)
      refine lv_bipush (v := -13) hx hb dL_doorOf_7 (by decide) ?_
      exact zl_ri hx hb hr hlocks hW rfl ⟨(zv_c (l := [(-13)]) h1 h0).symm, h2⟩ dL_doorOf_9
    · exact (h.2 kE0).elim
  · obtain ⟨h0, h1, h2⟩ := h
    exact zl_ri hx hb hr hlocks hW rfl ⟨h1.trans (zv_0 h0).symm, h2⟩ dL_doorOf_5

theorem ch_L_isRevoked : sw_cH yL_isRevoked cL_isRevoked 3 (some .int) [(0, 13, 14, 50)] 2 := ⟨q_724, q_1, q_1202, by decide +kernel⟩
set_option maxRecDepth 20000 in
theorem kL_isRevoked (l : Launch) (hst : l.stackTraces = false) (g : sG) (z : zG) (a1 : Int32) : Met l yL_isRevoked (sw_wsH yL_isRevoked cL_isRevoked 3 (some .int) [(0, 13, 14, 50)]) { frames := 8, cells := 1, slots := 6, locals := 137 } (va_Pc [.ref (sw_ad g 0), .int a1] (zl_Pr g z)) (va_Qi (fun r z' => r = zv (s_isRevoked z a1) [(-13)] ∧ z' = (s_isRevoked z a1).2.2) (zl_Po g) (sw_A g)) 1 6 (sw_A g) := by
  refine zl_metH (by decide) (Nat.le_of_ble_eq_true rfl) ?_
  intro p e s m args below meth c ls hx hb hr hts hown hml hlocks htab hW hl
  have hown : s.vm.findClass RL = some m.cls := hown
  have hl : lv_has ls 3 [(0, .ref (sw_ad g 0)), (1, .int a1)] := hl
  refine lv_aload_n hx hb dL_isRevoked_0 rfl (lv_at hl 0 rfl) ?_
  refine lv_iload_n hx hb dL_isRevoked_1 rfl (lv_at hl 1 rfl) ?_
  refine zl_xki (g := g) (rest := []) (zl_xrunV (g := g) (As := [.int a1]) (rest := []) hx hb hml hown hts (zX_isRevoked l hst (zl_re g s.heap.size) z a1) cv_X6_isRevoked q_725 rfl rfl ⟨(Nat.le_of_ble_eq_true rfl), (Nat.le_of_ble_eq_true rfl)⟩ hW (Or.inl (Nat.le_of_ble_eq_true rfl)) sl_0 rfl rfl hl.1 rfl (Nat.le_of_ble_eq_true rfl) dL_isRevoked_2 ⟨(Nat.le_of_ble_eq_true rfl), (Nat.le_of_ble_eq_true rfl)⟩) hW (fun E9 ce9 q9 z9 H locs h hW f1 f2 f3 => ?_) (fun r1 z2 H locs h hW => ?_)
  · by_cases kE0 : E9 = "java/util/NoSuchElementException"
    · obtain ⟨h0, h1, h2⟩ := h.1 kE0
      subst kE0
      refine zl_catch htab [] [] rfl hown hts (fun z hz => nomatch hz) ⟨by decide, by decide⟩ (by decide) q_515 cast_NoSuchElementException hW f1 f2 f3 ?_
      refine lv_astore_n (lv' := [(2, .ref q9), (0, .ref (sw_ad g 0)), (1, .int a1)]) hx hb dL_isRevoked_14 rfl hl (Nat.le_of_ble_eq_true rfl) rfl (fun ls hl => ?_)
      refine lv_bipush (v := -13) hx hb dL_isRevoked_15 (by decide) ?_
      exact zl_ri hx hb hr hlocks hW rfl ⟨(zv_c (l := [(-13)]) h1 h0).symm, h2⟩ dL_isRevoked_17
    · exact (h.2 kE0).elim
  · obtain ⟨h0, h1, h2⟩ := h
    refine lv_if_eq (tgt := 12) hx hb dL_isRevoked_5 (by decide) (fun k => ?_) (fun k => ?_)
    · refine lv_iconst (v := 0) hx hb dL_isRevoked_12 (by decide) ?_
      exact zl_ri hx hb hr hlocks hW rfl ⟨(k.symm.trans h1).trans (zv_0 h0).symm, h2⟩ dL_isRevoked_13
    · refine lv_iconst (v := 1) hx hb dL_isRevoked_8 (by decide) ?_
      refine lv_goto (tgt := 13) hx hb dL_isRevoked_9 (by decide) ?_
      exact zl_ri hx hb hr hlocks hW rfl ⟨(z_bool (by rw [← h1]; exact k) (s_isRevoked_1 z a1)).trans (zv_0 h0).symm, h2⟩ dL_isRevoked_13

theorem ch_L_append : sw_cH yL_append cL_append 3 (some .int) [(0, 5, 6, 16)] 2 := ⟨q_1082, q_1, q_1207, by decide +kernel⟩
set_option maxRecDepth 20000 in
theorem kL_append (l : Launch) (hst : l.stackTraces = false) (g : sG) (z : zG) {c1 : Nat} (hc : c1 < 65536) : Met l yL_append (sw_wsH yL_append cL_append 3 (some .int) [(0, 5, 6, 16)]) { frames := 7, cells := 1, slots := 6, locals := 116 } (va_Pc [.ref (sw_ad g 0), .int (nI c1)] (zl_Pr g z)) (va_Qi (fun r z' => r = zv (s_append z c1) [(-14)] ∧ z' = (s_append z c1).2.2) (zl_Po g) (sw_A g)) 1 6 (sw_A g) := by
  refine zl_metH (by decide) (Nat.le_of_ble_eq_true rfl) ?_
  intro p e s m args below meth c ls hx hb hr hts hown hml hlocks htab hW hl
  have hown : s.vm.findClass RL = some m.cls := hown
  have hl : lv_has ls 3 [(0, .ref (sw_ad g 0)), (1, .int (nI c1))] := hl
  refine lv_aload_n hx hb dL_append_0 rfl (lv_at hl 0 rfl) ?_
  refine lv_iload_n hx hb dL_append_1 rfl (lv_at hl 1 rfl) ?_
  refine zl_xki (g := g) (rest := []) (zl_xrunV (g := g) (As := [.int (nI c1)]) (rest := []) hx hb hml hown hts (zX_append l hst (zl_re g s.heap.size) z hc) cv_X6_append q_1083 rfl rfl ⟨(Nat.le_of_ble_eq_true rfl), (Nat.le_of_ble_eq_true rfl)⟩ hW (Or.inl (Nat.le_of_ble_eq_true rfl)) sl_0 rfl rfl hl.1 rfl (Nat.le_of_ble_eq_true rfl) dL_append_2 ⟨(Nat.le_of_ble_eq_true rfl), (Nat.le_of_ble_eq_true rfl)⟩) hW (fun E9 ce9 q9 z9 H locs h hW f1 f2 f3 => ?_) (fun r1 z2 H locs h hW => ?_)
  · by_cases kE0 : E9 = "java/lang/IllegalStateException"
    · obtain ⟨h0, h1, h2⟩ := h.1 kE0
      subst kE0
      refine zl_catch htab [] [] rfl hown hts (fun z hz => nomatch hz) ⟨by decide, by decide⟩ (by decide) q_167 cast_IllegalStateException hW f1 f2 f3 ?_
      refine lv_astore_n (lv' := [(2, .ref q9), (0, .ref (sw_ad g 0)), (1, .int (nI c1))]) hx hb dL_append_6 rfl hl (Nat.le_of_ble_eq_true rfl) rfl (fun ls hl => ?_)
      refine lv_bipush (v := -14) hx hb dL_append_7 (by decide) ?_
      exact zl_ri hx hb hr hlocks hW rfl ⟨(zv_c (l := [(-14)]) h1 h0).symm, h2⟩ dL_append_9
    · exact (h.2 kE0).elim
  · obtain ⟨h0, h1, h2⟩ := h
    exact zl_ri hx hb hr hlocks hW rfl ⟨h1.trans (zv_0 h0).symm, h2⟩ dL_append_5

theorem ch_L_runs : sw_cH yL_runs cL_runs 2 (some .int) [(0, 4, 5, 14), (0, 4, 8, 31)] 1 := ⟨q_1096, q_1, q_1208, by decide +kernel⟩
set_option maxRecDepth 20000 in
theorem kL_runs (l : Launch) (hst : l.stackTraces = false) (g : sG) (z : zG)  : Met l yL_runs (sw_wsH yL_runs cL_runs 2 (some .int) [(0, 4, 5, 14), (0, 4, 8, 31)]) { frames := 8, cells := 1, slots := 6, locals := 199 } (va_Pc [.ref (sw_ad g 0)] (zl_Pr g z)) (va_Qi (fun r z' => r = zv (s_run z) [(-1), (-2)] ∧ z' = (s_run z).2.2) (zl_Po g) (sw_A g)) 1 6 (sw_A g) := by
  refine zl_metH (by decide) (Nat.le_of_ble_eq_true rfl) ?_
  intro p e s m args below meth c ls hx hb hr hts hown hml hlocks htab hW hl
  have hown : s.vm.findClass RL = some m.cls := hown
  have hl : lv_has ls 2 [(0, .ref (sw_ad g 0))] := hl
  refine lv_aload_n hx hb dL_runs_0 rfl (lv_at hl 0 rfl) ?_
  refine zl_xki (g := g) (rest := []) (zl_xrunV (g := g) (As := []) (rest := []) hx hb hml hown hts (zX_run l hst (zl_re g s.heap.size) z ) cv_X6_run q_1097 rfl rfl ⟨(Nat.le_of_ble_eq_true rfl), (Nat.le_of_ble_eq_true rfl)⟩ hW (Or.inl (Nat.le_of_ble_eq_true rfl)) sl_0 rfl rfl hl.1 rfl (Nat.le_of_ble_eq_true rfl) dL_runs_1 ⟨(Nat.le_of_ble_eq_true rfl), (Nat.le_of_ble_eq_true rfl)⟩) hW (fun E9 ce9 q9 z9 H locs h hW f1 f2 f3 => ?_) (fun r1 z2 H locs h hW => ?_)
  · by_cases kE0 : E9 = "java/lang/IllegalArgumentException"
    · obtain ⟨h0, h1, h2⟩ := h.1 kE0
      subst kE0
      refine zl_catch htab [] [(0, 4, 8, 31)] rfl hown hts (fun z hz => nomatch hz) ⟨by decide, by decide⟩ (by decide) q_166 cast_IllegalArgumentException hW f1 f2 f3 ?_
      refine lv_astore_n (lv' := [(1, .ref q9), (0, .ref (sw_ad g 0))]) hx hb dL_runs_5 rfl hl (Nat.le_of_ble_eq_true rfl) rfl (fun ls hl => ?_)
      refine lv_iconst (v := -1) hx hb dL_runs_6 (by decide) ?_
      exact zl_ri hx hb hr hlocks hW rfl ⟨(zv_c (l := [(-1), (-2)]) h1 h0).symm, h2⟩ dL_runs_7
    · replace h := h.2 kE0
      by_cases kE1 : E9 = "java/lang/UnsupportedOperationException"
      · obtain ⟨h0, h1, h2⟩ := h.1 kE1
        subst kE1
        refine zl_catch htab [(0, 4, 5, 14)] [] rfl hown hts (fun z hz => by
          simp only [List.mem_cons, List.not_mem_nil, or_false] at hz
          rcases hz with rfl
          · exact ⟨by decide, "java/lang/IllegalArgumentException", q_166, hW.2.2.2.2.2.2.2.2.1.2.2.1 ("java/lang/UnsupportedOperationException", "java/lang/IllegalArgumentException") (by decide)⟩) ⟨by decide, by decide⟩ (by decide) q_293 cast_UnsupportedOperationException hW f1 f2 f3 ?_
        refine lv_astore_n (lv' := [(1, .ref q9), (0, .ref (sw_ad g 0))]) hx hb dL_runs_8 rfl hl (Nat.le_of_ble_eq_true rfl) rfl (fun ls hl => ?_)
        refine lv_bipush (v := -2) hx hb dL_runs_9 (by decide) ?_
        exact zl_ri hx hb hr hlocks hW rfl ⟨(zv_c (l := [(-1), (-2)]) h1 h0).symm, h2⟩ dL_runs_11
      · exact (h.2 kE1).elim
  · obtain ⟨h0, h1, h2⟩ := h
    exact zl_ri hx hb hr hlocks hW rfl ⟨h1.trans (zv_0 h0).symm, h2⟩ dL_runs_4

theorem ch_L_writeDoor : sw_cH yL_writeDoor cL_writeDoor 3 (some .int) [(0, 5, 6, 26)] 2 := ⟨q_1001, q_1, q_1203, by decide +kernel⟩
set_option maxRecDepth 20000 in
theorem kL_writeDoor (l : Launch) (hst : l.stackTraces = false) (g : sG) (z : zG) (a1 : Int32) : Met l yL_writeDoor (sw_wsH yL_writeDoor cL_writeDoor 3 (some .int) [(0, 5, 6, 26)]) { frames := 8, cells := 1, slots := 6, locals := 137 } (va_Pc [.ref (sw_ad g 0), .int a1] (zl_Pr g z)) (va_Qi (fun r z' => r = zv (s_writeDoor z a1) [(-11)] ∧ z' = (s_writeDoor z a1).2.2) (zl_Po g) (sw_A g)) 1 6 (sw_A g) := by
  refine zl_metH (by decide) (Nat.le_of_ble_eq_true rfl) ?_
  intro p e s m args below meth c ls hx hb hr hts hown hml hlocks htab hW hl
  have hown : s.vm.findClass RL = some m.cls := hown
  have hl : lv_has ls 3 [(0, .ref (sw_ad g 0)), (1, .int a1)] := hl
  refine lv_aload_n hx hb dL_writeDoor_0 rfl (lv_at hl 0 rfl) ?_
  refine lv_iload_n hx hb dL_writeDoor_1 rfl (lv_at hl 1 rfl) ?_
  refine zl_xki (g := g) (rest := []) (zl_xrunV (g := g) (As := [.int a1]) (rest := []) hx hb hml hown hts (zX_writeDoor l hst (zl_re g s.heap.size) z a1) cv_X6_writeDoor q_1002 rfl rfl ⟨(Nat.le_of_ble_eq_true rfl), (Nat.le_of_ble_eq_true rfl)⟩ hW (Or.inl (Nat.le_of_ble_eq_true rfl)) sl_0 rfl rfl hl.1 rfl (Nat.le_of_ble_eq_true rfl) dL_writeDoor_2 ⟨(Nat.le_of_ble_eq_true rfl), (Nat.le_of_ble_eq_true rfl)⟩) hW (fun E9 ce9 q9 z9 H locs h hW f1 f2 f3 => ?_) (fun r1 z2 H locs h hW => ?_)
  · by_cases kE0 : E9 = "java/lang/IndexOutOfBoundsException"
    · obtain ⟨h0, h1, h2⟩ := h.1 kE0
      subst kE0
      refine zl_catch htab [] [] rfl hown hts (fun z hz => nomatch hz) ⟨by decide, by decide⟩ (by decide) q_275 cast_IndexOutOfBoundsException hW f1 f2 f3 ?_
      refine lv_astore_n (lv' := [(2, .ref q9), (0, .ref (sw_ad g 0)), (1, .int a1)]) hx hb dL_writeDoor_6 rfl hl (Nat.le_of_ble_eq_true rfl) rfl (fun ls hl => ?_)
      refine lv_bipush (v := -11) hx hb dL_writeDoor_7 (by decide) ?_
      exact zl_ri hx hb hr hlocks hW rfl ⟨(zv_c (l := [(-11)]) h1 h0).symm, h2⟩ dL_writeDoor_9
    · exact (h.2 kE0).elim
  · obtain ⟨h0, h1, h2⟩ := h
    exact zl_ri hx hb hr hlocks hW rfl ⟨h1.trans (zv_0 h0).symm, h2⟩ dL_writeDoor_5

theorem ch_L_writeExaminer : sw_cH yL_writeExaminer cL_writeExaminer 3 (some .int) [(0, 5, 6, 26)] 2 := ⟨q_1051, q_1, q_1205, by decide +kernel⟩
set_option maxRecDepth 20000 in
theorem kL_writeExaminer (l : Launch) (hst : l.stackTraces = false) (g : sG) (z : zG) (a1 : Int32) : Met l yL_writeExaminer (sw_wsH yL_writeExaminer cL_writeExaminer 3 (some .int) [(0, 5, 6, 26)]) { frames := 8, cells := 1, slots := 6, locals := 137 } (va_Pc [.ref (sw_ad g 0), .int a1] (zl_Pr g z)) (va_Qi (fun r z' => r = zv (s_writeExaminer z a1) [(-11)] ∧ z' = (s_writeExaminer z a1).2.2) (zl_Po g) (sw_A g)) 1 6 (sw_A g) := by
  refine zl_metH (by decide) (Nat.le_of_ble_eq_true rfl) ?_
  intro p e s m args below meth c ls hx hb hr hts hown hml hlocks htab hW hl
  have hown : s.vm.findClass RL = some m.cls := hown
  have hl : lv_has ls 3 [(0, .ref (sw_ad g 0)), (1, .int a1)] := hl
  refine lv_aload_n hx hb dL_writeExaminer_0 rfl (lv_at hl 0 rfl) ?_
  refine lv_iload_n hx hb dL_writeExaminer_1 rfl (lv_at hl 1 rfl) ?_
  refine zl_xki (g := g) (rest := []) (zl_xrunV (g := g) (As := [.int a1]) (rest := []) hx hb hml hown hts (zX_writeExaminer l hst (zl_re g s.heap.size) z a1) cv_X6_writeExaminer q_1052 rfl rfl ⟨(Nat.le_of_ble_eq_true rfl), (Nat.le_of_ble_eq_true rfl)⟩ hW (Or.inl (Nat.le_of_ble_eq_true rfl)) sl_0 rfl rfl hl.1 rfl (Nat.le_of_ble_eq_true rfl) dL_writeExaminer_2 ⟨(Nat.le_of_ble_eq_true rfl), (Nat.le_of_ble_eq_true rfl)⟩) hW (fun E9 ce9 q9 z9 H locs h hW f1 f2 f3 => ?_) (fun r1 z2 H locs h hW => ?_)
  · by_cases kE0 : E9 = "java/lang/IndexOutOfBoundsException"
    · obtain ⟨h0, h1, h2⟩ := h.1 kE0
      subst kE0
      refine zl_catch htab [] [] rfl hown hts (fun z hz => nomatch hz) ⟨by decide, by decide⟩ (by decide) q_275 cast_IndexOutOfBoundsException hW f1 f2 f3 ?_
      refine lv_astore_n (lv' := [(2, .ref q9), (0, .ref (sw_ad g 0)), (1, .int a1)]) hx hb dL_writeExaminer_6 rfl hl (Nat.le_of_ble_eq_true rfl) rfl (fun ls hl => ?_)
      refine lv_bipush (v := -11) hx hb dL_writeExaminer_7 (by decide) ?_
      exact zl_ri hx hb hr hlocks hW rfl ⟨(zv_c (l := [(-11)]) h1 h0).symm, h2⟩ dL_writeExaminer_9
    · exact (h.2 kE0).elim
  · obtain ⟨h0, h1, h2⟩ := h
    exact zl_ri hx hb hr hlocks hW rfl ⟨h1.trans (zv_0 h0).symm, h2⟩ dL_writeExaminer_5

theorem ch_L_outputAt : sw_cH yL_outputAt cL_outputAt 3 (some .int) [(0, 5, 6, 26)] 2 := ⟨q_1030, q_1, q_1204, by decide +kernel⟩
set_option maxRecDepth 20000 in
theorem kL_outputAt (l : Launch) (hst : l.stackTraces = false) (g : sG) (z : zG) (a1 : Int32) : Met l yL_outputAt (sw_wsH yL_outputAt cL_outputAt 3 (some .int) [(0, 5, 6, 26)]) { frames := 7, cells := 1, slots := 6, locals := 116 } (va_Pc [.ref (sw_ad g 0), .int a1] (zl_Pr g z)) (va_Qi (fun r z' => r = zv (s_outputAt z a1) [(-11)] ∧ z' = (s_outputAt z a1).2.2) (zl_Po g) (sw_A g)) 1 6 (sw_A g) := by
  refine zl_metH (by decide) (Nat.le_of_ble_eq_true rfl) ?_
  intro p e s m args below meth c ls hx hb hr hts hown hml hlocks htab hW hl
  have hown : s.vm.findClass RL = some m.cls := hown
  have hl : lv_has ls 3 [(0, .ref (sw_ad g 0)), (1, .int a1)] := hl
  refine lv_aload_n hx hb dL_outputAt_0 rfl (lv_at hl 0 rfl) ?_
  refine lv_iload_n hx hb dL_outputAt_1 rfl (lv_at hl 1 rfl) ?_
  refine zl_xki (g := g) (rest := []) (zl_xrunV (g := g) (As := [.int a1]) (rest := []) hx hb hml hown hts (zX_outputAt l hst (zl_re g s.heap.size) z a1) cv_X6_outputAt q_1031 rfl rfl ⟨(Nat.le_of_ble_eq_true rfl), (Nat.le_of_ble_eq_true rfl)⟩ hW (Or.inl (Nat.le_of_ble_eq_true rfl)) sl_0 rfl rfl hl.1 rfl (Nat.le_of_ble_eq_true rfl) dL_outputAt_2 ⟨(Nat.le_of_ble_eq_true rfl), (Nat.le_of_ble_eq_true rfl)⟩) hW (fun E9 ce9 q9 z9 H locs h hW f1 f2 f3 => ?_) (fun r1 z2 H locs h hW => ?_)
  · by_cases kE0 : E9 = "java/lang/IndexOutOfBoundsException"
    · obtain ⟨h0, h1, h2⟩ := h.1 kE0
      subst kE0
      refine zl_catch htab [] [] rfl hown hts (fun z hz => nomatch hz) ⟨by decide, by decide⟩ (by decide) q_275 cast_IndexOutOfBoundsException hW f1 f2 f3 ?_
      refine lv_astore_n (lv' := [(2, .ref q9), (0, .ref (sw_ad g 0)), (1, .int a1)]) hx hb dL_outputAt_6 rfl hl (Nat.le_of_ble_eq_true rfl) rfl (fun ls hl => ?_)
      refine lv_bipush (v := -11) hx hb dL_outputAt_7 (by decide) ?_
      exact zl_ri hx hb hr hlocks hW rfl ⟨(zv_c (l := [(-11)]) h1 h0).symm, h2⟩ dL_outputAt_9
    · exact (h.2 kE0).elim
  · obtain ⟨h0, h1, h2⟩ := h
    exact zl_ri hx hb hr hlocks hW rfl ⟨h1.trans (zv_0 h0).symm, h2⟩ dL_outputAt_5

theorem ch_L_undo : sw_cH yL_undo cL_undo 2 (some .int) [(0, 4, 5, 16)] 1 := ⟨q_1144, q_1, q_1209, by decide +kernel⟩
set_option maxRecDepth 20000 in
theorem kL_undo (l : Launch) (hst : l.stackTraces = false) (g : sG) (z : zG)  : Met l yL_undo (sw_wsH yL_undo cL_undo 2 (some .int) [(0, 4, 5, 16)]) { frames := 7, cells := 1, slots := 6, locals := 115 } (va_Pc [.ref (sw_ad g 0)] (zl_Pr g z)) (va_Qi (fun r z' => r = zv (s_undo z) [(-1)] ∧ z' = (s_undo z).2.2) (zl_Po g) (sw_A g)) 1 6 (sw_A g) := by
  refine zl_metH (by decide) (Nat.le_of_ble_eq_true rfl) ?_
  intro p e s m args below meth c ls hx hb hr hts hown hml hlocks htab hW hl
  have hown : s.vm.findClass RL = some m.cls := hown
  have hl : lv_has ls 2 [(0, .ref (sw_ad g 0))] := hl
  refine lv_aload_n hx hb dL_undo_0 rfl (lv_at hl 0 rfl) ?_
  refine zl_xki (g := g) (rest := []) (zl_xrunV (g := g) (As := []) (rest := []) hx hb hml hown hts (zX_undo l hst (zl_re g s.heap.size) z ) cv_X6_undo q_1145 rfl rfl ⟨(Nat.le_of_ble_eq_true rfl), (Nat.le_of_ble_eq_true rfl)⟩ hW (Or.inl (Nat.le_of_ble_eq_true rfl)) sl_0 rfl rfl hl.1 rfl (Nat.le_of_ble_eq_true rfl) dL_undo_1 ⟨(Nat.le_of_ble_eq_true rfl), (Nat.le_of_ble_eq_true rfl)⟩) hW (fun E9 ce9 q9 z9 H locs h hW f1 f2 f3 => ?_) (fun r1 z2 H locs h hW => ?_)
  · by_cases kE0 : E9 = "java/lang/IllegalStateException"
    · obtain ⟨h0, h1, h2⟩ := h.1 kE0
      subst kE0
      refine zl_catch htab [] [] rfl hown hts (fun z hz => nomatch hz) ⟨by decide, by decide⟩ (by decide) q_167 cast_IllegalStateException hW f1 f2 f3 ?_
      refine lv_astore_n (lv' := [(1, .ref q9), (0, .ref (sw_ad g 0))]) hx hb dL_undo_5 rfl hl (Nat.le_of_ble_eq_true rfl) rfl (fun ls hl => ?_)
      refine lv_iconst (v := -1) hx hb dL_undo_6 (by decide) ?_
      exact zl_ri hx hb hr hlocks hW rfl ⟨(zv_c (l := [(-1)]) h1 h0).symm, h2⟩ dL_undo_7
    · exact (h.2 kE0).elim
  · obtain ⟨h0, h1, h2⟩ := h
    exact zl_ri hx hb hr hlocks hW rfl ⟨h1.trans (zv_0 h0).symm, h2⟩ dL_undo_4
