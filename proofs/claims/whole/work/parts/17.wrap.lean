def wL_addDoor (a1 : Int32) (a2 : Int32) (M : sM) (o : sO) (d : sE) (Q : Int32 → sM → sO → sE → Prop) : Prop :=
  wX6_addDoor a1 a2 M (fun r1 M2 => ∀ o3 : sO, o3 = vp_updL o ((0 : Int32)).toNatClampNeg ((r1).toInt64) → (Q (0 : Int32) M2 o3 d)) (fun E9 M9 => (E9 = "java/lang/IllegalArgumentException" → (Q (1 : Int32) M9 o d)) ∧ (¬ E9 = "java/lang/IllegalArgumentException" → ((E9 = "java/lang/IllegalStateException" → (Q (2 : Int32) M9 o d)) ∧ (¬ E9 = "java/lang/IllegalStateException" → (False)))))
set_option maxRecDepth 20000 in
theorem kL_addDoor (l : Launch) (hst : l.stackTraces = false) (g : sG) (a1 : Int32) (a2 : Int32) (M : sM) (o : sO) (d : sE) (Q : Int32 → sM → sO → sE → Prop) (h : wL_addDoor a1 a2 M o d Q) : Met l yL_addDoor (sw_wsH yL_addDoor cL_addDoor 5 (some .int) [(0, 10, 13, 13), (0, 10, 17, 15)]) { frames := 9, cells := 1, slots := 6, locals := 158 } (va_Pc [.ref (sw_ad g 0), .int a1, .int a2, .ref (sw_ad g 233)] (sw_Pr g o d M)) (va_Qi (fun r u => Q r u.1 u.2.1 u.2.2) (sw_Po3 g) (sw_A g)) 1 6 (sw_A g) := by
  refine sw_metH (by decide) (Nat.le_of_ble_eq_true rfl) ?_
  intro p e s m args below meth c ls hx hb hr hts hown hml hlocks htab hW hl
  have hown : s.vm.findClass RL = some m.cls := hown
  have hl : lv_has ls 5 [(0, .ref (sw_ad g 0)), (1, .int a1), (2, .int a2), (3, .ref (sw_ad g 233))] := hl
  unfold wL_addDoor at h
  refine lv_aload_n hx hb dL_addDoor_0 rfl (lv_at hl 3 rfl) ?_
  refine lv_iconst (v := 0) hx hb dL_addDoor_1 (by decide) ?_
  refine lv_aload_n hx hb dL_addDoor_2 rfl (lv_at hl 0 rfl) ?_
  refine lv_iload_n hx hb dL_addDoor_3 rfl (lv_at hl 1 rfl) ?_
  refine lv_iload_n hx hb dL_addDoor_4 rfl (lv_at hl 2 rfl) ?_
  refine sw_xki (rest := [.int (0 : Int32), .ref (sw_ad g 233)]) (sw_xrunV (As := [.int a1, .int a2]) (rest := [.int (0 : Int32), .ref (sw_ad g 233)]) hx hb hml hown hts (kX6_addDoor l hst g o d a1 a2 M _ _ h) cv_X6_addDoor q_407 rfl rfl ⟨(Nat.le_of_ble_eq_true rfl), (Nat.le_of_ble_eq_true rfl)⟩ hW (Nat.le_of_ble_eq_true rfl) sl_0 rfl rfl hl.1 rfl (Nat.le_of_ble_eq_true rfl) dL_addDoor_5 ⟨(Nat.le_of_ble_eq_true rfl), (Nat.le_of_ble_eq_true rfl)⟩) hW (fun E9 ce9 q9 M9 H locs h hW f1 f2 f3 => ?_) (fun r1 M2 H locs h hW => ?_)
  · by_cases kE0 : E9 = "java/lang/IllegalArgumentException"
    · replace h := h.1 kE0
      subst kE0
      refine sw_catch htab [] [(0, 10, 17, 15)] rfl hown hts (fun z hz => nomatch hz) ⟨by decide, by decide⟩ (by decide) q_405 cast_IllegalArgumentException hW f1 f2 f3 ?_
      refine lv_astore (lv' := [(4, .ref q9), (0, .ref (sw_ad g 0)), (1, .int a1), (2, .int a2), (3, .ref (sw_ad g 233))]) hx hb dL_addDoor_13 hl (Nat.le_of_ble_eq_true rfl) rfl (fun ls hl => ?_)
      refine lv_iconst (v := 1) hx hb dL_addDoor_15 (by decide) ?_
      exact sw_ri3 hx hb hr hlocks hW rfl h dL_addDoor_16
    · replace h := h.2 kE0
      by_cases kE1 : E9 = "java/lang/IllegalStateException"
      · replace h := h.1 kE1
        subst kE1
        refine sw_catch htab [(0, 10, 13, 13)] [] rfl hown hts (fun z hz => by
      simp only [List.mem_cons, List.not_mem_nil, or_false] at hz
      rcases hz with rfl
      · exact ⟨by decide, "java/lang/IllegalArgumentException", q_405, hW.2.2.2.2.2.2.2.1.2.2 ("java/lang/IllegalStateException", "java/lang/IllegalArgumentException") (by decide)⟩) ⟨by decide, by decide⟩ (by decide) q_406 cast_IllegalStateException hW f1 f2 f3 ?_
        refine lv_astore (lv' := [(4, .ref q9), (0, .ref (sw_ad g 0)), (1, .int a1), (2, .int a2), (3, .ref (sw_ad g 233))]) hx hb dL_addDoor_17 hl (Nat.le_of_ble_eq_true rfl) rfl (fun ls hl => ?_)
        refine lv_iconst (v := 2) hx hb dL_addDoor_19 (by decide) ?_
        exact sw_ri3 hx hb hr hlocks hW rfl h dL_addDoor_20
      · replace h := h.2 kE1
        exact h.elim
  · refine lv_i2l hx hb dL_addDoor_8 rfl ?_
    refine sw_ls hx hb hW (vp_in_iff.mpr (by decide)) dL_addDoor_9 (fun H locs hW => ?_)
    obtain ⟨o3, eo3⟩ : ∃ z : sO, z = vp_updL o ((0 : Int32)).toNatClampNeg ((r1).toInt64) := ⟨_, rfl⟩
    rw [← eo3] at hW
    have h := h o3 eo3
    refine lv_goto (tgt := 21) hx hb dL_addDoor_10 (by decide) ?_
    refine lv_iconst (v := 0) hx hb dL_addDoor_21 (by decide) ?_
    exact sw_ri3 hx hb hr hlocks hW rfl h dL_addDoor_22
theorem ch_L_addDoor : sw_cH yL_addDoor cL_addDoor 5 (some .int) [(0, 10, 13, 13), (0, 10, 17, 15)] 4 := ⟨q_404, q_1, q_1416, by decide +kernel⟩

def wL_addExaminer (a1 : Int32) (a2 : Int32) (a3 : Int32) (a4 : Int32) (M : sM) (o : sO) (d : sE) (Q : Int32 → sM → sO → sE → Prop) : Prop :=
  wX6_addExaminer a1 a2 a3 a4 M (fun r1 M2 => ∀ o3 : sO, o3 = vp_updL o ((0 : Int32)).toNatClampNeg ((r1).toInt64) → (Q (0 : Int32) M2 o3 d)) (fun E9 M9 => (E9 = "java/lang/IllegalArgumentException" → (Q (1 : Int32) M9 o d)) ∧ (¬ E9 = "java/lang/IllegalArgumentException" → ((E9 = "java/lang/IllegalStateException" → (Q (2 : Int32) M9 o d)) ∧ (¬ E9 = "java/lang/IllegalStateException" → (False)))))
set_option maxRecDepth 20000 in
theorem kL_addExaminer (l : Launch) (hst : l.stackTraces = false) (g : sG) (a1 : Int32) (a2 : Int32) (a3 : Int32) (a4 : Int32) (M : sM) (o : sO) (d : sE) (Q : Int32 → sM → sO → sE → Prop) (h : wL_addExaminer a1 a2 a3 a4 M o d Q) : Met l yL_addExaminer (sw_wsH yL_addExaminer cL_addExaminer 7 (some .int) [(0, 14, 17, 13), (0, 14, 21, 15)]) { frames := 9, cells := 1, slots := 6, locals := 160 } (va_Pc [.ref (sw_ad g 0), .int a1, .int a2, .int a3, .int a4, .ref (sw_ad g 233)] (sw_Pr g o d M)) (va_Qi (fun r u => Q r u.1 u.2.1 u.2.2) (sw_Po3 g) (sw_A g)) 1 6 (sw_A g) := by
  refine sw_metH (by decide) (Nat.le_of_ble_eq_true rfl) ?_
  intro p e s m args below meth c ls hx hb hr hts hown hml hlocks htab hW hl
  have hown : s.vm.findClass RL = some m.cls := hown
  have hl : lv_has ls 7 [(0, .ref (sw_ad g 0)), (1, .int a1), (2, .int a2), (3, .int a3), (4, .int a4), (5, .ref (sw_ad g 233))] := hl
  unfold wL_addExaminer at h
  refine lv_aload hx hb dL_addExaminer_0 (lv_at hl 5 rfl) ?_
  refine lv_iconst (v := 0) hx hb dL_addExaminer_2 (by decide) ?_
  refine lv_aload_n hx hb dL_addExaminer_3 rfl (lv_at hl 0 rfl) ?_
  refine lv_iload_n hx hb dL_addExaminer_4 rfl (lv_at hl 1 rfl) ?_
  refine lv_iload_n hx hb dL_addExaminer_5 rfl (lv_at hl 2 rfl) ?_
  refine lv_iload_n hx hb dL_addExaminer_6 rfl (lv_at hl 3 rfl) ?_
  refine lv_iload hx hb dL_addExaminer_7 (lv_at hl 4 rfl) ?_
  refine sw_xki (rest := [.int (0 : Int32), .ref (sw_ad g 233)]) (sw_xrunV (As := [.int a1, .int a2, .int a3, .int a4]) (rest := [.int (0 : Int32), .ref (sw_ad g 233)]) hx hb hml hown hts (kX6_addExaminer l hst g o d a1 a2 a3 a4 M _ _ h) cv_X6_addExaminer q_419 rfl rfl ⟨(Nat.le_of_ble_eq_true rfl), (Nat.le_of_ble_eq_true rfl)⟩ hW (Nat.le_of_ble_eq_true rfl) sl_0 rfl rfl hl.1 rfl (Nat.le_of_ble_eq_true rfl) dL_addExaminer_9 ⟨(Nat.le_of_ble_eq_true rfl), (Nat.le_of_ble_eq_true rfl)⟩) hW (fun E9 ce9 q9 M9 H locs h hW f1 f2 f3 => ?_) (fun r1 M2 H locs h hW => ?_)
  · by_cases kE0 : E9 = "java/lang/IllegalArgumentException"
    · replace h := h.1 kE0
      subst kE0
      refine sw_catch htab [] [(0, 14, 21, 15)] rfl hown hts (fun z hz => nomatch hz) ⟨by decide, by decide⟩ (by decide) q_405 cast_IllegalArgumentException hW f1 f2 f3 ?_
      refine lv_astore (lv' := [(6, .ref q9), (0, .ref (sw_ad g 0)), (1, .int a1), (2, .int a2), (3, .int a3), (4, .int a4), (5, .ref (sw_ad g 233))]) hx hb dL_addExaminer_17 hl (Nat.le_of_ble_eq_true rfl) rfl (fun ls hl => ?_)
      refine lv_iconst (v := 1) hx hb dL_addExaminer_19 (by decide) ?_
      exact sw_ri3 hx hb hr hlocks hW rfl h dL_addExaminer_20
    · replace h := h.2 kE0
      by_cases kE1 : E9 = "java/lang/IllegalStateException"
      · replace h := h.1 kE1
        subst kE1
        refine sw_catch htab [(0, 14, 17, 13)] [] rfl hown hts (fun z hz => by
      simp only [List.mem_cons, List.not_mem_nil, or_false] at hz
      rcases hz with rfl
      · exact ⟨by decide, "java/lang/IllegalArgumentException", q_405, hW.2.2.2.2.2.2.2.1.2.2 ("java/lang/IllegalStateException", "java/lang/IllegalArgumentException") (by decide)⟩) ⟨by decide, by decide⟩ (by decide) q_406 cast_IllegalStateException hW f1 f2 f3 ?_
        refine lv_astore (lv' := [(6, .ref q9), (0, .ref (sw_ad g 0)), (1, .int a1), (2, .int a2), (3, .int a3), (4, .int a4), (5, .ref (sw_ad g 233))]) hx hb dL_addExaminer_21 hl (Nat.le_of_ble_eq_true rfl) rfl (fun ls hl => ?_)
        refine lv_iconst (v := 2) hx hb dL_addExaminer_23 (by decide) ?_
        exact sw_ri3 hx hb hr hlocks hW rfl h dL_addExaminer_24
      · replace h := h.2 kE1
        exact h.elim
  · refine lv_i2l hx hb dL_addExaminer_12 rfl ?_
    refine sw_ls hx hb hW (vp_in_iff.mpr (by decide)) dL_addExaminer_13 (fun H locs hW => ?_)
    obtain ⟨o3, eo3⟩ : ∃ z : sO, z = vp_updL o ((0 : Int32)).toNatClampNeg ((r1).toInt64) := ⟨_, rfl⟩
    rw [← eo3] at hW
    have h := h o3 eo3
    refine lv_goto (tgt := 25) hx hb dL_addExaminer_14 (by decide) ?_
    refine lv_iconst (v := 0) hx hb dL_addExaminer_25 (by decide) ?_
    exact sw_ri3 hx hb hr hlocks hW rfl h dL_addExaminer_26
theorem ch_L_addExaminer : sw_cH yL_addExaminer cL_addExaminer 7 (some .int) [(0, 14, 17, 13), (0, 14, 21, 15)] 6 := ⟨q_418, q_1, q_1417, by decide +kernel⟩

def wL_declareConflict (a1 : Int32) (a2 : Int32) (M : sM) (o : sO) (d : sE) (Q : Int32 → sM → sO → sE → Prop) : Prop :=
  wX6_declareConflict a1 a2 M (fun r1 M2 => ∀ o3 : sO, o3 = vp_updL o ((0 : Int32)).toNatClampNeg ((r1).toInt64) → (Q (0 : Int32) M2 o3 d)) (fun E9 M9 => (E9 = "java/lang/IndexOutOfBoundsException" → (Q (1 : Int32) M9 o d)) ∧ (¬ E9 = "java/lang/IndexOutOfBoundsException" → ((E9 = "java/lang/IllegalStateException" → (Q (2 : Int32) M9 o d)) ∧ (¬ E9 = "java/lang/IllegalStateException" → (False)))))
set_option maxRecDepth 20000 in
theorem kL_declareConflict (l : Launch) (hst : l.stackTraces = false) (g : sG) (a1 : Int32) (a2 : Int32) (M : sM) (o : sO) (d : sE) (Q : Int32 → sM → sO → sE → Prop) (h : wL_declareConflict a1 a2 M o d Q) : Met l yL_declareConflict (sw_wsH yL_declareConflict cL_declareConflict 5 (some .int) [(0, 10, 13, 25), (0, 10, 17, 15)]) { frames := 9, cells := 1, slots := 6, locals := 158 } (va_Pc [.ref (sw_ad g 0), .int a1, .int a2, .ref (sw_ad g 233)] (sw_Pr g o d M)) (va_Qi (fun r u => Q r u.1 u.2.1 u.2.2) (sw_Po3 g) (sw_A g)) 1 6 (sw_A g) := by
  refine sw_metH (by decide) (Nat.le_of_ble_eq_true rfl) ?_
  intro p e s m args below meth c ls hx hb hr hts hown hml hlocks htab hW hl
  have hown : s.vm.findClass RL = some m.cls := hown
  have hl : lv_has ls 5 [(0, .ref (sw_ad g 0)), (1, .int a1), (2, .int a2), (3, .ref (sw_ad g 233))] := hl
  unfold wL_declareConflict at h
  refine lv_aload_n hx hb dL_declareConflict_0 rfl (lv_at hl 3 rfl) ?_
  refine lv_iconst (v := 0) hx hb dL_declareConflict_1 (by decide) ?_
  refine lv_aload_n hx hb dL_declareConflict_2 rfl (lv_at hl 0 rfl) ?_
  refine lv_iload_n hx hb dL_declareConflict_3 rfl (lv_at hl 1 rfl) ?_
  refine lv_iload_n hx hb dL_declareConflict_4 rfl (lv_at hl 2 rfl) ?_
  refine sw_xki (rest := [.int (0 : Int32), .ref (sw_ad g 233)]) (sw_xrunV (As := [.int a1, .int a2]) (rest := [.int (0 : Int32), .ref (sw_ad g 233)]) hx hb hml hown hts (kX6_declareConflict l hst g o d a1 a2 M _ _ h) cv_X6_declareConflict q_447 rfl rfl ⟨(Nat.le_of_ble_eq_true rfl), (Nat.le_of_ble_eq_true rfl)⟩ hW (Nat.le_of_ble_eq_true rfl) sl_0 rfl rfl hl.1 rfl (Nat.le_of_ble_eq_true rfl) dL_declareConflict_5 ⟨(Nat.le_of_ble_eq_true rfl), (Nat.le_of_ble_eq_true rfl)⟩) hW (fun E9 ce9 q9 M9 H locs h hW f1 f2 f3 => ?_) (fun r1 M2 H locs h hW => ?_)
  · by_cases kE0 : E9 = "java/lang/IndexOutOfBoundsException"
    · replace h := h.1 kE0
      subst kE0
      refine sw_catch htab [] [(0, 10, 17, 15)] rfl hown hts (fun z hz => nomatch hz) ⟨by decide, by decide⟩ (by decide) q_429 cast_IndexOutOfBoundsException hW f1 f2 f3 ?_
      refine lv_astore (lv' := [(4, .ref q9), (0, .ref (sw_ad g 0)), (1, .int a1), (2, .int a2), (3, .ref (sw_ad g 233))]) hx hb dL_declareConflict_13 hl (Nat.le_of_ble_eq_true rfl) rfl (fun ls hl => ?_)
      refine lv_iconst (v := 1) hx hb dL_declareConflict_15 (by decide) ?_
      exact sw_ri3 hx hb hr hlocks hW rfl h dL_declareConflict_16
    · replace h := h.2 kE0
      by_cases kE1 : E9 = "java/lang/IllegalStateException"
      · replace h := h.1 kE1
        subst kE1
        refine sw_catch htab [(0, 10, 13, 25)] [] rfl hown hts (fun z hz => by
      simp only [List.mem_cons, List.not_mem_nil, or_false] at hz
      rcases hz with rfl
      · exact ⟨by decide, "java/lang/IndexOutOfBoundsException", q_429, hW.2.2.2.2.2.2.2.1.2.2 ("java/lang/IllegalStateException", "java/lang/IndexOutOfBoundsException") (by decide)⟩) ⟨by decide, by decide⟩ (by decide) q_406 cast_IllegalStateException hW f1 f2 f3 ?_
        refine lv_astore (lv' := [(4, .ref q9), (0, .ref (sw_ad g 0)), (1, .int a1), (2, .int a2), (3, .ref (sw_ad g 233))]) hx hb dL_declareConflict_17 hl (Nat.le_of_ble_eq_true rfl) rfl (fun ls hl => ?_)
        refine lv_iconst (v := 2) hx hb dL_declareConflict_19 (by decide) ?_
        exact sw_ri3 hx hb hr hlocks hW rfl h dL_declareConflict_20
      · replace h := h.2 kE1
        exact h.elim
  · refine lv_i2l hx hb dL_declareConflict_8 rfl ?_
    refine sw_ls hx hb hW (vp_in_iff.mpr (by decide)) dL_declareConflict_9 (fun H locs hW => ?_)
    obtain ⟨o3, eo3⟩ : ∃ z : sO, z = vp_updL o ((0 : Int32)).toNatClampNeg ((r1).toInt64) := ⟨_, rfl⟩
    rw [← eo3] at hW
    have h := h o3 eo3
    refine lv_goto (tgt := 21) hx hb dL_declareConflict_10 (by decide) ?_
    refine lv_iconst (v := 0) hx hb dL_declareConflict_21 (by decide) ?_
    exact sw_ri3 hx hb hr hlocks hW rfl h dL_declareConflict_22
theorem ch_L_declareConflict : sw_cH yL_declareConflict cL_declareConflict 5 (some .int) [(0, 10, 13, 25), (0, 10, 17, 15)] 4 := ⟨q_428, q_1, q_1418, by decide +kernel⟩

def wL_assign (a1 : Int32) (a2 : Int32) (M : sM) (o : sO) (d : sE) (Q : Int32 → sM → sO → sE → Prop) : Prop :=
  wX6_assign a1 a2 M (fun r1 M2 => ∀ o3 : sO, o3 = vp_updL o ((0 : Int32)).toNatClampNeg ((r1).toInt64) → (Q (0 : Int32) M2 o3 d)) (fun E9 M9 => (E9 = "java/lang/IndexOutOfBoundsException" → (Q (1 : Int32) M9 o d)) ∧ (¬ E9 = "java/lang/IndexOutOfBoundsException" → ((E9 = "java/lang/IllegalStateException" → (Q (2 : Int32) M9 o d)) ∧ (¬ E9 = "java/lang/IllegalStateException" → ((E9 = "java/lang/UnsupportedOperationException" → (Q (3 : Int32) M9 o d)) ∧ (¬ E9 = "java/lang/UnsupportedOperationException" → (False)))))))
set_option maxRecDepth 20000 in
theorem kL_assign (l : Launch) (hst : l.stackTraces = false) (g : sG) (a1 : Int32) (a2 : Int32) (M : sM) (o : sO) (d : sE) (Q : Int32 → sM → sO → sE → Prop) (h : wL_assign a1 a2 M o d Q) : Met l yL_assign (sw_wsH yL_assign cL_assign 5 (some .int) [(0, 10, 13, 25), (0, 10, 17, 15), (0, 10, 21, 30)]) { frames := 9, cells := 1, slots := 6, locals := 158 } (va_Pc [.ref (sw_ad g 0), .int a1, .int a2, .ref (sw_ad g 233)] (sw_Pr g o d M)) (va_Qi (fun r u => Q r u.1 u.2.1 u.2.2) (sw_Po3 g) (sw_A g)) 1 6 (sw_A g) := by
  refine sw_metH (by decide) (Nat.le_of_ble_eq_true rfl) ?_
  intro p e s m args below meth c ls hx hb hr hts hown hml hlocks htab hW hl
  have hown : s.vm.findClass RL = some m.cls := hown
  have hl : lv_has ls 5 [(0, .ref (sw_ad g 0)), (1, .int a1), (2, .int a2), (3, .ref (sw_ad g 233))] := hl
  unfold wL_assign at h
  refine lv_aload_n hx hb dL_assign_0 rfl (lv_at hl 3 rfl) ?_
  refine lv_iconst (v := 0) hx hb dL_assign_1 (by decide) ?_
  refine lv_aload_n hx hb dL_assign_2 rfl (lv_at hl 0 rfl) ?_
  refine lv_iload_n hx hb dL_assign_3 rfl (lv_at hl 1 rfl) ?_
  refine lv_iload_n hx hb dL_assign_4 rfl (lv_at hl 2 rfl) ?_
  refine sw_xki (rest := [.int (0 : Int32), .ref (sw_ad g 233)]) (sw_xrunV (As := [.int a1, .int a2]) (rest := [.int (0 : Int32), .ref (sw_ad g 233)]) hx hb hml hown hts (kX6_assign l hst g o d a1 a2 M _ _ h) cv_X6_assign q_471 rfl rfl ⟨(Nat.le_of_ble_eq_true rfl), (Nat.le_of_ble_eq_true rfl)⟩ hW (Nat.le_of_ble_eq_true rfl) sl_0 rfl rfl hl.1 rfl (Nat.le_of_ble_eq_true rfl) dL_assign_5 ⟨(Nat.le_of_ble_eq_true rfl), (Nat.le_of_ble_eq_true rfl)⟩) hW (fun E9 ce9 q9 M9 H locs h hW f1 f2 f3 => ?_) (fun r1 M2 H locs h hW => ?_)
  · by_cases kE0 : E9 = "java/lang/IndexOutOfBoundsException"
    · replace h := h.1 kE0
      subst kE0
      refine sw_catch htab [] [(0, 10, 17, 15), (0, 10, 21, 30)] rfl hown hts (fun z hz => nomatch hz) ⟨by decide, by decide⟩ (by decide) q_429 cast_IndexOutOfBoundsException hW f1 f2 f3 ?_
      refine lv_astore (lv' := [(4, .ref q9), (0, .ref (sw_ad g 0)), (1, .int a1), (2, .int a2), (3, .ref (sw_ad g 233))]) hx hb dL_assign_13 hl (Nat.le_of_ble_eq_true rfl) rfl (fun ls hl => ?_)
      refine lv_iconst (v := 1) hx hb dL_assign_15 (by decide) ?_
      exact sw_ri3 hx hb hr hlocks hW rfl h dL_assign_16
    · replace h := h.2 kE0
      by_cases kE1 : E9 = "java/lang/IllegalStateException"
      · replace h := h.1 kE1
        subst kE1
        refine sw_catch htab [(0, 10, 13, 25)] [(0, 10, 21, 30)] rfl hown hts (fun z hz => by
      simp only [List.mem_cons, List.not_mem_nil, or_false] at hz
      rcases hz with rfl
      · exact ⟨by decide, "java/lang/IndexOutOfBoundsException", q_429, hW.2.2.2.2.2.2.2.1.2.2 ("java/lang/IllegalStateException", "java/lang/IndexOutOfBoundsException") (by decide)⟩) ⟨by decide, by decide⟩ (by decide) q_406 cast_IllegalStateException hW f1 f2 f3 ?_
        refine lv_astore (lv' := [(4, .ref q9), (0, .ref (sw_ad g 0)), (1, .int a1), (2, .int a2), (3, .ref (sw_ad g 233))]) hx hb dL_assign_17 hl (Nat.le_of_ble_eq_true rfl) rfl (fun ls hl => ?_)
        refine lv_iconst (v := 2) hx hb dL_assign_19 (by decide) ?_
        exact sw_ri3 hx hb hr hlocks hW rfl h dL_assign_20
      · replace h := h.2 kE1
        by_cases kE2 : E9 = "java/lang/UnsupportedOperationException"
        · replace h := h.1 kE2
          subst kE2
          refine sw_catch htab [(0, 10, 13, 25), (0, 10, 17, 15)] [] rfl hown hts (fun z hz => by
      simp only [List.mem_cons, List.not_mem_nil, or_false] at hz
      rcases hz with rfl | rfl
      · exact ⟨by decide, "java/lang/IndexOutOfBoundsException", q_429, hW.2.2.2.2.2.2.2.1.2.2 ("java/lang/UnsupportedOperationException", "java/lang/IndexOutOfBoundsException") (by decide)⟩
      · exact ⟨by decide, "java/lang/IllegalStateException", q_406, hW.2.2.2.2.2.2.2.1.2.2 ("java/lang/UnsupportedOperationException", "java/lang/IllegalStateException") (by decide)⟩) ⟨by decide, by decide⟩ (by decide) q_470 cast_UnsupportedOperationException hW f1 f2 f3 ?_
          refine lv_astore (lv' := [(4, .ref q9), (0, .ref (sw_ad g 0)), (1, .int a1), (2, .int a2), (3, .ref (sw_ad g 233))]) hx hb dL_assign_21 hl (Nat.le_of_ble_eq_true rfl) rfl (fun ls hl => ?_)
          refine lv_iconst (v := 3) hx hb dL_assign_23 (by decide) ?_
          exact sw_ri3 hx hb hr hlocks hW rfl h dL_assign_24
        · replace h := h.2 kE2
          exact h.elim
  · refine lv_i2l hx hb dL_assign_8 rfl ?_
    refine sw_ls hx hb hW (vp_in_iff.mpr (by decide)) dL_assign_9 (fun H locs hW => ?_)
    obtain ⟨o3, eo3⟩ : ∃ z : sO, z = vp_updL o ((0 : Int32)).toNatClampNeg ((r1).toInt64) := ⟨_, rfl⟩
    rw [← eo3] at hW
    have h := h o3 eo3
    refine lv_goto (tgt := 25) hx hb dL_assign_10 (by decide) ?_
    refine lv_iconst (v := 0) hx hb dL_assign_25 (by decide) ?_
    exact sw_ri3 hx hb hr hlocks hW rfl h dL_assign_26
theorem ch_L_assign : sw_cH yL_assign cL_assign 5 (some .int) [(0, 10, 13, 25), (0, 10, 17, 15), (0, 10, 21, 30)] 4 := ⟨q_469, q_1, q_1419, by decide +kernel⟩

def wL_grade (a1 : Int32) (a2 : Int32) (a3 : Int32) (M : sM) (o : sO) (d : sE) (Q : Int32 → sM → sO → sE → Prop) : Prop :=
  wX6_grade a1 a2 a3 M (fun r1 M2 => ∀ o3 : sO, o3 = vp_updL o ((0 : Int32)).toNatClampNeg ((r1).toInt64) → (Q (0 : Int32) M2 o3 d)) (fun E9 M9 => (E9 = "java/lang/IndexOutOfBoundsException" → (Q (1 : Int32) M9 o d)) ∧ (¬ E9 = "java/lang/IndexOutOfBoundsException" → ((E9 = "java/lang/IllegalArgumentException" → (Q (2 : Int32) M9 o d)) ∧ (¬ E9 = "java/lang/IllegalArgumentException" → ((E9 = "java/lang/IllegalStateException" → (Q (3 : Int32) M9 o d)) ∧ (¬ E9 = "java/lang/IllegalStateException" → (False)))))))
set_option maxRecDepth 20000 in
theorem kL_grade (l : Launch) (hst : l.stackTraces = false) (g : sG) (a1 : Int32) (a2 : Int32) (a3 : Int32) (M : sM) (o : sO) (d : sE) (Q : Int32 → sM → sO → sE → Prop) (h : wL_grade a1 a2 a3 M o d Q) : Met l yL_grade (sw_wsH yL_grade cL_grade 6 (some .int) [(0, 12, 15, 25), (0, 12, 19, 13), (0, 12, 23, 15)]) { frames := 9, cells := 1, slots := 6, locals := 159 } (va_Pc [.ref (sw_ad g 0), .int a1, .int a2, .int a3, .ref (sw_ad g 233)] (sw_Pr g o d M)) (va_Qi (fun r u => Q r u.1 u.2.1 u.2.2) (sw_Po3 g) (sw_A g)) 1 6 (sw_A g) := by
  refine sw_metH (by decide) (Nat.le_of_ble_eq_true rfl) ?_
  intro p e s m args below meth c ls hx hb hr hts hown hml hlocks htab hW hl
  have hown : s.vm.findClass RL = some m.cls := hown
  have hl : lv_has ls 6 [(0, .ref (sw_ad g 0)), (1, .int a1), (2, .int a2), (3, .int a3), (4, .ref (sw_ad g 233))] := hl
  unfold wL_grade at h
  refine lv_aload hx hb dL_grade_0 (lv_at hl 4 rfl) ?_
  refine lv_iconst (v := 0) hx hb dL_grade_2 (by decide) ?_
  refine lv_aload_n hx hb dL_grade_3 rfl (lv_at hl 0 rfl) ?_
  refine lv_iload_n hx hb dL_grade_4 rfl (lv_at hl 1 rfl) ?_
  refine lv_iload_n hx hb dL_grade_5 rfl (lv_at hl 2 rfl) ?_
  refine lv_iload_n hx hb dL_grade_6 rfl (lv_at hl 3 rfl) ?_
  refine sw_xki (rest := [.int (0 : Int32), .ref (sw_ad g 233)]) (sw_xrunV (As := [.int a1, .int a2, .int a3]) (rest := [.int (0 : Int32), .ref (sw_ad g 233)]) hx hb hml hown hts (kX6_grade l hst g o d a1 a2 a3 M _ _ h) cv_X6_grade q_484 rfl rfl ⟨(Nat.le_of_ble_eq_true rfl), (Nat.le_of_ble_eq_true rfl)⟩ hW (Nat.le_of_ble_eq_true rfl) sl_0 rfl rfl hl.1 rfl (Nat.le_of_ble_eq_true rfl) dL_grade_7 ⟨(Nat.le_of_ble_eq_true rfl), (Nat.le_of_ble_eq_true rfl)⟩) hW (fun E9 ce9 q9 M9 H locs h hW f1 f2 f3 => ?_) (fun r1 M2 H locs h hW => ?_)
  · by_cases kE0 : E9 = "java/lang/IndexOutOfBoundsException"
    · replace h := h.1 kE0
      subst kE0
      refine sw_catch htab [] [(0, 12, 19, 13), (0, 12, 23, 15)] rfl hown hts (fun z hz => nomatch hz) ⟨by decide, by decide⟩ (by decide) q_429 cast_IndexOutOfBoundsException hW f1 f2 f3 ?_
      refine lv_astore (lv' := [(5, .ref q9), (0, .ref (sw_ad g 0)), (1, .int a1), (2, .int a2), (3, .int a3), (4, .ref (sw_ad g 233))]) hx hb dL_grade_15 hl (Nat.le_of_ble_eq_true rfl) rfl (fun ls hl => ?_)
      refine lv_iconst (v := 1) hx hb dL_grade_17 (by decide) ?_
      exact sw_ri3 hx hb hr hlocks hW rfl h dL_grade_18
    · replace h := h.2 kE0
      by_cases kE1 : E9 = "java/lang/IllegalArgumentException"
      · replace h := h.1 kE1
        subst kE1
        refine sw_catch htab [(0, 12, 15, 25)] [(0, 12, 23, 15)] rfl hown hts (fun z hz => by
      simp only [List.mem_cons, List.not_mem_nil, or_false] at hz
      rcases hz with rfl
      · exact ⟨by decide, "java/lang/IndexOutOfBoundsException", q_429, hW.2.2.2.2.2.2.2.1.2.2 ("java/lang/IllegalArgumentException", "java/lang/IndexOutOfBoundsException") (by decide)⟩) ⟨by decide, by decide⟩ (by decide) q_405 cast_IllegalArgumentException hW f1 f2 f3 ?_
        refine lv_astore (lv' := [(5, .ref q9), (0, .ref (sw_ad g 0)), (1, .int a1), (2, .int a2), (3, .int a3), (4, .ref (sw_ad g 233))]) hx hb dL_grade_19 hl (Nat.le_of_ble_eq_true rfl) rfl (fun ls hl => ?_)
        refine lv_iconst (v := 2) hx hb dL_grade_21 (by decide) ?_
        exact sw_ri3 hx hb hr hlocks hW rfl h dL_grade_22
      · replace h := h.2 kE1
        by_cases kE2 : E9 = "java/lang/IllegalStateException"
        · replace h := h.1 kE2
          subst kE2
          refine sw_catch htab [(0, 12, 15, 25), (0, 12, 19, 13)] [] rfl hown hts (fun z hz => by
      simp only [List.mem_cons, List.not_mem_nil, or_false] at hz
      rcases hz with rfl | rfl
      · exact ⟨by decide, "java/lang/IndexOutOfBoundsException", q_429, hW.2.2.2.2.2.2.2.1.2.2 ("java/lang/IllegalStateException", "java/lang/IndexOutOfBoundsException") (by decide)⟩
      · exact ⟨by decide, "java/lang/IllegalArgumentException", q_405, hW.2.2.2.2.2.2.2.1.2.2 ("java/lang/IllegalStateException", "java/lang/IllegalArgumentException") (by decide)⟩) ⟨by decide, by decide⟩ (by decide) q_406 cast_IllegalStateException hW f1 f2 f3 ?_
          refine lv_astore (lv' := [(5, .ref q9), (0, .ref (sw_ad g 0)), (1, .int a1), (2, .int a2), (3, .int a3), (4, .ref (sw_ad g 233))]) hx hb dL_grade_23 hl (Nat.le_of_ble_eq_true rfl) rfl (fun ls hl => ?_)
          refine lv_iconst (v := 3) hx hb dL_grade_25 (by decide) ?_
          exact sw_ri3 hx hb hr hlocks hW rfl h dL_grade_26
        · replace h := h.2 kE2
          exact h.elim
  · refine lv_i2l hx hb dL_grade_10 rfl ?_
    refine sw_ls hx hb hW (vp_in_iff.mpr (by decide)) dL_grade_11 (fun H locs hW => ?_)
    obtain ⟨o3, eo3⟩ : ∃ z : sO, z = vp_updL o ((0 : Int32)).toNatClampNeg ((r1).toInt64) := ⟨_, rfl⟩
    rw [← eo3] at hW
    have h := h o3 eo3
    refine lv_goto (tgt := 27) hx hb dL_grade_12 (by decide) ?_
    refine lv_iconst (v := 0) hx hb dL_grade_27 (by decide) ?_
    exact sw_ri3 hx hb hr hlocks hW rfl h dL_grade_28
theorem ch_L_grade : sw_cH yL_grade cL_grade 6 (some .int) [(0, 12, 15, 25), (0, 12, 19, 13), (0, 12, 23, 15)] 5 := ⟨q_483, q_1, q_1420, by decide +kernel⟩

def wL_setThreshold (a1 : Int32) (M : sM) (o : sO) (d : sE) (Q : Int32 → sM → sO → sE → Prop) : Prop :=
  wX6_setThreshold a1 M (fun r1 M2 => ∀ o3 : sO, o3 = vp_updL o ((0 : Int32)).toNatClampNeg ((r1).toInt64) → (Q (0 : Int32) M2 o3 d)) (fun E9 M9 => (E9 = "java/lang/IllegalArgumentException" → (Q (1 : Int32) M9 o d)) ∧ (¬ E9 = "java/lang/IllegalArgumentException" → (False)))
set_option maxRecDepth 20000 in
theorem kL_setThreshold (l : Launch) (hst : l.stackTraces = false) (g : sG) (a1 : Int32) (M : sM) (o : sO) (d : sE) (Q : Int32 → sM → sO → sE → Prop) (h : wL_setThreshold a1 M o d Q) : Met l yL_setThreshold (sw_wsH yL_setThreshold cL_setThreshold 4 (some .int) [(0, 9, 12, 13)]) { frames := 9, cells := 1, slots := 6, locals := 157 } (va_Pc [.ref (sw_ad g 0), .int a1, .ref (sw_ad g 233)] (sw_Pr g o d M)) (va_Qi (fun r u => Q r u.1 u.2.1 u.2.2) (sw_Po3 g) (sw_A g)) 1 6 (sw_A g) := by
  refine sw_metH (by decide) (Nat.le_of_ble_eq_true rfl) ?_
  intro p e s m args below meth c ls hx hb hr hts hown hml hlocks htab hW hl
  have hown : s.vm.findClass RL = some m.cls := hown
  have hl : lv_has ls 4 [(0, .ref (sw_ad g 0)), (1, .int a1), (2, .ref (sw_ad g 233))] := hl
  unfold wL_setThreshold at h
  refine lv_aload_n hx hb dL_setThreshold_0 rfl (lv_at hl 2 rfl) ?_
  refine lv_iconst (v := 0) hx hb dL_setThreshold_1 (by decide) ?_
  refine lv_aload_n hx hb dL_setThreshold_2 rfl (lv_at hl 0 rfl) ?_
  refine lv_iload_n hx hb dL_setThreshold_3 rfl (lv_at hl 1 rfl) ?_
  refine sw_xki (rest := [.int (0 : Int32), .ref (sw_ad g 233)]) (sw_xrunV (As := [.int a1]) (rest := [.int (0 : Int32), .ref (sw_ad g 233)]) hx hb hml hown hts (kX6_setThreshold l hst g o d a1 M _ _ h) cv_X6_setThreshold q_498 rfl rfl ⟨(Nat.le_of_ble_eq_true rfl), (Nat.le_of_ble_eq_true rfl)⟩ hW (Nat.le_of_ble_eq_true rfl) sl_0 rfl rfl hl.1 rfl (Nat.le_of_ble_eq_true rfl) dL_setThreshold_4 ⟨(Nat.le_of_ble_eq_true rfl), (Nat.le_of_ble_eq_true rfl)⟩) hW (fun E9 ce9 q9 M9 H locs h hW f1 f2 f3 => ?_) (fun r1 M2 H locs h hW => ?_)
  · by_cases kE0 : E9 = "java/lang/IllegalArgumentException"
    · replace h := h.1 kE0
      subst kE0
      refine sw_catch htab [] [] rfl hown hts (fun z hz => nomatch hz) ⟨by decide, by decide⟩ (by decide) q_405 cast_IllegalArgumentException hW f1 f2 f3 ?_
      refine lv_astore_n (lv' := [(3, .ref q9), (0, .ref (sw_ad g 0)), (1, .int a1), (2, .ref (sw_ad g 233))]) hx hb dL_setThreshold_12 rfl hl (Nat.le_of_ble_eq_true rfl) rfl (fun ls hl => ?_)
      refine lv_iconst (v := 1) hx hb dL_setThreshold_13 (by decide) ?_
      exact sw_ri3 hx hb hr hlocks hW rfl h dL_setThreshold_14
    · replace h := h.2 kE0
      exact h.elim
  · refine lv_i2l hx hb dL_setThreshold_7 rfl ?_
    refine sw_ls hx hb hW (vp_in_iff.mpr (by decide)) dL_setThreshold_8 (fun H locs hW => ?_)
    obtain ⟨o3, eo3⟩ : ∃ z : sO, z = vp_updL o ((0 : Int32)).toNatClampNeg ((r1).toInt64) := ⟨_, rfl⟩
    rw [← eo3] at hW
    have h := h o3 eo3
    refine lv_goto (tgt := 15) hx hb dL_setThreshold_9 (by decide) ?_
    refine lv_iconst (v := 0) hx hb dL_setThreshold_15 (by decide) ?_
    exact sw_ri3 hx hb hr hlocks hW rfl h dL_setThreshold_16
theorem ch_L_setThreshold : sw_cH yL_setThreshold cL_setThreshold 4 (some .int) [(0, 9, 12, 13)] 3 := ⟨q_497, q_1, q_1421, by decide +kernel⟩

def wL_appeal (a1 : Int32) (M : sM) (o : sO) (d : sE) (Q : Int32 → sM → sO → sE → Prop) : Prop :=
  wX6_appeal a1 M (fun r1 M2 => ∀ o3 : sO, o3 = vp_updL o ((0 : Int32)).toNatClampNeg ((r1).toInt64) → (Q (0 : Int32) M2 o3 d)) (fun E9 M9 => (E9 = "java/lang/IndexOutOfBoundsException" → (Q (1 : Int32) M9 o d)) ∧ (¬ E9 = "java/lang/IndexOutOfBoundsException" → ((E9 = "java/lang/IllegalStateException" → (Q (2 : Int32) M9 o d)) ∧ (¬ E9 = "java/lang/IllegalStateException" → ((E9 = "java/lang/UnsupportedOperationException" → (Q (3 : Int32) M9 o d)) ∧ (¬ E9 = "java/lang/UnsupportedOperationException" → (False)))))))
set_option maxRecDepth 20000 in
theorem kL_appeal (l : Launch) (hst : l.stackTraces = false) (g : sG) (a1 : Int32) (M : sM) (o : sO) (d : sE) (Q : Int32 → sM → sO → sE → Prop) (h : wL_appeal a1 M o d Q) : Met l yL_appeal (sw_wsH yL_appeal cL_appeal 4 (some .int) [(0, 9, 12, 25), (0, 9, 15, 15), (0, 9, 18, 30)]) { frames := 9, cells := 1, slots := 6, locals := 157 } (va_Pc [.ref (sw_ad g 0), .int a1, .ref (sw_ad g 233)] (sw_Pr g o d M)) (va_Qi (fun r u => Q r u.1 u.2.1 u.2.2) (sw_Po3 g) (sw_A g)) 1 6 (sw_A g) := by
  refine sw_metH (by decide) (Nat.le_of_ble_eq_true rfl) ?_
  intro p e s m args below meth c ls hx hb hr hts hown hml hlocks htab hW hl
  have hown : s.vm.findClass RL = some m.cls := hown
  have hl : lv_has ls 4 [(0, .ref (sw_ad g 0)), (1, .int a1), (2, .ref (sw_ad g 233))] := hl
  unfold wL_appeal at h
  refine lv_aload_n hx hb dL_appeal_0 rfl (lv_at hl 2 rfl) ?_
  refine lv_iconst (v := 0) hx hb dL_appeal_1 (by decide) ?_
  refine lv_aload_n hx hb dL_appeal_2 rfl (lv_at hl 0 rfl) ?_
  refine lv_iload_n hx hb dL_appeal_3 rfl (lv_at hl 1 rfl) ?_
  refine sw_xki (rest := [.int (0 : Int32), .ref (sw_ad g 233)]) (sw_xrunV (As := [.int a1]) (rest := [.int (0 : Int32), .ref (sw_ad g 233)]) hx hb hml hown hts (kX6_appeal l hst g o d a1 M _ _ h) cv_X6_appeal q_508 rfl rfl ⟨(Nat.le_of_ble_eq_true rfl), (Nat.le_of_ble_eq_true rfl)⟩ hW (Nat.le_of_ble_eq_true rfl) sl_0 rfl rfl hl.1 rfl (Nat.le_of_ble_eq_true rfl) dL_appeal_4 ⟨(Nat.le_of_ble_eq_true rfl), (Nat.le_of_ble_eq_true rfl)⟩) hW (fun E9 ce9 q9 M9 H locs h hW f1 f2 f3 => ?_) (fun r1 M2 H locs h hW => ?_)
  · by_cases kE0 : E9 = "java/lang/IndexOutOfBoundsException"
    · replace h := h.1 kE0
      subst kE0
      refine sw_catch htab [] [(0, 9, 15, 15), (0, 9, 18, 30)] rfl hown hts (fun z hz => nomatch hz) ⟨by decide, by decide⟩ (by decide) q_429 cast_IndexOutOfBoundsException hW f1 f2 f3 ?_
      refine lv_astore_n (lv' := [(3, .ref q9), (0, .ref (sw_ad g 0)), (1, .int a1), (2, .ref (sw_ad g 233))]) hx hb dL_appeal_12 rfl hl (Nat.le_of_ble_eq_true rfl) rfl (fun ls hl => ?_)
      refine lv_iconst (v := 1) hx hb dL_appeal_13 (by decide) ?_
      exact sw_ri3 hx hb hr hlocks hW rfl h dL_appeal_14
    · replace h := h.2 kE0
      by_cases kE1 : E9 = "java/lang/IllegalStateException"
      · replace h := h.1 kE1
        subst kE1
        refine sw_catch htab [(0, 9, 12, 25)] [(0, 9, 18, 30)] rfl hown hts (fun z hz => by
      simp only [List.mem_cons, List.not_mem_nil, or_false] at hz
      rcases hz with rfl
      · exact ⟨by decide, "java/lang/IndexOutOfBoundsException", q_429, hW.2.2.2.2.2.2.2.1.2.2 ("java/lang/IllegalStateException", "java/lang/IndexOutOfBoundsException") (by decide)⟩) ⟨by decide, by decide⟩ (by decide) q_406 cast_IllegalStateException hW f1 f2 f3 ?_
        refine lv_astore_n (lv' := [(3, .ref q9), (0, .ref (sw_ad g 0)), (1, .int a1), (2, .ref (sw_ad g 233))]) hx hb dL_appeal_15 rfl hl (Nat.le_of_ble_eq_true rfl) rfl (fun ls hl => ?_)
        refine lv_iconst (v := 2) hx hb dL_appeal_16 (by decide) ?_
        exact sw_ri3 hx hb hr hlocks hW rfl h dL_appeal_17
      · replace h := h.2 kE1
        by_cases kE2 : E9 = "java/lang/UnsupportedOperationException"
        · replace h := h.1 kE2
          subst kE2
          refine sw_catch htab [(0, 9, 12, 25), (0, 9, 15, 15)] [] rfl hown hts (fun z hz => by
      simp only [List.mem_cons, List.not_mem_nil, or_false] at hz
      rcases hz with rfl | rfl
      · exact ⟨by decide, "java/lang/IndexOutOfBoundsException", q_429, hW.2.2.2.2.2.2.2.1.2.2 ("java/lang/UnsupportedOperationException", "java/lang/IndexOutOfBoundsException") (by decide)⟩
      · exact ⟨by decide, "java/lang/IllegalStateException", q_406, hW.2.2.2.2.2.2.2.1.2.2 ("java/lang/UnsupportedOperationException", "java/lang/IllegalStateException") (by decide)⟩) ⟨by decide, by decide⟩ (by decide) q_470 cast_UnsupportedOperationException hW f1 f2 f3 ?_
          refine lv_astore_n (lv' := [(3, .ref q9), (0, .ref (sw_ad g 0)), (1, .int a1), (2, .ref (sw_ad g 233))]) hx hb dL_appeal_18 rfl hl (Nat.le_of_ble_eq_true rfl) rfl (fun ls hl => ?_)
          refine lv_iconst (v := 3) hx hb dL_appeal_19 (by decide) ?_
          exact sw_ri3 hx hb hr hlocks hW rfl h dL_appeal_20
        · replace h := h.2 kE2
          exact h.elim
  · refine lv_i2l hx hb dL_appeal_7 rfl ?_
    refine sw_ls hx hb hW (vp_in_iff.mpr (by decide)) dL_appeal_8 (fun H locs hW => ?_)
    obtain ⟨o3, eo3⟩ : ∃ z : sO, z = vp_updL o ((0 : Int32)).toNatClampNeg ((r1).toInt64) := ⟨_, rfl⟩
    rw [← eo3] at hW
    have h := h o3 eo3
    refine lv_goto (tgt := 21) hx hb dL_appeal_9 (by decide) ?_
    refine lv_iconst (v := 0) hx hb dL_appeal_21 (by decide) ?_
    exact sw_ri3 hx hb hr hlocks hW rfl h dL_appeal_22
theorem ch_L_appeal : sw_cH yL_appeal cL_appeal 4 (some .int) [(0, 9, 12, 25), (0, 9, 15, 15), (0, 9, 18, 30)] 3 := ⟨q_507, q_1, q_1422, by decide +kernel⟩

def wL_award (a1 : Int32) (M : sM) (o : sO) (d : sE) (Q : Int32 → sM → sO → sE → Prop) : Prop :=
  wX6_award a1 M (fun r1 M2 => ∀ o3 : sO, o3 = vp_updL o ((0 : Int32)).toNatClampNeg ((r1).toInt64) → (Q (0 : Int32) M2 o3 d)) (fun E9 M9 => (E9 = "java/lang/IndexOutOfBoundsException" → (Q (1 : Int32) M9 o d)) ∧ (¬ E9 = "java/lang/IndexOutOfBoundsException" → ((E9 = "java/lang/IllegalStateException" → (Q (2 : Int32) M9 o d)) ∧ (¬ E9 = "java/lang/IllegalStateException" → ((E9 = "java/lang/UnsupportedOperationException" → (Q (3 : Int32) M9 o d)) ∧ (¬ E9 = "java/lang/UnsupportedOperationException" → (False)))))))
set_option maxRecDepth 20000 in
theorem kL_award (l : Launch) (hst : l.stackTraces = false) (g : sG) (a1 : Int32) (M : sM) (o : sO) (d : sE) (Q : Int32 → sM → sO → sE → Prop) (h : wL_award a1 M o d Q) : Met l yL_award (sw_wsH yL_award cL_award 4 (some .int) [(0, 9, 12, 25), (0, 9, 15, 15), (0, 9, 18, 30)]) { frames := 9, cells := 1, slots := 6, locals := 157 } (va_Pc [.ref (sw_ad g 0), .int a1, .ref (sw_ad g 233)] (sw_Pr g o d M)) (va_Qi (fun r u => Q r u.1 u.2.1 u.2.2) (sw_Po3 g) (sw_A g)) 1 6 (sw_A g) := by
  refine sw_metH (by decide) (Nat.le_of_ble_eq_true rfl) ?_
  intro p e s m args below meth c ls hx hb hr hts hown hml hlocks htab hW hl
  have hown : s.vm.findClass RL = some m.cls := hown
  have hl : lv_has ls 4 [(0, .ref (sw_ad g 0)), (1, .int a1), (2, .ref (sw_ad g 233))] := hl
  unfold wL_award at h
  refine lv_aload_n hx hb dL_award_0 rfl (lv_at hl 2 rfl) ?_
  refine lv_iconst (v := 0) hx hb dL_award_1 (by decide) ?_
  refine lv_aload_n hx hb dL_award_2 rfl (lv_at hl 0 rfl) ?_
  refine lv_iload_n hx hb dL_award_3 rfl (lv_at hl 1 rfl) ?_
  refine sw_xki (rest := [.int (0 : Int32), .ref (sw_ad g 233)]) (sw_xrunV (As := [.int a1]) (rest := [.int (0 : Int32), .ref (sw_ad g 233)]) hx hb hml hown hts (kX6_award l hst g o d a1 M _ _ h) cv_X6_award q_533 rfl rfl ⟨(Nat.le_of_ble_eq_true rfl), (Nat.le_of_ble_eq_true rfl)⟩ hW (Nat.le_of_ble_eq_true rfl) sl_0 rfl rfl hl.1 rfl (Nat.le_of_ble_eq_true rfl) dL_award_4 ⟨(Nat.le_of_ble_eq_true rfl), (Nat.le_of_ble_eq_true rfl)⟩) hW (fun E9 ce9 q9 M9 H locs h hW f1 f2 f3 => ?_) (fun r1 M2 H locs h hW => ?_)
  · by_cases kE0 : E9 = "java/lang/IndexOutOfBoundsException"
    · replace h := h.1 kE0
      subst kE0
      refine sw_catch htab [] [(0, 9, 15, 15), (0, 9, 18, 30)] rfl hown hts (fun z hz => nomatch hz) ⟨by decide, by decide⟩ (by decide) q_429 cast_IndexOutOfBoundsException hW f1 f2 f3 ?_
      refine lv_astore_n (lv' := [(3, .ref q9), (0, .ref (sw_ad g 0)), (1, .int a1), (2, .ref (sw_ad g 233))]) hx hb dL_award_12 rfl hl (Nat.le_of_ble_eq_true rfl) rfl (fun ls hl => ?_)
      refine lv_iconst (v := 1) hx hb dL_award_13 (by decide) ?_
      exact sw_ri3 hx hb hr hlocks hW rfl h dL_award_14
    · replace h := h.2 kE0
      by_cases kE1 : E9 = "java/lang/IllegalStateException"
      · replace h := h.1 kE1
        subst kE1
        refine sw_catch htab [(0, 9, 12, 25)] [(0, 9, 18, 30)] rfl hown hts (fun z hz => by
      simp only [List.mem_cons, List.not_mem_nil, or_false] at hz
      rcases hz with rfl
      · exact ⟨by decide, "java/lang/IndexOutOfBoundsException", q_429, hW.2.2.2.2.2.2.2.1.2.2 ("java/lang/IllegalStateException", "java/lang/IndexOutOfBoundsException") (by decide)⟩) ⟨by decide, by decide⟩ (by decide) q_406 cast_IllegalStateException hW f1 f2 f3 ?_
        refine lv_astore_n (lv' := [(3, .ref q9), (0, .ref (sw_ad g 0)), (1, .int a1), (2, .ref (sw_ad g 233))]) hx hb dL_award_15 rfl hl (Nat.le_of_ble_eq_true rfl) rfl (fun ls hl => ?_)
        refine lv_iconst (v := 2) hx hb dL_award_16 (by decide) ?_
        exact sw_ri3 hx hb hr hlocks hW rfl h dL_award_17
      · replace h := h.2 kE1
        by_cases kE2 : E9 = "java/lang/UnsupportedOperationException"
        · replace h := h.1 kE2
          subst kE2
          refine sw_catch htab [(0, 9, 12, 25), (0, 9, 15, 15)] [] rfl hown hts (fun z hz => by
      simp only [List.mem_cons, List.not_mem_nil, or_false] at hz
      rcases hz with rfl | rfl
      · exact ⟨by decide, "java/lang/IndexOutOfBoundsException", q_429, hW.2.2.2.2.2.2.2.1.2.2 ("java/lang/UnsupportedOperationException", "java/lang/IndexOutOfBoundsException") (by decide)⟩
      · exact ⟨by decide, "java/lang/IllegalStateException", q_406, hW.2.2.2.2.2.2.2.1.2.2 ("java/lang/UnsupportedOperationException", "java/lang/IllegalStateException") (by decide)⟩) ⟨by decide, by decide⟩ (by decide) q_470 cast_UnsupportedOperationException hW f1 f2 f3 ?_
          refine lv_astore_n (lv' := [(3, .ref q9), (0, .ref (sw_ad g 0)), (1, .int a1), (2, .ref (sw_ad g 233))]) hx hb dL_award_18 rfl hl (Nat.le_of_ble_eq_true rfl) rfl (fun ls hl => ?_)
          refine lv_iconst (v := 3) hx hb dL_award_19 (by decide) ?_
          exact sw_ri3 hx hb hr hlocks hW rfl h dL_award_20
        · replace h := h.2 kE2
          exact h.elim
  · refine lv_i2l hx hb dL_award_7 rfl ?_
    refine sw_ls hx hb hW (vp_in_iff.mpr (by decide)) dL_award_8 (fun H locs hW => ?_)
    obtain ⟨o3, eo3⟩ : ∃ z : sO, z = vp_updL o ((0 : Int32)).toNatClampNeg ((r1).toInt64) := ⟨_, rfl⟩
    rw [← eo3] at hW
    have h := h o3 eo3
    refine lv_goto (tgt := 21) hx hb dL_award_9 (by decide) ?_
    refine lv_iconst (v := 0) hx hb dL_award_21 (by decide) ?_
    exact sw_ri3 hx hb hr hlocks hW rfl h dL_award_22
theorem ch_L_award : sw_cH yL_award cL_award 4 (some .int) [(0, 9, 12, 25), (0, 9, 15, 15), (0, 9, 18, 30)] 3 := ⟨q_532, q_1, q_1423, by decide +kernel⟩

def wL_revoke (a1 : Int32) (M : sM) (o : sO) (d : sE) (Q : Int32 → sM → sO → sE → Prop) : Prop :=
  wX6_revoke a1 M (fun r1 M2 => ∀ o3 : sO, o3 = vp_updL o ((0 : Int32)).toNatClampNeg ((r1).toInt64) → (Q (0 : Int32) M2 o3 d)) (fun E9 M9 => (E9 = "java/util/NoSuchElementException" → (Q (1 : Int32) M9 o d)) ∧ (¬ E9 = "java/util/NoSuchElementException" → ((E9 = "java/lang/IllegalStateException" → (Q (2 : Int32) M9 o d)) ∧ (¬ E9 = "java/lang/IllegalStateException" → (False)))))
set_option maxRecDepth 20000 in
theorem kL_revoke (l : Launch) (hst : l.stackTraces = false) (g : sG) (a1 : Int32) (M : sM) (o : sO) (d : sE) (Q : Int32 → sM → sO → sE → Prop) (h : wL_revoke a1 M o d Q) : Met l yL_revoke (sw_wsH yL_revoke cL_revoke 4 (some .int) [(0, 9, 12, 49), (0, 9, 15, 15)]) { frames := 9, cells := 1, slots := 6, locals := 157 } (va_Pc [.ref (sw_ad g 0), .int a1, .ref (sw_ad g 233)] (sw_Pr g o d M)) (va_Qi (fun r u => Q r u.1 u.2.1 u.2.2) (sw_Po3 g) (sw_A g)) 1 6 (sw_A g) := by
  refine sw_metH (by decide) (Nat.le_of_ble_eq_true rfl) ?_
  intro p e s m args below meth c ls hx hb hr hts hown hml hlocks htab hW hl
  have hown : s.vm.findClass RL = some m.cls := hown
  have hl : lv_has ls 4 [(0, .ref (sw_ad g 0)), (1, .int a1), (2, .ref (sw_ad g 233))] := hl
  unfold wL_revoke at h
  refine lv_aload_n hx hb dL_revoke_0 rfl (lv_at hl 2 rfl) ?_
  refine lv_iconst (v := 0) hx hb dL_revoke_1 (by decide) ?_
  refine lv_aload_n hx hb dL_revoke_2 rfl (lv_at hl 0 rfl) ?_
  refine lv_iload_n hx hb dL_revoke_3 rfl (lv_at hl 1 rfl) ?_
  refine sw_xki (rest := [.int (0 : Int32), .ref (sw_ad g 233)]) (sw_xrunV (As := [.int a1]) (rest := [.int (0 : Int32), .ref (sw_ad g 233)]) hx hb hml hown hts (kX6_revoke l hst g o d a1 M _ _ h) cv_X6_revoke q_557 rfl rfl ⟨(Nat.le_of_ble_eq_true rfl), (Nat.le_of_ble_eq_true rfl)⟩ hW (Nat.le_of_ble_eq_true rfl) sl_0 rfl rfl hl.1 rfl (Nat.le_of_ble_eq_true rfl) dL_revoke_4 ⟨(Nat.le_of_ble_eq_true rfl), (Nat.le_of_ble_eq_true rfl)⟩) hW (fun E9 ce9 q9 M9 H locs h hW f1 f2 f3 => ?_) (fun r1 M2 H locs h hW => ?_)
  · by_cases kE0 : E9 = "java/util/NoSuchElementException"
    · replace h := h.1 kE0
      subst kE0
      refine sw_catch htab [] [(0, 9, 15, 15)] rfl hown hts (fun z hz => nomatch hz) ⟨by decide, by decide⟩ (by decide) q_556 cast_NoSuchElementException hW f1 f2 f3 ?_
      refine lv_astore_n (lv' := [(3, .ref q9), (0, .ref (sw_ad g 0)), (1, .int a1), (2, .ref (sw_ad g 233))]) hx hb dL_revoke_12 rfl hl (Nat.le_of_ble_eq_true rfl) rfl (fun ls hl => ?_)
      refine lv_iconst (v := 1) hx hb dL_revoke_13 (by decide) ?_
      exact sw_ri3 hx hb hr hlocks hW rfl h dL_revoke_14
    · replace h := h.2 kE0
      by_cases kE1 : E9 = "java/lang/IllegalStateException"
      · replace h := h.1 kE1
        subst kE1
        refine sw_catch htab [(0, 9, 12, 49)] [] rfl hown hts (fun z hz => by
      simp only [List.mem_cons, List.not_mem_nil, or_false] at hz
      rcases hz with rfl
      · exact ⟨by decide, "java/util/NoSuchElementException", q_556, hW.2.2.2.2.2.2.2.1.2.2 ("java/lang/IllegalStateException", "java/util/NoSuchElementException") (by decide)⟩) ⟨by decide, by decide⟩ (by decide) q_406 cast_IllegalStateException hW f1 f2 f3 ?_
        refine lv_astore_n (lv' := [(3, .ref q9), (0, .ref (sw_ad g 0)), (1, .int a1), (2, .ref (sw_ad g 233))]) hx hb dL_revoke_15 rfl hl (Nat.le_of_ble_eq_true rfl) rfl (fun ls hl => ?_)
        refine lv_iconst (v := 2) hx hb dL_revoke_16 (by decide) ?_
        exact sw_ri3 hx hb hr hlocks hW rfl h dL_revoke_17
      · replace h := h.2 kE1
        exact h.elim
  · refine lv_i2l hx hb dL_revoke_7 rfl ?_
    refine sw_ls hx hb hW (vp_in_iff.mpr (by decide)) dL_revoke_8 (fun H locs hW => ?_)
    obtain ⟨o3, eo3⟩ : ∃ z : sO, z = vp_updL o ((0 : Int32)).toNatClampNeg ((r1).toInt64) := ⟨_, rfl⟩
    rw [← eo3] at hW
    have h := h o3 eo3
    refine lv_goto (tgt := 18) hx hb dL_revoke_9 (by decide) ?_
    refine lv_iconst (v := 0) hx hb dL_revoke_18 (by decide) ?_
    exact sw_ri3 hx hb hr hlocks hW rfl h dL_revoke_19
theorem ch_L_revoke : sw_cH yL_revoke cL_revoke 4 (some .int) [(0, 9, 12, 49), (0, 9, 15, 15)] 3 := ⟨q_555, q_1, q_1424, by decide +kernel⟩

def wL_frameOfDoor (a1 : Int32) (M : sM) (o : sO) (d : sE) (Q : Int32 → sM → sO → sE → Prop) : Prop :=
  wX6_frameOfDoor a1 M (fun r1 => ∀ o2 : sO, o2 = vp_updL o ((0 : Int32)).toNatClampNeg ((r1).toInt64) → (Q (0 : Int32) M o2 d)) (fun E9 => (E9 = "java/lang/IndexOutOfBoundsException" → (Q (1 : Int32) M o d)) ∧ (¬ E9 = "java/lang/IndexOutOfBoundsException" → (False)))
set_option maxRecDepth 20000 in
theorem kL_frameOfDoor (l : Launch) (hst : l.stackTraces = false) (g : sG) (a1 : Int32) (M : sM) (o : sO) (d : sE) (Q : Int32 → sM → sO → sE → Prop) (h : wL_frameOfDoor a1 M o d Q) : Met l yL_frameOfDoor (sw_wsH yL_frameOfDoor cL_frameOfDoor 4 (some .int) [(0, 9, 12, 25)]) { frames := 8, cells := 1, slots := 6, locals := 137 } (va_Pc [.ref (sw_ad g 0), .int a1, .ref (sw_ad g 233)] (sw_Pr g o d M)) (va_Qi (fun r u => Q r u.1 u.2.1 u.2.2) (sw_Po3 g) (sw_A g)) 1 6 (sw_A g) := by
  refine sw_metH (by decide) (Nat.le_of_ble_eq_true rfl) ?_
  intro p e s m args below meth c ls hx hb hr hts hown hml hlocks htab hW hl
  have hown : s.vm.findClass RL = some m.cls := hown
  have hl : lv_has ls 4 [(0, .ref (sw_ad g 0)), (1, .int a1), (2, .ref (sw_ad g 233))] := hl
  unfold wL_frameOfDoor at h
  refine lv_aload_n hx hb dL_frameOfDoor_0 rfl (lv_at hl 2 rfl) ?_
  refine lv_iconst (v := 0) hx hb dL_frameOfDoor_1 (by decide) ?_
  refine lv_aload_n hx hb dL_frameOfDoor_2 rfl (lv_at hl 0 rfl) ?_
  refine lv_iload_n hx hb dL_frameOfDoor_3 rfl (lv_at hl 1 rfl) ?_
  refine sw_xki (rest := [.int (0 : Int32), .ref (sw_ad g 233)]) (sw_xrunV (As := [.int a1]) (rest := [.int (0 : Int32), .ref (sw_ad g 233)]) hx hb hml hown hts (kX6_frameOfDoor l hst g o d a1 M _ _ h) cv_X6_frameOfDoor q_571 rfl rfl ⟨(Nat.le_of_ble_eq_true rfl), (Nat.le_of_ble_eq_true rfl)⟩ hW (Nat.le_of_ble_eq_true rfl) sl_0 rfl rfl hl.1 rfl (Nat.le_of_ble_eq_true rfl) dL_frameOfDoor_4 ⟨(Nat.le_of_ble_eq_true rfl), (Nat.le_of_ble_eq_true rfl)⟩) hW (fun E9 ce9 q9 M9 H locs h hW f1 f2 f3 => ?_) (fun r1 M3 H locs h hW => ?_)
  · obtain ⟨h, e9⟩ := h
    rw [e9] at hW
    by_cases kE0 : E9 = "java/lang/IndexOutOfBoundsException"
    · replace h := h.1 kE0
      subst kE0
      refine sw_catch htab [] [] rfl hown hts (fun z hz => nomatch hz) ⟨by decide, by decide⟩ (by decide) q_429 cast_IndexOutOfBoundsException hW f1 f2 f3 ?_
      refine lv_astore_n (lv' := [(3, .ref q9), (0, .ref (sw_ad g 0)), (1, .int a1), (2, .ref (sw_ad g 233))]) hx hb dL_frameOfDoor_12 rfl hl (Nat.le_of_ble_eq_true rfl) rfl (fun ls hl => ?_)
      refine lv_iconst (v := 1) hx hb dL_frameOfDoor_13 (by decide) ?_
      exact sw_ri3 hx hb hr hlocks hW rfl h dL_frameOfDoor_14
    · replace h := h.2 kE0
      exact h.elim
  · obtain ⟨h, eM3⟩ := h
    rw [eM3] at hW
    refine lv_i2l hx hb dL_frameOfDoor_7 rfl ?_
    refine sw_ls hx hb hW (vp_in_iff.mpr (by decide)) dL_frameOfDoor_8 (fun H locs hW => ?_)
    obtain ⟨o2, eo2⟩ : ∃ z : sO, z = vp_updL o ((0 : Int32)).toNatClampNeg ((r1).toInt64) := ⟨_, rfl⟩
    rw [← eo2] at hW
    have h := h o2 eo2
    refine lv_goto (tgt := 15) hx hb dL_frameOfDoor_9 (by decide) ?_
    refine lv_iconst (v := 0) hx hb dL_frameOfDoor_15 (by decide) ?_
    exact sw_ri3 hx hb hr hlocks hW rfl h dL_frameOfDoor_16
theorem ch_L_frameOfDoor : sw_cH yL_frameOfDoor cL_frameOfDoor 4 (some .int) [(0, 9, 12, 25)] 3 := ⟨q_570, q_1, q_1425, by decide +kernel⟩

def wL_topic (a1 : Int32) (M : sM) (o : sO) (d : sE) (Q : Int32 → sM → sO → sE → Prop) : Prop :=
  wX6_topic a1 M (fun r1 => ∀ o2 : sO, o2 = vp_updL o ((0 : Int32)).toNatClampNeg ((r1).toInt64) → (Q (0 : Int32) M o2 d)) (fun E9 => (E9 = "java/lang/IndexOutOfBoundsException" → (Q (1 : Int32) M o d)) ∧ (¬ E9 = "java/lang/IndexOutOfBoundsException" → (False)))
set_option maxRecDepth 20000 in
theorem kL_topic (l : Launch) (hst : l.stackTraces = false) (g : sG) (a1 : Int32) (M : sM) (o : sO) (d : sE) (Q : Int32 → sM → sO → sE → Prop) (h : wL_topic a1 M o d Q) : Met l yL_topic (sw_wsH yL_topic cL_topic 4 (some .int) [(0, 9, 12, 25)]) { frames := 8, cells := 1, slots := 6, locals := 137 } (va_Pc [.ref (sw_ad g 0), .int a1, .ref (sw_ad g 233)] (sw_Pr g o d M)) (va_Qi (fun r u => Q r u.1 u.2.1 u.2.2) (sw_Po3 g) (sw_A g)) 1 6 (sw_A g) := by
  refine sw_metH (by decide) (Nat.le_of_ble_eq_true rfl) ?_
  intro p e s m args below meth c ls hx hb hr hts hown hml hlocks htab hW hl
  have hown : s.vm.findClass RL = some m.cls := hown
  have hl : lv_has ls 4 [(0, .ref (sw_ad g 0)), (1, .int a1), (2, .ref (sw_ad g 233))] := hl
  unfold wL_topic at h
  refine lv_aload_n hx hb dL_topic_0 rfl (lv_at hl 2 rfl) ?_
  refine lv_iconst (v := 0) hx hb dL_topic_1 (by decide) ?_
  refine lv_aload_n hx hb dL_topic_2 rfl (lv_at hl 0 rfl) ?_
  refine lv_iload_n hx hb dL_topic_3 rfl (lv_at hl 1 rfl) ?_
  refine sw_xki (rest := [.int (0 : Int32), .ref (sw_ad g 233)]) (sw_xrunV (As := [.int a1]) (rest := [.int (0 : Int32), .ref (sw_ad g 233)]) hx hb hml hown hts (kX6_topic l hst g o d a1 M _ _ h) cv_X6_topic q_581 rfl rfl ⟨(Nat.le_of_ble_eq_true rfl), (Nat.le_of_ble_eq_true rfl)⟩ hW (Nat.le_of_ble_eq_true rfl) sl_0 rfl rfl hl.1 rfl (Nat.le_of_ble_eq_true rfl) dL_topic_4 ⟨(Nat.le_of_ble_eq_true rfl), (Nat.le_of_ble_eq_true rfl)⟩) hW (fun E9 ce9 q9 M9 H locs h hW f1 f2 f3 => ?_) (fun r1 M3 H locs h hW => ?_)
  · obtain ⟨h, e9⟩ := h
    rw [e9] at hW
    by_cases kE0 : E9 = "java/lang/IndexOutOfBoundsException"
    · replace h := h.1 kE0
      subst kE0
      refine sw_catch htab [] [] rfl hown hts (fun z hz => nomatch hz) ⟨by decide, by decide⟩ (by decide) q_429 cast_IndexOutOfBoundsException hW f1 f2 f3 ?_
      refine lv_astore_n (lv' := [(3, .ref q9), (0, .ref (sw_ad g 0)), (1, .int a1), (2, .ref (sw_ad g 233))]) hx hb dL_topic_12 rfl hl (Nat.le_of_ble_eq_true rfl) rfl (fun ls hl => ?_)
      refine lv_iconst (v := 1) hx hb dL_topic_13 (by decide) ?_
      exact sw_ri3 hx hb hr hlocks hW rfl h dL_topic_14
    · replace h := h.2 kE0
      exact h.elim
  · obtain ⟨h, eM3⟩ := h
    rw [eM3] at hW
    refine lv_i2l hx hb dL_topic_7 rfl ?_
    refine sw_ls hx hb hW (vp_in_iff.mpr (by decide)) dL_topic_8 (fun H locs hW => ?_)
    obtain ⟨o2, eo2⟩ : ∃ z : sO, z = vp_updL o ((0 : Int32)).toNatClampNeg ((r1).toInt64) := ⟨_, rfl⟩
    rw [← eo2] at hW
    have h := h o2 eo2
    refine lv_goto (tgt := 15) hx hb dL_topic_9 (by decide) ?_
    refine lv_iconst (v := 0) hx hb dL_topic_15 (by decide) ?_
    exact sw_ri3 hx hb hr hlocks hW rfl h dL_topic_16
theorem ch_L_topic : sw_cH yL_topic cL_topic 4 (some .int) [(0, 9, 12, 25)] 3 := ⟨q_580, q_1, q_1426, by decide +kernel⟩

def wL_examinersOf (a1 : Int32) (M : sM) (o : sO) (d : sE) (Q : Int32 → sM → sO → sE → Prop) : Prop :=
  wX6_examinersOf a1 M (fun r1 => ∀ o2 : sO, o2 = vp_updL o ((0 : Int32)).toNatClampNeg ((r1).toInt64) → (Q (0 : Int32) M o2 d)) (fun E9 => (E9 = "java/lang/IndexOutOfBoundsException" → (Q (1 : Int32) M o d)) ∧ (¬ E9 = "java/lang/IndexOutOfBoundsException" → (False)))
set_option maxRecDepth 20000 in
theorem kL_examinersOf (l : Launch) (hst : l.stackTraces = false) (g : sG) (a1 : Int32) (M : sM) (o : sO) (d : sE) (Q : Int32 → sM → sO → sE → Prop) (h : wL_examinersOf a1 M o d Q) : Met l yL_examinersOf (sw_wsH yL_examinersOf cL_examinersOf 4 (some .int) [(0, 9, 12, 25)]) { frames := 8, cells := 1, slots := 6, locals := 137 } (va_Pc [.ref (sw_ad g 0), .int a1, .ref (sw_ad g 233)] (sw_Pr g o d M)) (va_Qi (fun r u => Q r u.1 u.2.1 u.2.2) (sw_Po3 g) (sw_A g)) 1 6 (sw_A g) := by
  refine sw_metH (by decide) (Nat.le_of_ble_eq_true rfl) ?_
  intro p e s m args below meth c ls hx hb hr hts hown hml hlocks htab hW hl
  have hown : s.vm.findClass RL = some m.cls := hown
  have hl : lv_has ls 4 [(0, .ref (sw_ad g 0)), (1, .int a1), (2, .ref (sw_ad g 233))] := hl
  unfold wL_examinersOf at h
  refine lv_aload_n hx hb dL_examinersOf_0 rfl (lv_at hl 2 rfl) ?_
  refine lv_iconst (v := 0) hx hb dL_examinersOf_1 (by decide) ?_
  refine lv_aload_n hx hb dL_examinersOf_2 rfl (lv_at hl 0 rfl) ?_
  refine lv_iload_n hx hb dL_examinersOf_3 rfl (lv_at hl 1 rfl) ?_
  refine sw_xki (rest := [.int (0 : Int32), .ref (sw_ad g 233)]) (sw_xrunV (As := [.int a1]) (rest := [.int (0 : Int32), .ref (sw_ad g 233)]) hx hb hml hown hts (kX6_examinersOf l hst g o d a1 M _ _ h) cv_X6_examinersOf q_587 rfl rfl ⟨(Nat.le_of_ble_eq_true rfl), (Nat.le_of_ble_eq_true rfl)⟩ hW (Nat.le_of_ble_eq_true rfl) sl_0 rfl rfl hl.1 rfl (Nat.le_of_ble_eq_true rfl) dL_examinersOf_4 ⟨(Nat.le_of_ble_eq_true rfl), (Nat.le_of_ble_eq_true rfl)⟩) hW (fun E9 ce9 q9 M9 H locs h hW f1 f2 f3 => ?_) (fun r1 M3 H locs h hW => ?_)
  · obtain ⟨h, e9⟩ := h
    rw [e9] at hW
    by_cases kE0 : E9 = "java/lang/IndexOutOfBoundsException"
    · replace h := h.1 kE0
      subst kE0
      refine sw_catch htab [] [] rfl hown hts (fun z hz => nomatch hz) ⟨by decide, by decide⟩ (by decide) q_429 cast_IndexOutOfBoundsException hW f1 f2 f3 ?_
      refine lv_astore_n (lv' := [(3, .ref q9), (0, .ref (sw_ad g 0)), (1, .int a1), (2, .ref (sw_ad g 233))]) hx hb dL_examinersOf_12 rfl hl (Nat.le_of_ble_eq_true rfl) rfl (fun ls hl => ?_)
      refine lv_iconst (v := 1) hx hb dL_examinersOf_13 (by decide) ?_
      exact sw_ri3 hx hb hr hlocks hW rfl h dL_examinersOf_14
    · replace h := h.2 kE0
      exact h.elim
  · obtain ⟨h, eM3⟩ := h
    rw [eM3] at hW
    refine lv_i2l hx hb dL_examinersOf_7 rfl ?_
    refine sw_ls hx hb hW (vp_in_iff.mpr (by decide)) dL_examinersOf_8 (fun H locs hW => ?_)
    obtain ⟨o2, eo2⟩ : ∃ z : sO, z = vp_updL o ((0 : Int32)).toNatClampNeg ((r1).toInt64) := ⟨_, rfl⟩
    rw [← eo2] at hW
    have h := h o2 eo2
    refine lv_goto (tgt := 15) hx hb dL_examinersOf_9 (by decide) ?_
    refine lv_iconst (v := 0) hx hb dL_examinersOf_15 (by decide) ?_
    exact sw_ri3 hx hb hr hlocks hW rfl h dL_examinersOf_16
theorem ch_L_examinersOf : sw_cH yL_examinersOf cL_examinersOf 4 (some .int) [(0, 9, 12, 25)] 3 := ⟨q_586, q_1, q_1427, by decide +kernel⟩

def wL_gradesOf (a1 : Int32) (M : sM) (o : sO) (d : sE) (Q : Int32 → sM → sO → sE → Prop) : Prop :=
  wX6_gradesOf a1 M (fun r1 => ∀ o2 : sO, o2 = vp_updL o ((0 : Int32)).toNatClampNeg ((r1).toInt64) → (Q (0 : Int32) M o2 d)) (fun E9 => (E9 = "java/lang/IndexOutOfBoundsException" → (Q (1 : Int32) M o d)) ∧ (¬ E9 = "java/lang/IndexOutOfBoundsException" → (False)))
set_option maxRecDepth 20000 in
theorem kL_gradesOf (l : Launch) (hst : l.stackTraces = false) (g : sG) (a1 : Int32) (M : sM) (o : sO) (d : sE) (Q : Int32 → sM → sO → sE → Prop) (h : wL_gradesOf a1 M o d Q) : Met l yL_gradesOf (sw_wsH yL_gradesOf cL_gradesOf 4 (some .int) [(0, 9, 12, 25)]) { frames := 8, cells := 1, slots := 6, locals := 137 } (va_Pc [.ref (sw_ad g 0), .int a1, .ref (sw_ad g 233)] (sw_Pr g o d M)) (va_Qi (fun r u => Q r u.1 u.2.1 u.2.2) (sw_Po3 g) (sw_A g)) 1 6 (sw_A g) := by
  refine sw_metH (by decide) (Nat.le_of_ble_eq_true rfl) ?_
  intro p e s m args below meth c ls hx hb hr hts hown hml hlocks htab hW hl
  have hown : s.vm.findClass RL = some m.cls := hown
  have hl : lv_has ls 4 [(0, .ref (sw_ad g 0)), (1, .int a1), (2, .ref (sw_ad g 233))] := hl
  unfold wL_gradesOf at h
  refine lv_aload_n hx hb dL_gradesOf_0 rfl (lv_at hl 2 rfl) ?_
  refine lv_iconst (v := 0) hx hb dL_gradesOf_1 (by decide) ?_
  refine lv_aload_n hx hb dL_gradesOf_2 rfl (lv_at hl 0 rfl) ?_
  refine lv_iload_n hx hb dL_gradesOf_3 rfl (lv_at hl 1 rfl) ?_
  refine sw_xki (rest := [.int (0 : Int32), .ref (sw_ad g 233)]) (sw_xrunV (As := [.int a1]) (rest := [.int (0 : Int32), .ref (sw_ad g 233)]) hx hb hml hown hts (kX6_gradesOf l hst g o d a1 M _ _ h) cv_X6_gradesOf q_593 rfl rfl ⟨(Nat.le_of_ble_eq_true rfl), (Nat.le_of_ble_eq_true rfl)⟩ hW (Nat.le_of_ble_eq_true rfl) sl_0 rfl rfl hl.1 rfl (Nat.le_of_ble_eq_true rfl) dL_gradesOf_4 ⟨(Nat.le_of_ble_eq_true rfl), (Nat.le_of_ble_eq_true rfl)⟩) hW (fun E9 ce9 q9 M9 H locs h hW f1 f2 f3 => ?_) (fun r1 M3 H locs h hW => ?_)
  · obtain ⟨h, e9⟩ := h
    rw [e9] at hW
    by_cases kE0 : E9 = "java/lang/IndexOutOfBoundsException"
    · replace h := h.1 kE0
      subst kE0
      refine sw_catch htab [] [] rfl hown hts (fun z hz => nomatch hz) ⟨by decide, by decide⟩ (by decide) q_429 cast_IndexOutOfBoundsException hW f1 f2 f3 ?_
      refine lv_astore_n (lv' := [(3, .ref q9), (0, .ref (sw_ad g 0)), (1, .int a1), (2, .ref (sw_ad g 233))]) hx hb dL_gradesOf_12 rfl hl (Nat.le_of_ble_eq_true rfl) rfl (fun ls hl => ?_)
      refine lv_iconst (v := 1) hx hb dL_gradesOf_13 (by decide) ?_
      exact sw_ri3 hx hb hr hlocks hW rfl h dL_gradesOf_14
    · replace h := h.2 kE0
      exact h.elim
  · obtain ⟨h, eM3⟩ := h
    rw [eM3] at hW
    refine lv_i2l hx hb dL_gradesOf_7 rfl ?_
    refine sw_ls hx hb hW (vp_in_iff.mpr (by decide)) dL_gradesOf_8 (fun H locs hW => ?_)
    obtain ⟨o2, eo2⟩ : ∃ z : sO, z = vp_updL o ((0 : Int32)).toNatClampNeg ((r1).toInt64) := ⟨_, rfl⟩
    rw [← eo2] at hW
    have h := h o2 eo2
    refine lv_goto (tgt := 15) hx hb dL_gradesOf_9 (by decide) ?_
    refine lv_iconst (v := 0) hx hb dL_gradesOf_15 (by decide) ?_
    exact sw_ri3 hx hb hr hlocks hW rfl h dL_gradesOf_16
theorem ch_L_gradesOf : sw_cH yL_gradesOf cL_gradesOf 4 (some .int) [(0, 9, 12, 25)] 3 := ⟨q_592, q_1, q_1428, by decide +kernel⟩

def wL_result (a1 : Int32) (M : sM) (o : sO) (d : sE) (Q : Int32 → sM → sO → sE → Prop) : Prop :=
  wX6_result a1 M (fun r1 => ∀ o2 : sO, o2 = vp_updL o ((0 : Int32)).toNatClampNeg ((r1).toInt64) → (Q (0 : Int32) M o2 d)) (fun E9 => (E9 = "java/lang/IndexOutOfBoundsException" → (Q (1 : Int32) M o d)) ∧ (¬ E9 = "java/lang/IndexOutOfBoundsException" → ((E9 = "java/util/NoSuchElementException" → (Q (2 : Int32) M o d)) ∧ (¬ E9 = "java/util/NoSuchElementException" → (False)))))
set_option maxRecDepth 20000 in
theorem kL_result (l : Launch) (hst : l.stackTraces = false) (g : sG) (a1 : Int32) (M : sM) (o : sO) (d : sE) (Q : Int32 → sM → sO → sE → Prop) (h : wL_result a1 M o d Q) : Met l yL_result (sw_wsH yL_result cL_result 4 (some .int) [(0, 9, 12, 25), (0, 9, 15, 49)]) { frames := 8, cells := 2, slots := 12, locals := 137 } (va_Pc [.ref (sw_ad g 0), .int a1, .ref (sw_ad g 233)] (sw_Pr g o d M)) (va_Qi (fun r u => Q r u.1 u.2.1 u.2.2) (sw_Po3 g) (sw_A g)) 2 12 (sw_A g) := by
  refine sw_metH (by decide) (Nat.le_of_ble_eq_true rfl) ?_
  intro p e s m args below meth c ls hx hb hr hts hown hml hlocks htab hW hl
  have hown : s.vm.findClass RL = some m.cls := hown
  have hl : lv_has ls 4 [(0, .ref (sw_ad g 0)), (1, .int a1), (2, .ref (sw_ad g 233))] := hl
  unfold wL_result at h
  refine lv_aload_n hx hb dL_result_0 rfl (lv_at hl 2 rfl) ?_
  refine lv_iconst (v := 0) hx hb dL_result_1 (by decide) ?_
  refine lv_aload_n hx hb dL_result_2 rfl (lv_at hl 0 rfl) ?_
  refine lv_iload_n hx hb dL_result_3 rfl (lv_at hl 1 rfl) ?_
  refine sw_xki (rest := [.int (0 : Int32), .ref (sw_ad g 233)]) (sw_xrunV (As := [.int a1]) (rest := [.int (0 : Int32), .ref (sw_ad g 233)]) hx hb hml hown hts (kX6_result l hst g o d a1 M _ _ h) cv_X6_result q_600 rfl rfl ⟨(Nat.le_of_ble_eq_true rfl), (Nat.le_of_ble_eq_true rfl)⟩ hW (Nat.le_of_ble_eq_true rfl) sl_0 rfl rfl hl.1 rfl (Nat.le_of_ble_eq_true rfl) dL_result_4 ⟨(Nat.le_of_ble_eq_true rfl), (Nat.le_of_ble_eq_true rfl)⟩) hW (fun E9 ce9 q9 M9 H locs h hW f1 f2 f3 => ?_) (fun r1 M3 H locs h hW => ?_)
  · obtain ⟨h, e9⟩ := h
    rw [e9] at hW
    by_cases kE0 : E9 = "java/lang/IndexOutOfBoundsException"
    · replace h := h.1 kE0
      subst kE0
      refine sw_catch htab [] [(0, 9, 15, 49)] rfl hown hts (fun z hz => nomatch hz) ⟨by decide, by decide⟩ (by decide) q_429 cast_IndexOutOfBoundsException hW f1 f2 f3 ?_
      refine lv_astore_n (lv' := [(3, .ref q9), (0, .ref (sw_ad g 0)), (1, .int a1), (2, .ref (sw_ad g 233))]) hx hb dL_result_12 rfl hl (Nat.le_of_ble_eq_true rfl) rfl (fun ls hl => ?_)
      refine lv_iconst (v := 1) hx hb dL_result_13 (by decide) ?_
      exact sw_ri3 hx hb hr hlocks hW rfl h dL_result_14
    · replace h := h.2 kE0
      by_cases kE1 : E9 = "java/util/NoSuchElementException"
      · replace h := h.1 kE1
        subst kE1
        refine sw_catch htab [(0, 9, 12, 25)] [] rfl hown hts (fun z hz => by
      simp only [List.mem_cons, List.not_mem_nil, or_false] at hz
      rcases hz with rfl
      · exact ⟨by decide, "java/lang/IndexOutOfBoundsException", q_429, hW.2.2.2.2.2.2.2.1.2.2 ("java/util/NoSuchElementException", "java/lang/IndexOutOfBoundsException") (by decide)⟩) ⟨by decide, by decide⟩ (by decide) q_556 cast_NoSuchElementException hW f1 f2 f3 ?_
        refine lv_astore_n (lv' := [(3, .ref q9), (0, .ref (sw_ad g 0)), (1, .int a1), (2, .ref (sw_ad g 233))]) hx hb dL_result_15 rfl hl (Nat.le_of_ble_eq_true rfl) rfl (fun ls hl => ?_)
        refine lv_iconst (v := 2) hx hb dL_result_16 (by decide) ?_
        exact sw_ri3 hx hb hr hlocks hW rfl h dL_result_17
      · replace h := h.2 kE1
        exact h.elim
  · obtain ⟨h, eM3⟩ := h
    rw [eM3] at hW
    refine lv_i2l hx hb dL_result_7 rfl ?_
    refine sw_ls hx hb hW (vp_in_iff.mpr (by decide)) dL_result_8 (fun H locs hW => ?_)
    obtain ⟨o2, eo2⟩ : ∃ z : sO, z = vp_updL o ((0 : Int32)).toNatClampNeg ((r1).toInt64) := ⟨_, rfl⟩
    rw [← eo2] at hW
    have h := h o2 eo2
    refine lv_goto (tgt := 18) hx hb dL_result_9 (by decide) ?_
    refine lv_iconst (v := 0) hx hb dL_result_18 (by decide) ?_
    exact sw_ri3 hx hb hr hlocks hW rfl h dL_result_19
theorem ch_L_result : sw_cH yL_result cL_result 4 (some .int) [(0, 9, 12, 25), (0, 9, 15, 49)] 3 := ⟨q_599, q_1, q_1429, by decide +kernel⟩

def wL_passes (a1 : Int32) (M : sM) (o : sO) (d : sE) (Q : Int32 → sM → sO → sE → Prop) : Prop :=
  wX6_passes a1 M (fun r1 => (r1 = 0 → (∀ o3 : sO, o3 = vp_updL o ((0 : Int32)).toNatClampNeg ((0 : Int64)) → (Q (0 : Int32) M o3 d))) ∧ (¬ r1 = 0 → (∀ o4 : sO, o4 = vp_updL o ((0 : Int32)).toNatClampNeg ((1 : Int64)) → (Q (0 : Int32) M o4 d)))) (fun E9 => (E9 = "java/lang/IndexOutOfBoundsException" → (Q (1 : Int32) M o d)) ∧ (¬ E9 = "java/lang/IndexOutOfBoundsException" → (False)))
set_option maxRecDepth 20000 in
theorem kL_passes (l : Launch) (hst : l.stackTraces = false) (g : sG) (a1 : Int32) (M : sM) (o : sO) (d : sE) (Q : Int32 → sM → sO → sE → Prop) (h : wL_passes a1 M o d Q) : Met l yL_passes (sw_wsH yL_passes cL_passes 4 (some .int) [(0, 16, 19, 25)]) { frames := 8, cells := 1, slots := 6, locals := 137 } (va_Pc [.ref (sw_ad g 0), .int a1, .ref (sw_ad g 233)] (sw_Pr g o d M)) (va_Qi (fun r u => Q r u.1 u.2.1 u.2.2) (sw_Po3 g) (sw_A g)) 1 6 (sw_A g) := by
  refine sw_metH (by decide) (Nat.le_of_ble_eq_true rfl) ?_
  intro p e s m args below meth c ls hx hb hr hts hown hml hlocks htab hW hl
  have hown : s.vm.findClass RL = some m.cls := hown
  have hl : lv_has ls 4 [(0, .ref (sw_ad g 0)), (1, .int a1), (2, .ref (sw_ad g 233))] := hl
  unfold wL_passes at h
  refine lv_aload_n hx hb dL_passes_0 rfl (lv_at hl 2 rfl) ?_
  refine lv_iconst (v := 0) hx hb dL_passes_1 (by decide) ?_
  refine lv_aload_n hx hb dL_passes_2 rfl (lv_at hl 0 rfl) ?_
  refine lv_iload_n hx hb dL_passes_3 rfl (lv_at hl 1 rfl) ?_
  refine sw_xki (rest := [.int (0 : Int32), .ref (sw_ad g 233)]) (sw_xrunV (As := [.int a1]) (rest := [.int (0 : Int32), .ref (sw_ad g 233)]) hx hb hml hown hts (kX6_passes l hst g o d a1 M _ _ h) cv_X6_passes q_610 rfl rfl ⟨(Nat.le_of_ble_eq_true rfl), (Nat.le_of_ble_eq_true rfl)⟩ hW (Nat.le_of_ble_eq_true rfl) sl_0 rfl rfl hl.1 rfl (Nat.le_of_ble_eq_true rfl) dL_passes_4 ⟨(Nat.le_of_ble_eq_true rfl), (Nat.le_of_ble_eq_true rfl)⟩) hW (fun E9 ce9 q9 M9 H locs h hW f1 f2 f3 => ?_) (fun r1 M5 H locs h hW => ?_)
  · obtain ⟨h, e9⟩ := h
    rw [e9] at hW
    by_cases kE0 : E9 = "java/lang/IndexOutOfBoundsException"
    · replace h := h.1 kE0
      subst kE0
      refine sw_catch htab [] [] rfl hown hts (fun z hz => nomatch hz) ⟨by decide, by decide⟩ (by decide) q_429 cast_IndexOutOfBoundsException hW f1 f2 f3 ?_
      refine lv_astore_n (lv' := [(3, .ref q9), (0, .ref (sw_ad g 0)), (1, .int a1), (2, .ref (sw_ad g 233))]) hx hb dL_passes_19 rfl hl (Nat.le_of_ble_eq_true rfl) rfl (fun ls hl => ?_)
      refine lv_iconst (v := 1) hx hb dL_passes_20 (by decide) ?_
      exact sw_ri3 hx hb hr hlocks hW rfl h dL_passes_21
    · replace h := h.2 kE0
      exact h.elim
  · obtain ⟨h, eM5⟩ := h
    rw [eM5] at hW
    refine lv_if_eq (tgt := 14) hx hb dL_passes_7 (by decide) (fun k2 => ?_) (fun k2 => ?_)
    · have h := h.1 k2
      refine lv_lconst (v := 0) hx hb dL_passes_14 (by decide) ?_
      refine sw_ls hx hb hW (vp_in_iff.mpr (by decide)) dL_passes_15 (fun H locs hW => ?_)
      obtain ⟨o3, eo3⟩ : ∃ z : sO, z = vp_updL o ((0 : Int32)).toNatClampNeg ((0 : Int64)) := ⟨_, rfl⟩
      rw [← eo3] at hW
      have h := h o3 eo3
      refine lv_goto (tgt := 22) hx hb dL_passes_16 (by decide) ?_
      refine lv_iconst (v := 0) hx hb dL_passes_22 (by decide) ?_
      exact sw_ri3 hx hb hr hlocks hW rfl h dL_passes_23
    · have h := h.2 k2
      refine lv_lconst (v := 1) hx hb dL_passes_10 (by decide) ?_
      refine lv_goto (tgt := 15) hx hb dL_passes_11 (by decide) ?_
      refine sw_ls hx hb hW (vp_in_iff.mpr (by decide)) dL_passes_15 (fun H locs hW => ?_)
      obtain ⟨o4, eo4⟩ : ∃ z : sO, z = vp_updL o ((0 : Int32)).toNatClampNeg ((1 : Int64)) := ⟨_, rfl⟩
      rw [← eo4] at hW
      have h := h o4 eo4
      refine lv_goto (tgt := 22) hx hb dL_passes_16 (by decide) ?_
      refine lv_iconst (v := 0) hx hb dL_passes_22 (by decide) ?_
      exact sw_ri3 hx hb hr hlocks hW rfl h dL_passes_23
theorem ch_L_passes : sw_cH yL_passes cL_passes 4 (some .int) [(0, 16, 19, 25)] 3 := ⟨q_609, q_1, q_1430, by decide +kernel⟩

def wL_wasGranted (a1 : Int32) (M : sM) (o : sO) (d : sE) (Q : Int32 → sM → sO → sE → Prop) : Prop :=
  wX6_wasGranted a1 M (fun r1 => (r1 = 0 → (∀ o3 : sO, o3 = vp_updL o ((0 : Int32)).toNatClampNeg ((0 : Int64)) → (Q (0 : Int32) M o3 d))) ∧ (¬ r1 = 0 → (∀ o4 : sO, o4 = vp_updL o ((0 : Int32)).toNatClampNeg ((1 : Int64)) → (Q (0 : Int32) M o4 d)))) (fun E9 => (E9 = "java/lang/IndexOutOfBoundsException" → (Q (1 : Int32) M o d)) ∧ (¬ E9 = "java/lang/IndexOutOfBoundsException" → (False)))
set_option maxRecDepth 20000 in
theorem kL_wasGranted (l : Launch) (hst : l.stackTraces = false) (g : sG) (a1 : Int32) (M : sM) (o : sO) (d : sE) (Q : Int32 → sM → sO → sE → Prop) (h : wL_wasGranted a1 M o d Q) : Met l yL_wasGranted (sw_wsH yL_wasGranted cL_wasGranted 4 (some .int) [(0, 16, 19, 25)]) { frames := 8, cells := 1, slots := 6, locals := 137 } (va_Pc [.ref (sw_ad g 0), .int a1, .ref (sw_ad g 233)] (sw_Pr g o d M)) (va_Qi (fun r u => Q r u.1 u.2.1 u.2.2) (sw_Po3 g) (sw_A g)) 1 6 (sw_A g) := by
  refine sw_metH (by decide) (Nat.le_of_ble_eq_true rfl) ?_
  intro p e s m args below meth c ls hx hb hr hts hown hml hlocks htab hW hl
  have hown : s.vm.findClass RL = some m.cls := hown
  have hl : lv_has ls 4 [(0, .ref (sw_ad g 0)), (1, .int a1), (2, .ref (sw_ad g 233))] := hl
  unfold wL_wasGranted at h
  refine lv_aload_n hx hb dL_wasGranted_0 rfl (lv_at hl 2 rfl) ?_
  refine lv_iconst (v := 0) hx hb dL_wasGranted_1 (by decide) ?_
  refine lv_aload_n hx hb dL_wasGranted_2 rfl (lv_at hl 0 rfl) ?_
  refine lv_iload_n hx hb dL_wasGranted_3 rfl (lv_at hl 1 rfl) ?_
  refine sw_xki (rest := [.int (0 : Int32), .ref (sw_ad g 233)]) (sw_xrunV (As := [.int a1]) (rest := [.int (0 : Int32), .ref (sw_ad g 233)]) hx hb hml hown hts (kX6_wasGranted l hst g o d a1 M _ _ h) cv_X6_wasGranted q_617 rfl rfl ⟨(Nat.le_of_ble_eq_true rfl), (Nat.le_of_ble_eq_true rfl)⟩ hW (Nat.le_of_ble_eq_true rfl) sl_0 rfl rfl hl.1 rfl (Nat.le_of_ble_eq_true rfl) dL_wasGranted_4 ⟨(Nat.le_of_ble_eq_true rfl), (Nat.le_of_ble_eq_true rfl)⟩) hW (fun E9 ce9 q9 M9 H locs h hW f1 f2 f3 => ?_) (fun r1 M5 H locs h hW => ?_)
  · obtain ⟨h, e9⟩ := h
    rw [e9] at hW
    by_cases kE0 : E9 = "java/lang/IndexOutOfBoundsException"
    · replace h := h.1 kE0
      subst kE0
      refine sw_catch htab [] [] rfl hown hts (fun z hz => nomatch hz) ⟨by decide, by decide⟩ (by decide) q_429 cast_IndexOutOfBoundsException hW f1 f2 f3 ?_
      refine lv_astore_n (lv' := [(3, .ref q9), (0, .ref (sw_ad g 0)), (1, .int a1), (2, .ref (sw_ad g 233))]) hx hb dL_wasGranted_19 rfl hl (Nat.le_of_ble_eq_true rfl) rfl (fun ls hl => ?_)
      refine lv_iconst (v := 1) hx hb dL_wasGranted_20 (by decide) ?_
      exact sw_ri3 hx hb hr hlocks hW rfl h dL_wasGranted_21
    · replace h := h.2 kE0
      exact h.elim
  · obtain ⟨h, eM5⟩ := h
    rw [eM5] at hW
    refine lv_if_eq (tgt := 14) hx hb dL_wasGranted_7 (by decide) (fun k2 => ?_) (fun k2 => ?_)
    · have h := h.1 k2
      refine lv_lconst (v := 0) hx hb dL_wasGranted_14 (by decide) ?_
      refine sw_ls hx hb hW (vp_in_iff.mpr (by decide)) dL_wasGranted_15 (fun H locs hW => ?_)
      obtain ⟨o3, eo3⟩ : ∃ z : sO, z = vp_updL o ((0 : Int32)).toNatClampNeg ((0 : Int64)) := ⟨_, rfl⟩
      rw [← eo3] at hW
      have h := h o3 eo3
      refine lv_goto (tgt := 22) hx hb dL_wasGranted_16 (by decide) ?_
      refine lv_iconst (v := 0) hx hb dL_wasGranted_22 (by decide) ?_
      exact sw_ri3 hx hb hr hlocks hW rfl h dL_wasGranted_23
    · have h := h.2 k2
      refine lv_lconst (v := 1) hx hb dL_wasGranted_10 (by decide) ?_
      refine lv_goto (tgt := 15) hx hb dL_wasGranted_11 (by decide) ?_
      refine sw_ls hx hb hW (vp_in_iff.mpr (by decide)) dL_wasGranted_15 (fun H locs hW => ?_)
      obtain ⟨o4, eo4⟩ : ∃ z : sO, z = vp_updL o ((0 : Int32)).toNatClampNeg ((1 : Int64)) := ⟨_, rfl⟩
      rw [← eo4] at hW
      have h := h o4 eo4
      refine lv_goto (tgt := 22) hx hb dL_wasGranted_16 (by decide) ?_
      refine lv_iconst (v := 0) hx hb dL_wasGranted_22 (by decide) ?_
      exact sw_ri3 hx hb hr hlocks hW rfl h dL_wasGranted_23
theorem ch_L_wasGranted : sw_cH yL_wasGranted cL_wasGranted 4 (some .int) [(0, 16, 19, 25)] 3 := ⟨q_616, q_1, q_1431, by decide +kernel⟩

def wL_isEntitled (a1 : Int32) (M : sM) (o : sO) (d : sE) (Q : Int32 → sM → sO → sE → Prop) : Prop :=
  wX6_isEntitled a1 M (fun r1 => (r1 = 0 → (∀ o3 : sO, o3 = vp_updL o ((0 : Int32)).toNatClampNeg ((0 : Int64)) → (Q (0 : Int32) M o3 d))) ∧ (¬ r1 = 0 → (∀ o4 : sO, o4 = vp_updL o ((0 : Int32)).toNatClampNeg ((1 : Int64)) → (Q (0 : Int32) M o4 d)))) (fun E9 => (E9 = "java/lang/IndexOutOfBoundsException" → (Q (1 : Int32) M o d)) ∧ (¬ E9 = "java/lang/IndexOutOfBoundsException" → (False)))
set_option maxRecDepth 20000 in
theorem kL_isEntitled (l : Launch) (hst : l.stackTraces = false) (g : sG) (a1 : Int32) (M : sM) (o : sO) (d : sE) (Q : Int32 → sM → sO → sE → Prop) (h : wL_isEntitled a1 M o d Q) : Met l yL_isEntitled (sw_wsH yL_isEntitled cL_isEntitled 4 (some .int) [(0, 16, 19, 25)]) { frames := 8, cells := 1, slots := 6, locals := 137 } (va_Pc [.ref (sw_ad g 0), .int a1, .ref (sw_ad g 233)] (sw_Pr g o d M)) (va_Qi (fun r u => Q r u.1 u.2.1 u.2.2) (sw_Po3 g) (sw_A g)) 1 6 (sw_A g) := by
  refine sw_metH (by decide) (Nat.le_of_ble_eq_true rfl) ?_
  intro p e s m args below meth c ls hx hb hr hts hown hml hlocks htab hW hl
  have hown : s.vm.findClass RL = some m.cls := hown
  have hl : lv_has ls 4 [(0, .ref (sw_ad g 0)), (1, .int a1), (2, .ref (sw_ad g 233))] := hl
  unfold wL_isEntitled at h
  refine lv_aload_n hx hb dL_isEntitled_0 rfl (lv_at hl 2 rfl) ?_
  refine lv_iconst (v := 0) hx hb dL_isEntitled_1 (by decide) ?_
  refine lv_aload_n hx hb dL_isEntitled_2 rfl (lv_at hl 0 rfl) ?_
  refine lv_iload_n hx hb dL_isEntitled_3 rfl (lv_at hl 1 rfl) ?_
  refine sw_xki (rest := [.int (0 : Int32), .ref (sw_ad g 233)]) (sw_xrunV (As := [.int a1]) (rest := [.int (0 : Int32), .ref (sw_ad g 233)]) hx hb hml hown hts (kX6_isEntitled l hst g o d a1 M _ _ h) cv_X6_isEntitled q_624 rfl rfl ⟨(Nat.le_of_ble_eq_true rfl), (Nat.le_of_ble_eq_true rfl)⟩ hW (Nat.le_of_ble_eq_true rfl) sl_0 rfl rfl hl.1 rfl (Nat.le_of_ble_eq_true rfl) dL_isEntitled_4 ⟨(Nat.le_of_ble_eq_true rfl), (Nat.le_of_ble_eq_true rfl)⟩) hW (fun E9 ce9 q9 M9 H locs h hW f1 f2 f3 => ?_) (fun r1 M5 H locs h hW => ?_)
  · obtain ⟨h, e9⟩ := h
    rw [e9] at hW
    by_cases kE0 : E9 = "java/lang/IndexOutOfBoundsException"
    · replace h := h.1 kE0
      subst kE0
      refine sw_catch htab [] [] rfl hown hts (fun z hz => nomatch hz) ⟨by decide, by decide⟩ (by decide) q_429 cast_IndexOutOfBoundsException hW f1 f2 f3 ?_
      refine lv_astore_n (lv' := [(3, .ref q9), (0, .ref (sw_ad g 0)), (1, .int a1), (2, .ref (sw_ad g 233))]) hx hb dL_isEntitled_19 rfl hl (Nat.le_of_ble_eq_true rfl) rfl (fun ls hl => ?_)
      refine lv_iconst (v := 1) hx hb dL_isEntitled_20 (by decide) ?_
      exact sw_ri3 hx hb hr hlocks hW rfl h dL_isEntitled_21
    · replace h := h.2 kE0
      exact h.elim
  · obtain ⟨h, eM5⟩ := h
    rw [eM5] at hW
    refine lv_if_eq (tgt := 14) hx hb dL_isEntitled_7 (by decide) (fun k2 => ?_) (fun k2 => ?_)
    · have h := h.1 k2
      refine lv_lconst (v := 0) hx hb dL_isEntitled_14 (by decide) ?_
      refine sw_ls hx hb hW (vp_in_iff.mpr (by decide)) dL_isEntitled_15 (fun H locs hW => ?_)
      obtain ⟨o3, eo3⟩ : ∃ z : sO, z = vp_updL o ((0 : Int32)).toNatClampNeg ((0 : Int64)) := ⟨_, rfl⟩
      rw [← eo3] at hW
      have h := h o3 eo3
      refine lv_goto (tgt := 22) hx hb dL_isEntitled_16 (by decide) ?_
      refine lv_iconst (v := 0) hx hb dL_isEntitled_22 (by decide) ?_
      exact sw_ri3 hx hb hr hlocks hW rfl h dL_isEntitled_23
    · have h := h.2 k2
      refine lv_lconst (v := 1) hx hb dL_isEntitled_10 (by decide) ?_
      refine lv_goto (tgt := 15) hx hb dL_isEntitled_11 (by decide) ?_
      refine sw_ls hx hb hW (vp_in_iff.mpr (by decide)) dL_isEntitled_15 (fun H locs hW => ?_)
      obtain ⟨o4, eo4⟩ : ∃ z : sO, z = vp_updL o ((0 : Int32)).toNatClampNeg ((1 : Int64)) := ⟨_, rfl⟩
      rw [← eo4] at hW
      have h := h o4 eo4
      refine lv_goto (tgt := 22) hx hb dL_isEntitled_16 (by decide) ?_
      refine lv_iconst (v := 0) hx hb dL_isEntitled_22 (by decide) ?_
      exact sw_ri3 hx hb hr hlocks hW rfl h dL_isEntitled_23
theorem ch_L_isEntitled : sw_cH yL_isEntitled cL_isEntitled 4 (some .int) [(0, 16, 19, 25)] 3 := ⟨q_623, q_1, q_1432, by decide +kernel⟩

def wL_doorAtRank (a1 : Int32) (M : sM) (o : sO) (d : sE) (Q : Int32 → sM → sO → sE → Prop) : Prop :=
  wX6_doorAtRank a1 M (fun r1 => ∀ o2 : sO, o2 = vp_updL o ((0 : Int32)).toNatClampNeg ((r1).toInt64) → (Q (0 : Int32) M o2 d)) (fun E9 => (E9 = "java/util/NoSuchElementException" → (Q (1 : Int32) M o d)) ∧ (¬ E9 = "java/util/NoSuchElementException" → (False)))
set_option maxRecDepth 20000 in
theorem kL_doorAtRank (l : Launch) (hst : l.stackTraces = false) (g : sG) (a1 : Int32) (M : sM) (o : sO) (d : sE) (Q : Int32 → sM → sO → sE → Prop) (h : wL_doorAtRank a1 M o d Q) : Met l yL_doorAtRank (sw_wsH yL_doorAtRank cL_doorAtRank 4 (some .int) [(0, 9, 12, 49)]) { frames := 8, cells := 1, slots := 6, locals := 142 } (va_Pc [.ref (sw_ad g 0), .int a1, .ref (sw_ad g 233)] (sw_Pr g o d M)) (va_Qi (fun r u => Q r u.1 u.2.1 u.2.2) (sw_Po3 g) (sw_A g)) 1 6 (sw_A g) := by
  refine sw_metH (by decide) (Nat.le_of_ble_eq_true rfl) ?_
  intro p e s m args below meth c ls hx hb hr hts hown hml hlocks htab hW hl
  have hown : s.vm.findClass RL = some m.cls := hown
  have hl : lv_has ls 4 [(0, .ref (sw_ad g 0)), (1, .int a1), (2, .ref (sw_ad g 233))] := hl
  unfold wL_doorAtRank at h
  refine lv_aload_n hx hb dL_doorAtRank_0 rfl (lv_at hl 2 rfl) ?_
  refine lv_iconst (v := 0) hx hb dL_doorAtRank_1 (by decide) ?_
  refine lv_aload_n hx hb dL_doorAtRank_2 rfl (lv_at hl 0 rfl) ?_
  refine lv_iload_n hx hb dL_doorAtRank_3 rfl (lv_at hl 1 rfl) ?_
  refine sw_xki (rest := [.int (0 : Int32), .ref (sw_ad g 233)]) (sw_xrunV (As := [.int a1]) (rest := [.int (0 : Int32), .ref (sw_ad g 233)]) hx hb hml hown hts (kX6_doorAtRank l hst g o d a1 M _ _ h) cv_X6_doorAtRank q_631 rfl rfl ⟨(Nat.le_of_ble_eq_true rfl), (Nat.le_of_ble_eq_true rfl)⟩ hW (Nat.le_of_ble_eq_true rfl) sl_0 rfl rfl hl.1 rfl (Nat.le_of_ble_eq_true rfl) dL_doorAtRank_4 ⟨(Nat.le_of_ble_eq_true rfl), (Nat.le_of_ble_eq_true rfl)⟩) hW (fun E9 ce9 q9 M9 H locs h hW f1 f2 f3 => ?_) (fun r1 M3 H locs h hW => ?_)
  · obtain ⟨h, e9⟩ := h
    rw [e9] at hW
    by_cases kE0 : E9 = "java/util/NoSuchElementException"
    · replace h := h.1 kE0
      subst kE0
      refine sw_catch htab [] [] rfl hown hts (fun z hz => nomatch hz) ⟨by decide, by decide⟩ (by decide) q_556 cast_NoSuchElementException hW f1 f2 f3 ?_
      refine lv_astore_n (lv' := [(3, .ref q9), (0, .ref (sw_ad g 0)), (1, .int a1), (2, .ref (sw_ad g 233))]) hx hb dL_doorAtRank_12 rfl hl (Nat.le_of_ble_eq_true rfl) rfl (fun ls hl => ?_)
      refine lv_iconst (v := 1) hx hb dL_doorAtRank_13 (by decide) ?_
      exact sw_ri3 hx hb hr hlocks hW rfl h dL_doorAtRank_14
    · replace h := h.2 kE0
      exact h.elim
  · obtain ⟨h, eM3⟩ := h
    rw [eM3] at hW
    refine lv_i2l hx hb dL_doorAtRank_7 rfl ?_
    refine sw_ls hx hb hW (vp_in_iff.mpr (by decide)) dL_doorAtRank_8 (fun H locs hW => ?_)
    obtain ⟨o2, eo2⟩ : ∃ z : sO, z = vp_updL o ((0 : Int32)).toNatClampNeg ((r1).toInt64) := ⟨_, rfl⟩
    rw [← eo2] at hW
    have h := h o2 eo2
    refine lv_goto (tgt := 15) hx hb dL_doorAtRank_9 (by decide) ?_
    refine lv_iconst (v := 0) hx hb dL_doorAtRank_15 (by decide) ?_
    exact sw_ri3 hx hb hr hlocks hW rfl h dL_doorAtRank_16
theorem ch_L_doorAtRank : sw_cH yL_doorAtRank cL_doorAtRank 4 (some .int) [(0, 9, 12, 49)] 3 := ⟨q_630, q_1, q_1433, by decide +kernel⟩

def wL_frameOfExaminer (a1 : Int32) (M : sM) (o : sO) (d : sE) (Q : Int32 → sM → sO → sE → Prop) : Prop :=
  wX6_frameOfExaminer a1 M (fun r1 => ∀ o2 : sO, o2 = vp_updL o ((0 : Int32)).toNatClampNeg ((r1).toInt64) → (Q (0 : Int32) M o2 d)) (fun E9 => (E9 = "java/lang/IndexOutOfBoundsException" → (Q (1 : Int32) M o d)) ∧ (¬ E9 = "java/lang/IndexOutOfBoundsException" → (False)))
set_option maxRecDepth 20000 in
theorem kL_frameOfExaminer (l : Launch) (hst : l.stackTraces = false) (g : sG) (a1 : Int32) (M : sM) (o : sO) (d : sE) (Q : Int32 → sM → sO → sE → Prop) (h : wL_frameOfExaminer a1 M o d Q) : Met l yL_frameOfExaminer (sw_wsH yL_frameOfExaminer cL_frameOfExaminer 4 (some .int) [(0, 9, 12, 25)]) { frames := 8, cells := 1, slots := 6, locals := 137 } (va_Pc [.ref (sw_ad g 0), .int a1, .ref (sw_ad g 233)] (sw_Pr g o d M)) (va_Qi (fun r u => Q r u.1 u.2.1 u.2.2) (sw_Po3 g) (sw_A g)) 1 6 (sw_A g) := by
  refine sw_metH (by decide) (Nat.le_of_ble_eq_true rfl) ?_
  intro p e s m args below meth c ls hx hb hr hts hown hml hlocks htab hW hl
  have hown : s.vm.findClass RL = some m.cls := hown
  have hl : lv_has ls 4 [(0, .ref (sw_ad g 0)), (1, .int a1), (2, .ref (sw_ad g 233))] := hl
  unfold wL_frameOfExaminer at h
  refine lv_aload_n hx hb dL_frameOfExaminer_0 rfl (lv_at hl 2 rfl) ?_
  refine lv_iconst (v := 0) hx hb dL_frameOfExaminer_1 (by decide) ?_
  refine lv_aload_n hx hb dL_frameOfExaminer_2 rfl (lv_at hl 0 rfl) ?_
  refine lv_iload_n hx hb dL_frameOfExaminer_3 rfl (lv_at hl 1 rfl) ?_
  refine sw_xki (rest := [.int (0 : Int32), .ref (sw_ad g 233)]) (sw_xrunV (As := [.int a1]) (rest := [.int (0 : Int32), .ref (sw_ad g 233)]) hx hb hml hown hts (kX6_frameOfExaminer l hst g o d a1 M _ _ h) cv_X6_frameOfExaminer q_649 rfl rfl ⟨(Nat.le_of_ble_eq_true rfl), (Nat.le_of_ble_eq_true rfl)⟩ hW (Nat.le_of_ble_eq_true rfl) sl_0 rfl rfl hl.1 rfl (Nat.le_of_ble_eq_true rfl) dL_frameOfExaminer_4 ⟨(Nat.le_of_ble_eq_true rfl), (Nat.le_of_ble_eq_true rfl)⟩) hW (fun E9 ce9 q9 M9 H locs h hW f1 f2 f3 => ?_) (fun r1 M3 H locs h hW => ?_)
  · obtain ⟨h, e9⟩ := h
    rw [e9] at hW
    by_cases kE0 : E9 = "java/lang/IndexOutOfBoundsException"
    · replace h := h.1 kE0
      subst kE0
      refine sw_catch htab [] [] rfl hown hts (fun z hz => nomatch hz) ⟨by decide, by decide⟩ (by decide) q_429 cast_IndexOutOfBoundsException hW f1 f2 f3 ?_
      refine lv_astore_n (lv' := [(3, .ref q9), (0, .ref (sw_ad g 0)), (1, .int a1), (2, .ref (sw_ad g 233))]) hx hb dL_frameOfExaminer_12 rfl hl (Nat.le_of_ble_eq_true rfl) rfl (fun ls hl => ?_)
      refine lv_iconst (v := 1) hx hb dL_frameOfExaminer_13 (by decide) ?_
      exact sw_ri3 hx hb hr hlocks hW rfl h dL_frameOfExaminer_14
    · replace h := h.2 kE0
      exact h.elim
  · obtain ⟨h, eM3⟩ := h
    rw [eM3] at hW
    refine lv_i2l hx hb dL_frameOfExaminer_7 rfl ?_
    refine sw_ls hx hb hW (vp_in_iff.mpr (by decide)) dL_frameOfExaminer_8 (fun H locs hW => ?_)
    obtain ⟨o2, eo2⟩ : ∃ z : sO, z = vp_updL o ((0 : Int32)).toNatClampNeg ((r1).toInt64) := ⟨_, rfl⟩
    rw [← eo2] at hW
    have h := h o2 eo2
    refine lv_goto (tgt := 15) hx hb dL_frameOfExaminer_9 (by decide) ?_
    refine lv_iconst (v := 0) hx hb dL_frameOfExaminer_15 (by decide) ?_
    exact sw_ri3 hx hb hr hlocks hW rfl h dL_frameOfExaminer_16
theorem ch_L_frameOfExaminer : sw_cH yL_frameOfExaminer cL_frameOfExaminer 4 (some .int) [(0, 9, 12, 25)] 3 := ⟨q_648, q_1, q_1434, by decide +kernel⟩

def wL_load (a1 : Int32) (M : sM) (o : sO) (d : sE) (Q : Int32 → sM → sO → sE → Prop) : Prop :=
  wX6_load a1 M (fun r1 => ∀ o2 : sO, o2 = vp_updL o ((0 : Int32)).toNatClampNeg ((r1).toInt64) → (Q (0 : Int32) M o2 d)) (fun E9 => (E9 = "java/lang/IndexOutOfBoundsException" → (Q (1 : Int32) M o d)) ∧ (¬ E9 = "java/lang/IndexOutOfBoundsException" → (False)))
set_option maxRecDepth 20000 in
theorem kL_load (l : Launch) (hst : l.stackTraces = false) (g : sG) (a1 : Int32) (M : sM) (o : sO) (d : sE) (Q : Int32 → sM → sO → sE → Prop) (h : wL_load a1 M o d Q) : Met l yL_load (sw_wsH yL_load cL_load 4 (some .int) [(0, 9, 12, 25)]) { frames := 8, cells := 1, slots := 6, locals := 137 } (va_Pc [.ref (sw_ad g 0), .int a1, .ref (sw_ad g 233)] (sw_Pr g o d M)) (va_Qi (fun r u => Q r u.1 u.2.1 u.2.2) (sw_Po3 g) (sw_A g)) 1 6 (sw_A g) := by
  refine sw_metH (by decide) (Nat.le_of_ble_eq_true rfl) ?_
  intro p e s m args below meth c ls hx hb hr hts hown hml hlocks htab hW hl
  have hown : s.vm.findClass RL = some m.cls := hown
  have hl : lv_has ls 4 [(0, .ref (sw_ad g 0)), (1, .int a1), (2, .ref (sw_ad g 233))] := hl
  unfold wL_load at h
  refine lv_aload_n hx hb dL_load_0 rfl (lv_at hl 2 rfl) ?_
  refine lv_iconst (v := 0) hx hb dL_load_1 (by decide) ?_
  refine lv_aload_n hx hb dL_load_2 rfl (lv_at hl 0 rfl) ?_
  refine lv_iload_n hx hb dL_load_3 rfl (lv_at hl 1 rfl) ?_
  refine sw_xki (rest := [.int (0 : Int32), .ref (sw_ad g 233)]) (sw_xrunV (As := [.int a1]) (rest := [.int (0 : Int32), .ref (sw_ad g 233)]) hx hb hml hown hts (kX6_load l hst g o d a1 M _ _ h) cv_X6_load q_659 rfl rfl ⟨(Nat.le_of_ble_eq_true rfl), (Nat.le_of_ble_eq_true rfl)⟩ hW (Nat.le_of_ble_eq_true rfl) sl_0 rfl rfl hl.1 rfl (Nat.le_of_ble_eq_true rfl) dL_load_4 ⟨(Nat.le_of_ble_eq_true rfl), (Nat.le_of_ble_eq_true rfl)⟩) hW (fun E9 ce9 q9 M9 H locs h hW f1 f2 f3 => ?_) (fun r1 M3 H locs h hW => ?_)
  · obtain ⟨h, e9⟩ := h
    rw [e9] at hW
    by_cases kE0 : E9 = "java/lang/IndexOutOfBoundsException"
    · replace h := h.1 kE0
      subst kE0
      refine sw_catch htab [] [] rfl hown hts (fun z hz => nomatch hz) ⟨by decide, by decide⟩ (by decide) q_429 cast_IndexOutOfBoundsException hW f1 f2 f3 ?_
      refine lv_astore_n (lv' := [(3, .ref q9), (0, .ref (sw_ad g 0)), (1, .int a1), (2, .ref (sw_ad g 233))]) hx hb dL_load_12 rfl hl (Nat.le_of_ble_eq_true rfl) rfl (fun ls hl => ?_)
      refine lv_iconst (v := 1) hx hb dL_load_13 (by decide) ?_
      exact sw_ri3 hx hb hr hlocks hW rfl h dL_load_14
    · replace h := h.2 kE0
      exact h.elim
  · obtain ⟨h, eM3⟩ := h
    rw [eM3] at hW
    refine lv_i2l hx hb dL_load_7 rfl ?_
    refine sw_ls hx hb hW (vp_in_iff.mpr (by decide)) dL_load_8 (fun H locs hW => ?_)
    obtain ⟨o2, eo2⟩ : ∃ z : sO, z = vp_updL o ((0 : Int32)).toNatClampNeg ((r1).toInt64) := ⟨_, rfl⟩
    rw [← eo2] at hW
    have h := h o2 eo2
    refine lv_goto (tgt := 15) hx hb dL_load_9 (by decide) ?_
    refine lv_iconst (v := 0) hx hb dL_load_15 (by decide) ?_
    exact sw_ri3 hx hb hr hlocks hW rfl h dL_load_16
theorem ch_L_load : sw_cH yL_load cL_load 4 (some .int) [(0, 9, 12, 25)] 3 := ⟨q_658, q_1, q_1435, by decide +kernel⟩

def wL_isNeutral (a1 : Int32) (a2 : Int32) (M : sM) (o : sO) (d : sE) (Q : Int32 → sM → sO → sE → Prop) : Prop :=
  wX6_isNeutral a1 a2 M (fun r1 => (r1 = 0 → (∀ o3 : sO, o3 = vp_updL o ((0 : Int32)).toNatClampNeg ((0 : Int64)) → (Q (0 : Int32) M o3 d))) ∧ (¬ r1 = 0 → (∀ o4 : sO, o4 = vp_updL o ((0 : Int32)).toNatClampNeg ((1 : Int64)) → (Q (0 : Int32) M o4 d)))) (fun E9 => (E9 = "java/lang/IndexOutOfBoundsException" → (Q (1 : Int32) M o d)) ∧ (¬ E9 = "java/lang/IndexOutOfBoundsException" → (False)))
set_option maxRecDepth 20000 in
theorem kL_isNeutral (l : Launch) (hst : l.stackTraces = false) (g : sG) (a1 : Int32) (a2 : Int32) (M : sM) (o : sO) (d : sE) (Q : Int32 → sM → sO → sE → Prop) (h : wL_isNeutral a1 a2 M o d Q) : Met l yL_isNeutral (sw_wsH yL_isNeutral cL_isNeutral 5 (some .int) [(0, 17, 20, 25)]) { frames := 9, cells := 2, slots := 12, locals := 160 } (va_Pc [.ref (sw_ad g 0), .int a1, .int a2, .ref (sw_ad g 233)] (sw_Pr g o d M)) (va_Qi (fun r u => Q r u.1 u.2.1 u.2.2) (sw_Po3 g) (sw_A g)) 2 12 (sw_A g) := by
  refine sw_metH (by decide) (Nat.le_of_ble_eq_true rfl) ?_
  intro p e s m args below meth c ls hx hb hr hts hown hml hlocks htab hW hl
  have hown : s.vm.findClass RL = some m.cls := hown
  have hl : lv_has ls 5 [(0, .ref (sw_ad g 0)), (1, .int a1), (2, .int a2), (3, .ref (sw_ad g 233))] := hl
  unfold wL_isNeutral at h
  refine lv_aload_n hx hb dL_isNeutral_0 rfl (lv_at hl 3 rfl) ?_
  refine lv_iconst (v := 0) hx hb dL_isNeutral_1 (by decide) ?_
  refine lv_aload_n hx hb dL_isNeutral_2 rfl (lv_at hl 0 rfl) ?_
  refine lv_iload_n hx hb dL_isNeutral_3 rfl (lv_at hl 1 rfl) ?_
  refine lv_iload_n hx hb dL_isNeutral_4 rfl (lv_at hl 2 rfl) ?_
  refine sw_xki (rest := [.int (0 : Int32), .ref (sw_ad g 233)]) (sw_xrunV (As := [.int a1, .int a2]) (rest := [.int (0 : Int32), .ref (sw_ad g 233)]) hx hb hml hown hts (kX6_isNeutral l hst g o d a1 a2 M _ _ h) cv_X6_isNeutral q_665 rfl rfl ⟨(Nat.le_of_ble_eq_true rfl), (Nat.le_of_ble_eq_true rfl)⟩ hW (Nat.le_of_ble_eq_true rfl) sl_0 rfl rfl hl.1 rfl (Nat.le_of_ble_eq_true rfl) dL_isNeutral_5 ⟨(Nat.le_of_ble_eq_true rfl), (Nat.le_of_ble_eq_true rfl)⟩) hW (fun E9 ce9 q9 M9 H locs h hW f1 f2 f3 => ?_) (fun r1 M5 H locs h hW => ?_)
  · obtain ⟨h, e9⟩ := h
    rw [e9] at hW
    by_cases kE0 : E9 = "java/lang/IndexOutOfBoundsException"
    · replace h := h.1 kE0
      subst kE0
      refine sw_catch htab [] [] rfl hown hts (fun z hz => nomatch hz) ⟨by decide, by decide⟩ (by decide) q_429 cast_IndexOutOfBoundsException hW f1 f2 f3 ?_
      refine lv_astore (lv' := [(4, .ref q9), (0, .ref (sw_ad g 0)), (1, .int a1), (2, .int a2), (3, .ref (sw_ad g 233))]) hx hb dL_isNeutral_20 hl (Nat.le_of_ble_eq_true rfl) rfl (fun ls hl => ?_)
      refine lv_iconst (v := 1) hx hb dL_isNeutral_22 (by decide) ?_
      exact sw_ri3 hx hb hr hlocks hW rfl h dL_isNeutral_23
    · replace h := h.2 kE0
      exact h.elim
  · obtain ⟨h, eM5⟩ := h
    rw [eM5] at hW
    refine lv_if_eq (tgt := 15) hx hb dL_isNeutral_8 (by decide) (fun k2 => ?_) (fun k2 => ?_)
    · have h := h.1 k2
      refine lv_lconst (v := 0) hx hb dL_isNeutral_15 (by decide) ?_
      refine sw_ls hx hb hW (vp_in_iff.mpr (by decide)) dL_isNeutral_16 (fun H locs hW => ?_)
      obtain ⟨o3, eo3⟩ : ∃ z : sO, z = vp_updL o ((0 : Int32)).toNatClampNeg ((0 : Int64)) := ⟨_, rfl⟩
      rw [← eo3] at hW
      have h := h o3 eo3
      refine lv_goto (tgt := 24) hx hb dL_isNeutral_17 (by decide) ?_
      refine lv_iconst (v := 0) hx hb dL_isNeutral_24 (by decide) ?_
      exact sw_ri3 hx hb hr hlocks hW rfl h dL_isNeutral_25
    · have h := h.2 k2
      refine lv_lconst (v := 1) hx hb dL_isNeutral_11 (by decide) ?_
      refine lv_goto (tgt := 16) hx hb dL_isNeutral_12 (by decide) ?_
      refine sw_ls hx hb hW (vp_in_iff.mpr (by decide)) dL_isNeutral_16 (fun H locs hW => ?_)
      obtain ⟨o4, eo4⟩ : ∃ z : sO, z = vp_updL o ((0 : Int32)).toNatClampNeg ((1 : Int64)) := ⟨_, rfl⟩
      rw [← eo4] at hW
      have h := h o4 eo4
      refine lv_goto (tgt := 24) hx hb dL_isNeutral_17 (by decide) ?_
      refine lv_iconst (v := 0) hx hb dL_isNeutral_24 (by decide) ?_
      exact sw_ri3 hx hb hr hlocks hW rfl h dL_isNeutral_25
theorem ch_L_isNeutral : sw_cH yL_isNeutral cL_isNeutral 5 (some .int) [(0, 17, 20, 25)] 4 := ⟨q_664, q_1, q_1436, by decide +kernel⟩

def wL_mayJudge (a1 : Int32) (a2 : Int32) (M : sM) (o : sO) (d : sE) (Q : Int32 → sM → sO → sE → Prop) : Prop :=
  wX6_mayJudge a1 a2 M (fun r1 => (r1 = 0 → (∀ o3 : sO, o3 = vp_updL o ((0 : Int32)).toNatClampNeg ((0 : Int64)) → (Q (0 : Int32) M o3 d))) ∧ (¬ r1 = 0 → (∀ o4 : sO, o4 = vp_updL o ((0 : Int32)).toNatClampNeg ((1 : Int64)) → (Q (0 : Int32) M o4 d)))) (fun E9 => (E9 = "java/lang/IndexOutOfBoundsException" → (Q (1 : Int32) M o d)) ∧ (¬ E9 = "java/lang/IndexOutOfBoundsException" → (False)))
set_option maxRecDepth 20000 in
theorem kL_mayJudge (l : Launch) (hst : l.stackTraces = false) (g : sG) (a1 : Int32) (a2 : Int32) (M : sM) (o : sO) (d : sE) (Q : Int32 → sM → sO → sE → Prop) (h : wL_mayJudge a1 a2 M o d Q) : Met l yL_mayJudge (sw_wsH yL_mayJudge cL_mayJudge 5 (some .int) [(0, 17, 20, 25)]) { frames := 9, cells := 2, slots := 12, locals := 160 } (va_Pc [.ref (sw_ad g 0), .int a1, .int a2, .ref (sw_ad g 233)] (sw_Pr g o d M)) (va_Qi (fun r u => Q r u.1 u.2.1 u.2.2) (sw_Po3 g) (sw_A g)) 2 12 (sw_A g) := by
  refine sw_metH (by decide) (Nat.le_of_ble_eq_true rfl) ?_
  intro p e s m args below meth c ls hx hb hr hts hown hml hlocks htab hW hl
  have hown : s.vm.findClass RL = some m.cls := hown
  have hl : lv_has ls 5 [(0, .ref (sw_ad g 0)), (1, .int a1), (2, .int a2), (3, .ref (sw_ad g 233))] := hl
  unfold wL_mayJudge at h
  refine lv_aload_n hx hb dL_mayJudge_0 rfl (lv_at hl 3 rfl) ?_
  refine lv_iconst (v := 0) hx hb dL_mayJudge_1 (by decide) ?_
  refine lv_aload_n hx hb dL_mayJudge_2 rfl (lv_at hl 0 rfl) ?_
  refine lv_iload_n hx hb dL_mayJudge_3 rfl (lv_at hl 1 rfl) ?_
  refine lv_iload_n hx hb dL_mayJudge_4 rfl (lv_at hl 2 rfl) ?_
  refine sw_xki (rest := [.int (0 : Int32), .ref (sw_ad g 233)]) (sw_xrunV (As := [.int a1, .int a2]) (rest := [.int (0 : Int32), .ref (sw_ad g 233)]) hx hb hml hown hts (kX6_mayJudge l hst g o d a1 a2 M _ _ h) cv_X6_mayJudge q_675 rfl rfl ⟨(Nat.le_of_ble_eq_true rfl), (Nat.le_of_ble_eq_true rfl)⟩ hW (Nat.le_of_ble_eq_true rfl) sl_0 rfl rfl hl.1 rfl (Nat.le_of_ble_eq_true rfl) dL_mayJudge_5 ⟨(Nat.le_of_ble_eq_true rfl), (Nat.le_of_ble_eq_true rfl)⟩) hW (fun E9 ce9 q9 M9 H locs h hW f1 f2 f3 => ?_) (fun r1 M5 H locs h hW => ?_)
  · obtain ⟨h, e9⟩ := h
    rw [e9] at hW
    by_cases kE0 : E9 = "java/lang/IndexOutOfBoundsException"
    · replace h := h.1 kE0
      subst kE0
      refine sw_catch htab [] [] rfl hown hts (fun z hz => nomatch hz) ⟨by decide, by decide⟩ (by decide) q_429 cast_IndexOutOfBoundsException hW f1 f2 f3 ?_
      refine lv_astore (lv' := [(4, .ref q9), (0, .ref (sw_ad g 0)), (1, .int a1), (2, .int a2), (3, .ref (sw_ad g 233))]) hx hb dL_mayJudge_20 hl (Nat.le_of_ble_eq_true rfl) rfl (fun ls hl => ?_)
      refine lv_iconst (v := 1) hx hb dL_mayJudge_22 (by decide) ?_
      exact sw_ri3 hx hb hr hlocks hW rfl h dL_mayJudge_23
    · replace h := h.2 kE0
      exact h.elim
  · obtain ⟨h, eM5⟩ := h
    rw [eM5] at hW
    refine lv_if_eq (tgt := 15) hx hb dL_mayJudge_8 (by decide) (fun k2 => ?_) (fun k2 => ?_)
    · have h := h.1 k2
      refine lv_lconst (v := 0) hx hb dL_mayJudge_15 (by decide) ?_
      refine sw_ls hx hb hW (vp_in_iff.mpr (by decide)) dL_mayJudge_16 (fun H locs hW => ?_)
      obtain ⟨o3, eo3⟩ : ∃ z : sO, z = vp_updL o ((0 : Int32)).toNatClampNeg ((0 : Int64)) := ⟨_, rfl⟩
      rw [← eo3] at hW
      have h := h o3 eo3
      refine lv_goto (tgt := 24) hx hb dL_mayJudge_17 (by decide) ?_
      refine lv_iconst (v := 0) hx hb dL_mayJudge_24 (by decide) ?_
      exact sw_ri3 hx hb hr hlocks hW rfl h dL_mayJudge_25
    · have h := h.2 k2
      refine lv_lconst (v := 1) hx hb dL_mayJudge_11 (by decide) ?_
      refine lv_goto (tgt := 16) hx hb dL_mayJudge_12 (by decide) ?_
      refine sw_ls hx hb hW (vp_in_iff.mpr (by decide)) dL_mayJudge_16 (fun H locs hW => ?_)
      obtain ⟨o4, eo4⟩ : ∃ z : sO, z = vp_updL o ((0 : Int32)).toNatClampNeg ((1 : Int64)) := ⟨_, rfl⟩
      rw [← eo4] at hW
      have h := h o4 eo4
      refine lv_goto (tgt := 24) hx hb dL_mayJudge_17 (by decide) ?_
      refine lv_iconst (v := 0) hx hb dL_mayJudge_24 (by decide) ?_
      exact sw_ri3 hx hb hr hlocks hW rfl h dL_mayJudge_25
theorem ch_L_mayJudge : sw_cH yL_mayJudge cL_mayJudge 5 (some .int) [(0, 17, 20, 25)] 4 := ⟨q_674, q_1, q_1437, by decide +kernel⟩

def wL_isAssigned (a1 : Int32) (a2 : Int32) (M : sM) (o : sO) (d : sE) (Q : Int32 → sM → sO → sE → Prop) : Prop :=
  wX6_isAssigned a1 a2 M (fun r1 => (r1 = 0 → (∀ o3 : sO, o3 = vp_updL o ((0 : Int32)).toNatClampNeg ((0 : Int64)) → (Q (0 : Int32) M o3 d))) ∧ (¬ r1 = 0 → (∀ o4 : sO, o4 = vp_updL o ((0 : Int32)).toNatClampNeg ((1 : Int64)) → (Q (0 : Int32) M o4 d)))) (fun E9 => (E9 = "java/lang/IndexOutOfBoundsException" → (Q (1 : Int32) M o d)) ∧ (¬ E9 = "java/lang/IndexOutOfBoundsException" → (False)))
set_option maxRecDepth 20000 in
theorem kL_isAssigned (l : Launch) (hst : l.stackTraces = false) (g : sG) (a1 : Int32) (a2 : Int32) (M : sM) (o : sO) (d : sE) (Q : Int32 → sM → sO → sE → Prop) (h : wL_isAssigned a1 a2 M o d Q) : Met l yL_isAssigned (sw_wsH yL_isAssigned cL_isAssigned 5 (some .int) [(0, 17, 20, 25)]) { frames := 9, cells := 2, slots := 12, locals := 160 } (va_Pc [.ref (sw_ad g 0), .int a1, .int a2, .ref (sw_ad g 233)] (sw_Pr g o d M)) (va_Qi (fun r u => Q r u.1 u.2.1 u.2.2) (sw_Po3 g) (sw_A g)) 2 12 (sw_A g) := by
  refine sw_metH (by decide) (Nat.le_of_ble_eq_true rfl) ?_
  intro p e s m args below meth c ls hx hb hr hts hown hml hlocks htab hW hl
  have hown : s.vm.findClass RL = some m.cls := hown
  have hl : lv_has ls 5 [(0, .ref (sw_ad g 0)), (1, .int a1), (2, .int a2), (3, .ref (sw_ad g 233))] := hl
  unfold wL_isAssigned at h
  refine lv_aload_n hx hb dL_isAssigned_0 rfl (lv_at hl 3 rfl) ?_
  refine lv_iconst (v := 0) hx hb dL_isAssigned_1 (by decide) ?_
  refine lv_aload_n hx hb dL_isAssigned_2 rfl (lv_at hl 0 rfl) ?_
  refine lv_iload_n hx hb dL_isAssigned_3 rfl (lv_at hl 1 rfl) ?_
  refine lv_iload_n hx hb dL_isAssigned_4 rfl (lv_at hl 2 rfl) ?_
  refine sw_xki (rest := [.int (0 : Int32), .ref (sw_ad g 233)]) (sw_xrunV (As := [.int a1, .int a2]) (rest := [.int (0 : Int32), .ref (sw_ad g 233)]) hx hb hml hown hts (kX6_isAssigned l hst g o d a1 a2 M _ _ h) cv_X6_isAssigned q_682 rfl rfl ⟨(Nat.le_of_ble_eq_true rfl), (Nat.le_of_ble_eq_true rfl)⟩ hW (Nat.le_of_ble_eq_true rfl) sl_0 rfl rfl hl.1 rfl (Nat.le_of_ble_eq_true rfl) dL_isAssigned_5 ⟨(Nat.le_of_ble_eq_true rfl), (Nat.le_of_ble_eq_true rfl)⟩) hW (fun E9 ce9 q9 M9 H locs h hW f1 f2 f3 => ?_) (fun r1 M5 H locs h hW => ?_)
  · obtain ⟨h, e9⟩ := h
    rw [e9] at hW
    by_cases kE0 : E9 = "java/lang/IndexOutOfBoundsException"
    · replace h := h.1 kE0
      subst kE0
      refine sw_catch htab [] [] rfl hown hts (fun z hz => nomatch hz) ⟨by decide, by decide⟩ (by decide) q_429 cast_IndexOutOfBoundsException hW f1 f2 f3 ?_
      refine lv_astore (lv' := [(4, .ref q9), (0, .ref (sw_ad g 0)), (1, .int a1), (2, .int a2), (3, .ref (sw_ad g 233))]) hx hb dL_isAssigned_20 hl (Nat.le_of_ble_eq_true rfl) rfl (fun ls hl => ?_)
      refine lv_iconst (v := 1) hx hb dL_isAssigned_22 (by decide) ?_
      exact sw_ri3 hx hb hr hlocks hW rfl h dL_isAssigned_23
    · replace h := h.2 kE0
      exact h.elim
  · obtain ⟨h, eM5⟩ := h
    rw [eM5] at hW
    refine lv_if_eq (tgt := 15) hx hb dL_isAssigned_8 (by decide) (fun k2 => ?_) (fun k2 => ?_)
    · have h := h.1 k2
      refine lv_lconst (v := 0) hx hb dL_isAssigned_15 (by decide) ?_
      refine sw_ls hx hb hW (vp_in_iff.mpr (by decide)) dL_isAssigned_16 (fun H locs hW => ?_)
      obtain ⟨o3, eo3⟩ : ∃ z : sO, z = vp_updL o ((0 : Int32)).toNatClampNeg ((0 : Int64)) := ⟨_, rfl⟩
      rw [← eo3] at hW
      have h := h o3 eo3
      refine lv_goto (tgt := 24) hx hb dL_isAssigned_17 (by decide) ?_
      refine lv_iconst (v := 0) hx hb dL_isAssigned_24 (by decide) ?_
      exact sw_ri3 hx hb hr hlocks hW rfl h dL_isAssigned_25
    · have h := h.2 k2
      refine lv_lconst (v := 1) hx hb dL_isAssigned_11 (by decide) ?_
      refine lv_goto (tgt := 16) hx hb dL_isAssigned_12 (by decide) ?_
      refine sw_ls hx hb hW (vp_in_iff.mpr (by decide)) dL_isAssigned_16 (fun H locs hW => ?_)
      obtain ⟨o4, eo4⟩ : ∃ z : sO, z = vp_updL o ((0 : Int32)).toNatClampNeg ((1 : Int64)) := ⟨_, rfl⟩
      rw [← eo4] at hW
      have h := h o4 eo4
      refine lv_goto (tgt := 24) hx hb dL_isAssigned_17 (by decide) ?_
      refine lv_iconst (v := 0) hx hb dL_isAssigned_24 (by decide) ?_
      exact sw_ri3 hx hb hr hlocks hW rfl h dL_isAssigned_25
theorem ch_L_isAssigned : sw_cH yL_isAssigned cL_isAssigned 5 (some .int) [(0, 17, 20, 25)] 4 := ⟨q_681, q_1, q_1438, by decide +kernel⟩

def wL_gradeBy (a1 : Int32) (a2 : Int32) (M : sM) (o : sO) (d : sE) (Q : Int32 → sM → sO → sE → Prop) : Prop :=
  wX6_gradeBy a1 a2 M (fun r1 => ∀ o2 : sO, o2 = vp_updL o ((0 : Int32)).toNatClampNeg ((r1).toInt64) → (Q (0 : Int32) M o2 d)) (fun E9 => (E9 = "java/lang/IndexOutOfBoundsException" → (Q (1 : Int32) M o d)) ∧ (¬ E9 = "java/lang/IndexOutOfBoundsException" → ((E9 = "java/util/NoSuchElementException" → (Q (2 : Int32) M o d)) ∧ (¬ E9 = "java/util/NoSuchElementException" → (False)))))
set_option maxRecDepth 20000 in
theorem kL_gradeBy (l : Launch) (hst : l.stackTraces = false) (g : sG) (a1 : Int32) (a2 : Int32) (M : sM) (o : sO) (d : sE) (Q : Int32 → sM → sO → sE → Prop) (h : wL_gradeBy a1 a2 M o d Q) : Met l yL_gradeBy (sw_wsH yL_gradeBy cL_gradeBy 5 (some .int) [(0, 10, 13, 25), (0, 10, 17, 49)]) { frames := 9, cells := 3, slots := 18, locals := 160 } (va_Pc [.ref (sw_ad g 0), .int a1, .int a2, .ref (sw_ad g 233)] (sw_Pr g o d M)) (va_Qi (fun r u => Q r u.1 u.2.1 u.2.2) (sw_Po3 g) (sw_A g)) 3 18 (sw_A g) := by
  refine sw_metH (by decide) (Nat.le_of_ble_eq_true rfl) ?_
  intro p e s m args below meth c ls hx hb hr hts hown hml hlocks htab hW hl
  have hown : s.vm.findClass RL = some m.cls := hown
  have hl : lv_has ls 5 [(0, .ref (sw_ad g 0)), (1, .int a1), (2, .int a2), (3, .ref (sw_ad g 233))] := hl
  unfold wL_gradeBy at h
  refine lv_aload_n hx hb dL_gradeBy_0 rfl (lv_at hl 3 rfl) ?_
  refine lv_iconst (v := 0) hx hb dL_gradeBy_1 (by decide) ?_
  refine lv_aload_n hx hb dL_gradeBy_2 rfl (lv_at hl 0 rfl) ?_
  refine lv_iload_n hx hb dL_gradeBy_3 rfl (lv_at hl 1 rfl) ?_
  refine lv_iload_n hx hb dL_gradeBy_4 rfl (lv_at hl 2 rfl) ?_
  refine sw_xki (rest := [.int (0 : Int32), .ref (sw_ad g 233)]) (sw_xrunV (As := [.int a1, .int a2]) (rest := [.int (0 : Int32), .ref (sw_ad g 233)]) hx hb hml hown hts (kX6_gradeBy l hst g o d a1 a2 M _ _ h) cv_X6_gradeBy q_688 rfl rfl ⟨(Nat.le_of_ble_eq_true rfl), (Nat.le_of_ble_eq_true rfl)⟩ hW (Nat.le_of_ble_eq_true rfl) sl_0 rfl rfl hl.1 rfl (Nat.le_of_ble_eq_true rfl) dL_gradeBy_5 ⟨(Nat.le_of_ble_eq_true rfl), (Nat.le_of_ble_eq_true rfl)⟩) hW (fun E9 ce9 q9 M9 H locs h hW f1 f2 f3 => ?_) (fun r1 M3 H locs h hW => ?_)
  · obtain ⟨h, e9⟩ := h
    rw [e9] at hW
    by_cases kE0 : E9 = "java/lang/IndexOutOfBoundsException"
    · replace h := h.1 kE0
      subst kE0
      refine sw_catch htab [] [(0, 10, 17, 49)] rfl hown hts (fun z hz => nomatch hz) ⟨by decide, by decide⟩ (by decide) q_429 cast_IndexOutOfBoundsException hW f1 f2 f3 ?_
      refine lv_astore (lv' := [(4, .ref q9), (0, .ref (sw_ad g 0)), (1, .int a1), (2, .int a2), (3, .ref (sw_ad g 233))]) hx hb dL_gradeBy_13 hl (Nat.le_of_ble_eq_true rfl) rfl (fun ls hl => ?_)
      refine lv_iconst (v := 1) hx hb dL_gradeBy_15 (by decide) ?_
      exact sw_ri3 hx hb hr hlocks hW rfl h dL_gradeBy_16
    · replace h := h.2 kE0
      by_cases kE1 : E9 = "java/util/NoSuchElementException"
      · replace h := h.1 kE1
        subst kE1
        refine sw_catch htab [(0, 10, 13, 25)] [] rfl hown hts (fun z hz => by
      simp only [List.mem_cons, List.not_mem_nil, or_false] at hz
      rcases hz with rfl
      · exact ⟨by decide, "java/lang/IndexOutOfBoundsException", q_429, hW.2.2.2.2.2.2.2.1.2.2 ("java/util/NoSuchElementException", "java/lang/IndexOutOfBoundsException") (by decide)⟩) ⟨by decide, by decide⟩ (by decide) q_556 cast_NoSuchElementException hW f1 f2 f3 ?_
        refine lv_astore (lv' := [(4, .ref q9), (0, .ref (sw_ad g 0)), (1, .int a1), (2, .int a2), (3, .ref (sw_ad g 233))]) hx hb dL_gradeBy_17 hl (Nat.le_of_ble_eq_true rfl) rfl (fun ls hl => ?_)
        refine lv_iconst (v := 2) hx hb dL_gradeBy_19 (by decide) ?_
        exact sw_ri3 hx hb hr hlocks hW rfl h dL_gradeBy_20
      · replace h := h.2 kE1
        exact h.elim
  · obtain ⟨h, eM3⟩ := h
    rw [eM3] at hW
    refine lv_i2l hx hb dL_gradeBy_8 rfl ?_
    refine sw_ls hx hb hW (vp_in_iff.mpr (by decide)) dL_gradeBy_9 (fun H locs hW => ?_)
    obtain ⟨o2, eo2⟩ : ∃ z : sO, z = vp_updL o ((0 : Int32)).toNatClampNeg ((r1).toInt64) := ⟨_, rfl⟩
    rw [← eo2] at hW
    have h := h o2 eo2
    refine lv_goto (tgt := 21) hx hb dL_gradeBy_10 (by decide) ?_
    refine lv_iconst (v := 0) hx hb dL_gradeBy_21 (by decide) ?_
    exact sw_ri3 hx hb hr hlocks hW rfl h dL_gradeBy_22
theorem ch_L_gradeBy : sw_cH yL_gradeBy cL_gradeBy 5 (some .int) [(0, 10, 13, 25), (0, 10, 17, 49)] 4 := ⟨q_687, q_1, q_1439, by decide +kernel⟩

def wL_plannedExaminer (a1 : Int32) (M : sM) (o : sO) (d : sE) (Q : Int32 → sM → sO → sE → Prop) : Prop :=
  wX6_plannedExaminer a1 M (fun r1 M2 => ∀ o3 : sO, o3 = vp_updL o ((0 : Int32)).toNatClampNeg ((r1).toInt64) → (Q (0 : Int32) M2 o3 d)) (fun E9 M9 => (E9 = "java/lang/IndexOutOfBoundsException" → (Q (1 : Int32) M9 o d)) ∧ (¬ E9 = "java/lang/IndexOutOfBoundsException" → ((E9 = "java/util/NoSuchElementException" → (Q (2 : Int32) M9 o d)) ∧ (¬ E9 = "java/util/NoSuchElementException" → (False)))))
set_option maxRecDepth 20000 in
theorem kL_plannedExaminer (l : Launch) (hst : l.stackTraces = false) (g : sG) (a1 : Int32) (M : sM) (o : sO) (d : sE) (Q : Int32 → sM → sO → sE → Prop) (h : wL_plannedExaminer a1 M o d Q) : Met l yL_plannedExaminer (sw_wsH yL_plannedExaminer cL_plannedExaminer 4 (some .int) [(0, 9, 12, 25), (0, 9, 15, 49)]) { frames := 8, cells := 2, slots := 12, locals := 142 } (va_Pc [.ref (sw_ad g 0), .int a1, .ref (sw_ad g 233)] (sw_Pr g o d M)) (va_Qi (fun r u => Q r u.1 u.2.1 u.2.2) (sw_Po3 g) (sw_A g)) 2 12 (sw_A g) := by
  refine sw_metH (by decide) (Nat.le_of_ble_eq_true rfl) ?_
  intro p e s m args below meth c ls hx hb hr hts hown hml hlocks htab hW hl
  have hown : s.vm.findClass RL = some m.cls := hown
  have hl : lv_has ls 4 [(0, .ref (sw_ad g 0)), (1, .int a1), (2, .ref (sw_ad g 233))] := hl
  unfold wL_plannedExaminer at h
  refine lv_aload_n hx hb dL_plannedExaminer_0 rfl (lv_at hl 2 rfl) ?_
  refine lv_iconst (v := 0) hx hb dL_plannedExaminer_1 (by decide) ?_
  refine lv_aload_n hx hb dL_plannedExaminer_2 rfl (lv_at hl 0 rfl) ?_
  refine lv_iload_n hx hb dL_plannedExaminer_3 rfl (lv_at hl 1 rfl) ?_
  refine sw_xki (rest := [.int (0 : Int32), .ref (sw_ad g 233)]) (sw_xrunV (As := [.int a1]) (rest := [.int (0 : Int32), .ref (sw_ad g 233)]) hx hb hml hown hts (kX6_plannedExaminer l hst g o d a1 M _ _ h) cv_X6_plannedExaminer q_694 rfl rfl ⟨(Nat.le_of_ble_eq_true rfl), (Nat.le_of_ble_eq_true rfl)⟩ hW (Nat.le_of_ble_eq_true rfl) sl_0 rfl rfl hl.1 rfl (Nat.le_of_ble_eq_true rfl) dL_plannedExaminer_4 ⟨(Nat.le_of_ble_eq_true rfl), (Nat.le_of_ble_eq_true rfl)⟩) hW (fun E9 ce9 q9 M9 H locs h hW f1 f2 f3 => ?_) (fun r1 M2 H locs h hW => ?_)
  · by_cases kE0 : E9 = "java/lang/IndexOutOfBoundsException"
    · replace h := h.1 kE0
      subst kE0
      refine sw_catch htab [] [(0, 9, 15, 49)] rfl hown hts (fun z hz => nomatch hz) ⟨by decide, by decide⟩ (by decide) q_429 cast_IndexOutOfBoundsException hW f1 f2 f3 ?_
      refine lv_astore_n (lv' := [(3, .ref q9), (0, .ref (sw_ad g 0)), (1, .int a1), (2, .ref (sw_ad g 233))]) hx hb dL_plannedExaminer_12 rfl hl (Nat.le_of_ble_eq_true rfl) rfl (fun ls hl => ?_)
      refine lv_iconst (v := 1) hx hb dL_plannedExaminer_13 (by decide) ?_
      exact sw_ri3 hx hb hr hlocks hW rfl h dL_plannedExaminer_14
    · replace h := h.2 kE0
      by_cases kE1 : E9 = "java/util/NoSuchElementException"
      · replace h := h.1 kE1
        subst kE1
        refine sw_catch htab [(0, 9, 12, 25)] [] rfl hown hts (fun z hz => by
      simp only [List.mem_cons, List.not_mem_nil, or_false] at hz
      rcases hz with rfl
      · exact ⟨by decide, "java/lang/IndexOutOfBoundsException", q_429, hW.2.2.2.2.2.2.2.1.2.2 ("java/util/NoSuchElementException", "java/lang/IndexOutOfBoundsException") (by decide)⟩) ⟨by decide, by decide⟩ (by decide) q_556 cast_NoSuchElementException hW f1 f2 f3 ?_
        refine lv_astore_n (lv' := [(3, .ref q9), (0, .ref (sw_ad g 0)), (1, .int a1), (2, .ref (sw_ad g 233))]) hx hb dL_plannedExaminer_15 rfl hl (Nat.le_of_ble_eq_true rfl) rfl (fun ls hl => ?_)
        refine lv_iconst (v := 2) hx hb dL_plannedExaminer_16 (by decide) ?_
        exact sw_ri3 hx hb hr hlocks hW rfl h dL_plannedExaminer_17
      · replace h := h.2 kE1
        exact h.elim
  · refine lv_i2l hx hb dL_plannedExaminer_7 rfl ?_
    refine sw_ls hx hb hW (vp_in_iff.mpr (by decide)) dL_plannedExaminer_8 (fun H locs hW => ?_)
    obtain ⟨o3, eo3⟩ : ∃ z : sO, z = vp_updL o ((0 : Int32)).toNatClampNeg ((r1).toInt64) := ⟨_, rfl⟩
    rw [← eo3] at hW
    have h := h o3 eo3
    refine lv_goto (tgt := 18) hx hb dL_plannedExaminer_9 (by decide) ?_
    refine lv_iconst (v := 0) hx hb dL_plannedExaminer_18 (by decide) ?_
    exact sw_ri3 hx hb hr hlocks hW rfl h dL_plannedExaminer_19
theorem ch_L_plannedExaminer : sw_cH yL_plannedExaminer cL_plannedExaminer 4 (some .int) [(0, 9, 12, 25), (0, 9, 15, 49)] 3 := ⟨q_693, q_1, q_1440, by decide +kernel⟩

def wL_panelCount (a1 : Int32) (M : sM) (o : sO) (d : sE) (Q : Int32 → sM → sO → sE → Prop) : Prop :=
  wX6_panelCount a1 M (fun r1 => ∀ o2 : sO, o2 = vp_updL o ((0 : Int32)).toNatClampNeg ((r1).toInt64) → (Q (0 : Int32) M o2 d)) (fun E9 => (E9 = "java/lang/IndexOutOfBoundsException" → (Q (1 : Int32) M o d)) ∧ (¬ E9 = "java/lang/IndexOutOfBoundsException" → (False)))
set_option maxRecDepth 20000 in
theorem kL_panelCount (l : Launch) (hst : l.stackTraces = false) (g : sG) (a1 : Int32) (M : sM) (o : sO) (d : sE) (Q : Int32 → sM → sO → sE → Prop) (h : wL_panelCount a1 M o d Q) : Met l yL_panelCount (sw_wsH yL_panelCount cL_panelCount 4 (some .int) [(0, 9, 12, 25)]) { frames := 8, cells := 1, slots := 6, locals := 137 } (va_Pc [.ref (sw_ad g 0), .int a1, .ref (sw_ad g 233)] (sw_Pr g o d M)) (va_Qi (fun r u => Q r u.1 u.2.1 u.2.2) (sw_Po3 g) (sw_A g)) 1 6 (sw_A g) := by
  refine sw_metH (by decide) (Nat.le_of_ble_eq_true rfl) ?_
  intro p e s m args below meth c ls hx hb hr hts hown hml hlocks htab hW hl
  have hown : s.vm.findClass RL = some m.cls := hown
  have hl : lv_has ls 4 [(0, .ref (sw_ad g 0)), (1, .int a1), (2, .ref (sw_ad g 233))] := hl
  unfold wL_panelCount at h
  refine lv_aload_n hx hb dL_panelCount_0 rfl (lv_at hl 2 rfl) ?_
  refine lv_iconst (v := 0) hx hb dL_panelCount_1 (by decide) ?_
  refine lv_aload_n hx hb dL_panelCount_2 rfl (lv_at hl 0 rfl) ?_
  refine lv_iload_n hx hb dL_panelCount_3 rfl (lv_at hl 1 rfl) ?_
  refine sw_xki (rest := [.int (0 : Int32), .ref (sw_ad g 233)]) (sw_xrunV (As := [.int a1]) (rest := [.int (0 : Int32), .ref (sw_ad g 233)]) hx hb hml hown hts (kX6_panelCount l hst g o d a1 M _ _ h) cv_X6_panelCount q_700 rfl rfl ⟨(Nat.le_of_ble_eq_true rfl), (Nat.le_of_ble_eq_true rfl)⟩ hW (Nat.le_of_ble_eq_true rfl) sl_0 rfl rfl hl.1 rfl (Nat.le_of_ble_eq_true rfl) dL_panelCount_4 ⟨(Nat.le_of_ble_eq_true rfl), (Nat.le_of_ble_eq_true rfl)⟩) hW (fun E9 ce9 q9 M9 H locs h hW f1 f2 f3 => ?_) (fun r1 M3 H locs h hW => ?_)
  · obtain ⟨h, e9⟩ := h
    rw [e9] at hW
    by_cases kE0 : E9 = "java/lang/IndexOutOfBoundsException"
    · replace h := h.1 kE0
      subst kE0
      refine sw_catch htab [] [] rfl hown hts (fun z hz => nomatch hz) ⟨by decide, by decide⟩ (by decide) q_429 cast_IndexOutOfBoundsException hW f1 f2 f3 ?_
      refine lv_astore_n (lv' := [(3, .ref q9), (0, .ref (sw_ad g 0)), (1, .int a1), (2, .ref (sw_ad g 233))]) hx hb dL_panelCount_12 rfl hl (Nat.le_of_ble_eq_true rfl) rfl (fun ls hl => ?_)
      refine lv_iconst (v := 1) hx hb dL_panelCount_13 (by decide) ?_
      exact sw_ri3 hx hb hr hlocks hW rfl h dL_panelCount_14
    · replace h := h.2 kE0
      exact h.elim
  · obtain ⟨h, eM3⟩ := h
    rw [eM3] at hW
    refine lv_i2l hx hb dL_panelCount_7 rfl ?_
    refine sw_ls hx hb hW (vp_in_iff.mpr (by decide)) dL_panelCount_8 (fun H locs hW => ?_)
    obtain ⟨o2, eo2⟩ : ∃ z : sO, z = vp_updL o ((0 : Int32)).toNatClampNeg ((r1).toInt64) := ⟨_, rfl⟩
    rw [← eo2] at hW
    have h := h o2 eo2
    refine lv_goto (tgt := 15) hx hb dL_panelCount_9 (by decide) ?_
    refine lv_iconst (v := 0) hx hb dL_panelCount_15 (by decide) ?_
    exact sw_ri3 hx hb hr hlocks hW rfl h dL_panelCount_16
theorem ch_L_panelCount : sw_cH yL_panelCount cL_panelCount 4 (some .int) [(0, 9, 12, 25)] 3 := ⟨q_699, q_1, q_1441, by decide +kernel⟩

def wL_panelCountByFrames (a1 : Int32) (M : sM) (o : sO) (d : sE) (Q : Int32 → sM → sO → sE → Prop) : Prop :=
  wX6_panelCountByFrames a1 M (fun r1 M2 => ∀ o3 : sO, o3 = vp_updL o ((0 : Int32)).toNatClampNeg ((r1).toInt64) → (Q (0 : Int32) M2 o3 d)) (fun E9 M9 => (E9 = "java/lang/IndexOutOfBoundsException" → (Q (1 : Int32) M9 o d)) ∧ (¬ E9 = "java/lang/IndexOutOfBoundsException" → (False)))
set_option maxRecDepth 20000 in
theorem kL_panelCountByFrames (l : Launch) (hst : l.stackTraces = false) (g : sG) (a1 : Int32) (M : sM) (o : sO) (d : sE) (Q : Int32 → sM → sO → sE → Prop) (h : wL_panelCountByFrames a1 M o d Q) : Met l yL_panelCountByFrames (sw_wsH yL_panelCountByFrames cL_panelCountByFrames 4 (some .int) [(0, 9, 12, 25)]) { frames := 8, cells := 1, slots := 6, locals := 137 } (va_Pc [.ref (sw_ad g 0), .int a1, .ref (sw_ad g 233)] (sw_Pr g o d M)) (va_Qi (fun r u => Q r u.1 u.2.1 u.2.2) (sw_Po3 g) (sw_A g)) 1 6 (sw_A g) := by
  refine sw_metH (by decide) (Nat.le_of_ble_eq_true rfl) ?_
  intro p e s m args below meth c ls hx hb hr hts hown hml hlocks htab hW hl
  have hown : s.vm.findClass RL = some m.cls := hown
  have hl : lv_has ls 4 [(0, .ref (sw_ad g 0)), (1, .int a1), (2, .ref (sw_ad g 233))] := hl
  unfold wL_panelCountByFrames at h
  refine lv_aload_n hx hb dL_panelCountByFrames_0 rfl (lv_at hl 2 rfl) ?_
  refine lv_iconst (v := 0) hx hb dL_panelCountByFrames_1 (by decide) ?_
  refine lv_aload_n hx hb dL_panelCountByFrames_2 rfl (lv_at hl 0 rfl) ?_
  refine lv_iload_n hx hb dL_panelCountByFrames_3 rfl (lv_at hl 1 rfl) ?_
  refine sw_xki (rest := [.int (0 : Int32), .ref (sw_ad g 233)]) (sw_xrunV (As := [.int a1]) (rest := [.int (0 : Int32), .ref (sw_ad g 233)]) hx hb hml hown hts (kX6_panelCountByFrames l hst g o d a1 M _ _ h) cv_X6_panelCountByFrames q_706 rfl rfl ⟨(Nat.le_of_ble_eq_true rfl), (Nat.le_of_ble_eq_true rfl)⟩ hW (Nat.le_of_ble_eq_true rfl) sl_0 rfl rfl hl.1 rfl (Nat.le_of_ble_eq_true rfl) dL_panelCountByFrames_4 ⟨(Nat.le_of_ble_eq_true rfl), (Nat.le_of_ble_eq_true rfl)⟩) hW (fun E9 ce9 q9 M9 H locs h hW f1 f2 f3 => ?_) (fun r1 M2 H locs h hW => ?_)
  · by_cases kE0 : E9 = "java/lang/IndexOutOfBoundsException"
    · replace h := h.1 kE0
      subst kE0
      refine sw_catch htab [] [] rfl hown hts (fun z hz => nomatch hz) ⟨by decide, by decide⟩ (by decide) q_429 cast_IndexOutOfBoundsException hW f1 f2 f3 ?_
      refine lv_astore_n (lv' := [(3, .ref q9), (0, .ref (sw_ad g 0)), (1, .int a1), (2, .ref (sw_ad g 233))]) hx hb dL_panelCountByFrames_12 rfl hl (Nat.le_of_ble_eq_true rfl) rfl (fun ls hl => ?_)
      refine lv_iconst (v := 1) hx hb dL_panelCountByFrames_13 (by decide) ?_
      exact sw_ri3 hx hb hr hlocks hW rfl h dL_panelCountByFrames_14
    · replace h := h.2 kE0
      exact h.elim
  · refine lv_i2l hx hb dL_panelCountByFrames_7 rfl ?_
    refine sw_ls hx hb hW (vp_in_iff.mpr (by decide)) dL_panelCountByFrames_8 (fun H locs hW => ?_)
    obtain ⟨o3, eo3⟩ : ∃ z : sO, z = vp_updL o ((0 : Int32)).toNatClampNeg ((r1).toInt64) := ⟨_, rfl⟩
    rw [← eo3] at hW
    have h := h o3 eo3
    refine lv_goto (tgt := 15) hx hb dL_panelCountByFrames_9 (by decide) ?_
    refine lv_iconst (v := 0) hx hb dL_panelCountByFrames_15 (by decide) ?_
    exact sw_ri3 hx hb hr hlocks hW rfl h dL_panelCountByFrames_16
theorem ch_L_panelCountByFrames : sw_cH yL_panelCountByFrames cL_panelCountByFrames 4 (some .int) [(0, 9, 12, 25)] 3 := ⟨q_705, q_1, q_1442, by decide +kernel⟩

def wL_panelMember (a1 : Int32) (a2 : Int32) (M : sM) (o : sO) (d : sE) (Q : Int32 → sM → sO → sE → Prop) : Prop :=
  wX6_panelMember a1 a2 M (fun r1 => ∀ o2 : sO, o2 = vp_updL o ((0 : Int32)).toNatClampNeg ((r1).toInt64) → (Q (0 : Int32) M o2 d)) (fun E9 => (E9 = "java/lang/IndexOutOfBoundsException" → (Q (1 : Int32) M o d)) ∧ (¬ E9 = "java/lang/IndexOutOfBoundsException" → ((E9 = "java/lang/IllegalArgumentException" → (Q (2 : Int32) M o d)) ∧ (¬ E9 = "java/lang/IllegalArgumentException" → ((E9 = "java/util/NoSuchElementException" → (Q (3 : Int32) M o d)) ∧ (¬ E9 = "java/util/NoSuchElementException" → (False)))))))
set_option maxRecDepth 20000 in
theorem kL_panelMember (l : Launch) (hst : l.stackTraces = false) (g : sG) (a1 : Int32) (a2 : Int32) (M : sM) (o : sO) (d : sE) (Q : Int32 → sM → sO → sE → Prop) (h : wL_panelMember a1 a2 M o d Q) : Met l yL_panelMember (sw_wsH yL_panelMember cL_panelMember 5 (some .int) [(0, 10, 13, 25), (0, 10, 17, 13), (0, 10, 21, 49)]) { frames := 8, cells := 2, slots := 12, locals := 138 } (va_Pc [.ref (sw_ad g 0), .int a1, .int a2, .ref (sw_ad g 233)] (sw_Pr g o d M)) (va_Qi (fun r u => Q r u.1 u.2.1 u.2.2) (sw_Po3 g) (sw_A g)) 2 12 (sw_A g) := by
  refine sw_metH (by decide) (Nat.le_of_ble_eq_true rfl) ?_
  intro p e s m args below meth c ls hx hb hr hts hown hml hlocks htab hW hl
  have hown : s.vm.findClass RL = some m.cls := hown
  have hl : lv_has ls 5 [(0, .ref (sw_ad g 0)), (1, .int a1), (2, .int a2), (3, .ref (sw_ad g 233))] := hl
  unfold wL_panelMember at h
  refine lv_aload_n hx hb dL_panelMember_0 rfl (lv_at hl 3 rfl) ?_
  refine lv_iconst (v := 0) hx hb dL_panelMember_1 (by decide) ?_
  refine lv_aload_n hx hb dL_panelMember_2 rfl (lv_at hl 0 rfl) ?_
  refine lv_iload_n hx hb dL_panelMember_3 rfl (lv_at hl 1 rfl) ?_
  refine lv_iload_n hx hb dL_panelMember_4 rfl (lv_at hl 2 rfl) ?_
  refine sw_xki (rest := [.int (0 : Int32), .ref (sw_ad g 233)]) (sw_xrunV (As := [.int a1, .int a2]) (rest := [.int (0 : Int32), .ref (sw_ad g 233)]) hx hb hml hown hts (kX6_panelMember l hst g o d a1 a2 M _ _ h) cv_X6_panelMember q_712 rfl rfl ⟨(Nat.le_of_ble_eq_true rfl), (Nat.le_of_ble_eq_true rfl)⟩ hW (Nat.le_of_ble_eq_true rfl) sl_0 rfl rfl hl.1 rfl (Nat.le_of_ble_eq_true rfl) dL_panelMember_5 ⟨(Nat.le_of_ble_eq_true rfl), (Nat.le_of_ble_eq_true rfl)⟩) hW (fun E9 ce9 q9 M9 H locs h hW f1 f2 f3 => ?_) (fun r1 M3 H locs h hW => ?_)
  · obtain ⟨h, e9⟩ := h
    rw [e9] at hW
    by_cases kE0 : E9 = "java/lang/IndexOutOfBoundsException"
    · replace h := h.1 kE0
      subst kE0
      refine sw_catch htab [] [(0, 10, 17, 13), (0, 10, 21, 49)] rfl hown hts (fun z hz => nomatch hz) ⟨by decide, by decide⟩ (by decide) q_429 cast_IndexOutOfBoundsException hW f1 f2 f3 ?_
      refine lv_astore (lv' := [(4, .ref q9), (0, .ref (sw_ad g 0)), (1, .int a1), (2, .int a2), (3, .ref (sw_ad g 233))]) hx hb dL_panelMember_13 hl (Nat.le_of_ble_eq_true rfl) rfl (fun ls hl => ?_)
      refine lv_iconst (v := 1) hx hb dL_panelMember_15 (by decide) ?_
      exact sw_ri3 hx hb hr hlocks hW rfl h dL_panelMember_16
    · replace h := h.2 kE0
      by_cases kE1 : E9 = "java/lang/IllegalArgumentException"
      · replace h := h.1 kE1
        subst kE1
        refine sw_catch htab [(0, 10, 13, 25)] [(0, 10, 21, 49)] rfl hown hts (fun z hz => by
      simp only [List.mem_cons, List.not_mem_nil, or_false] at hz
      rcases hz with rfl
      · exact ⟨by decide, "java/lang/IndexOutOfBoundsException", q_429, hW.2.2.2.2.2.2.2.1.2.2 ("java/lang/IllegalArgumentException", "java/lang/IndexOutOfBoundsException") (by decide)⟩) ⟨by decide, by decide⟩ (by decide) q_405 cast_IllegalArgumentException hW f1 f2 f3 ?_
        refine lv_astore (lv' := [(4, .ref q9), (0, .ref (sw_ad g 0)), (1, .int a1), (2, .int a2), (3, .ref (sw_ad g 233))]) hx hb dL_panelMember_17 hl (Nat.le_of_ble_eq_true rfl) rfl (fun ls hl => ?_)
        refine lv_iconst (v := 2) hx hb dL_panelMember_19 (by decide) ?_
        exact sw_ri3 hx hb hr hlocks hW rfl h dL_panelMember_20
      · replace h := h.2 kE1
        by_cases kE2 : E9 = "java/util/NoSuchElementException"
        · replace h := h.1 kE2
          subst kE2
          refine sw_catch htab [(0, 10, 13, 25), (0, 10, 17, 13)] [] rfl hown hts (fun z hz => by
      simp only [List.mem_cons, List.not_mem_nil, or_false] at hz
      rcases hz with rfl | rfl
      · exact ⟨by decide, "java/lang/IndexOutOfBoundsException", q_429, hW.2.2.2.2.2.2.2.1.2.2 ("java/util/NoSuchElementException", "java/lang/IndexOutOfBoundsException") (by decide)⟩
      · exact ⟨by decide, "java/lang/IllegalArgumentException", q_405, hW.2.2.2.2.2.2.2.1.2.2 ("java/util/NoSuchElementException", "java/lang/IllegalArgumentException") (by decide)⟩) ⟨by decide, by decide⟩ (by decide) q_556 cast_NoSuchElementException hW f1 f2 f3 ?_
          refine lv_astore (lv' := [(4, .ref q9), (0, .ref (sw_ad g 0)), (1, .int a1), (2, .int a2), (3, .ref (sw_ad g 233))]) hx hb dL_panelMember_21 hl (Nat.le_of_ble_eq_true rfl) rfl (fun ls hl => ?_)
          refine lv_iconst (v := 3) hx hb dL_panelMember_23 (by decide) ?_
          exact sw_ri3 hx hb hr hlocks hW rfl h dL_panelMember_24
        · replace h := h.2 kE2
          exact h.elim
  · obtain ⟨h, eM3⟩ := h
    rw [eM3] at hW
    refine lv_i2l hx hb dL_panelMember_8 rfl ?_
    refine sw_ls hx hb hW (vp_in_iff.mpr (by decide)) dL_panelMember_9 (fun H locs hW => ?_)
    obtain ⟨o2, eo2⟩ : ∃ z : sO, z = vp_updL o ((0 : Int32)).toNatClampNeg ((r1).toInt64) := ⟨_, rfl⟩
    rw [← eo2] at hW
    have h := h o2 eo2
    refine lv_goto (tgt := 25) hx hb dL_panelMember_10 (by decide) ?_
    refine lv_iconst (v := 0) hx hb dL_panelMember_25 (by decide) ?_
    exact sw_ri3 hx hb hr hlocks hW rfl h dL_panelMember_26
theorem ch_L_panelMember : sw_cH yL_panelMember cL_panelMember 5 (some .int) [(0, 10, 13, 25), (0, 10, 17, 13), (0, 10, 21, 49)] 4 := ⟨q_711, q_1, q_1443, by decide +kernel⟩

def wL_doorOf (a1 : Int32) (M : sM) (o : sO) (d : sE) (Q : Int32 → sM → sO → sE → Prop) : Prop :=
  wX6_doorOf a1 M (fun r1 => ∀ o2 : sO, o2 = vp_updL o ((0 : Int32)).toNatClampNeg ((r1).toInt64) → (Q (0 : Int32) M o2 d)) (fun E9 => (E9 = "java/util/NoSuchElementException" → (Q (1 : Int32) M o d)) ∧ (¬ E9 = "java/util/NoSuchElementException" → (False)))
set_option maxRecDepth 20000 in
theorem kL_doorOf (l : Launch) (hst : l.stackTraces = false) (g : sG) (a1 : Int32) (M : sM) (o : sO) (d : sE) (Q : Int32 → sM → sO → sE → Prop) (h : wL_doorOf a1 M o d Q) : Met l yL_doorOf (sw_wsH yL_doorOf cL_doorOf 4 (some .int) [(0, 9, 12, 49)]) { frames := 8, cells := 1, slots := 6, locals := 137 } (va_Pc [.ref (sw_ad g 0), .int a1, .ref (sw_ad g 233)] (sw_Pr g o d M)) (va_Qi (fun r u => Q r u.1 u.2.1 u.2.2) (sw_Po3 g) (sw_A g)) 1 6 (sw_A g) := by
  refine sw_metH (by decide) (Nat.le_of_ble_eq_true rfl) ?_
  intro p e s m args below meth c ls hx hb hr hts hown hml hlocks htab hW hl
  have hown : s.vm.findClass RL = some m.cls := hown
  have hl : lv_has ls 4 [(0, .ref (sw_ad g 0)), (1, .int a1), (2, .ref (sw_ad g 233))] := hl
  unfold wL_doorOf at h
  refine lv_aload_n hx hb dL_doorOf_0 rfl (lv_at hl 2 rfl) ?_
  refine lv_iconst (v := 0) hx hb dL_doorOf_1 (by decide) ?_
  refine lv_aload_n hx hb dL_doorOf_2 rfl (lv_at hl 0 rfl) ?_
  refine lv_iload_n hx hb dL_doorOf_3 rfl (lv_at hl 1 rfl) ?_
  refine sw_xki (rest := [.int (0 : Int32), .ref (sw_ad g 233)]) (sw_xrunV (As := [.int a1]) (rest := [.int (0 : Int32), .ref (sw_ad g 233)]) hx hb hml hown hts (kX6_doorOf l hst g o d a1 M _ _ h) cv_X6_doorOf q_722 rfl rfl ⟨(Nat.le_of_ble_eq_true rfl), (Nat.le_of_ble_eq_true rfl)⟩ hW (Nat.le_of_ble_eq_true rfl) sl_0 rfl rfl hl.1 rfl (Nat.le_of_ble_eq_true rfl) dL_doorOf_4 ⟨(Nat.le_of_ble_eq_true rfl), (Nat.le_of_ble_eq_true rfl)⟩) hW (fun E9 ce9 q9 M9 H locs h hW f1 f2 f3 => ?_) (fun r1 M3 H locs h hW => ?_)
  · obtain ⟨h, e9⟩ := h
    rw [e9] at hW
    by_cases kE0 : E9 = "java/util/NoSuchElementException"
    · replace h := h.1 kE0
      subst kE0
      refine sw_catch htab [] [] rfl hown hts (fun z hz => nomatch hz) ⟨by decide, by decide⟩ (by decide) q_556 cast_NoSuchElementException hW f1 f2 f3 ?_
      refine lv_astore_n (lv' := [(3, .ref q9), (0, .ref (sw_ad g 0)), (1, .int a1), (2, .ref (sw_ad g 233))]) hx hb dL_doorOf_12 rfl hl (Nat.le_of_ble_eq_true rfl) rfl (fun ls hl => ?_)
      refine lv_iconst (v := 1) hx hb dL_doorOf_13 (by decide) ?_
      exact sw_ri3 hx hb hr hlocks hW rfl h dL_doorOf_14
    · replace h := h.2 kE0
      exact h.elim
  · obtain ⟨h, eM3⟩ := h
    rw [eM3] at hW
    refine lv_i2l hx hb dL_doorOf_7 rfl ?_
    refine sw_ls hx hb hW (vp_in_iff.mpr (by decide)) dL_doorOf_8 (fun H locs hW => ?_)
    obtain ⟨o2, eo2⟩ : ∃ z : sO, z = vp_updL o ((0 : Int32)).toNatClampNeg ((r1).toInt64) := ⟨_, rfl⟩
    rw [← eo2] at hW
    have h := h o2 eo2
    refine lv_goto (tgt := 15) hx hb dL_doorOf_9 (by decide) ?_
    refine lv_iconst (v := 0) hx hb dL_doorOf_15 (by decide) ?_
    exact sw_ri3 hx hb hr hlocks hW rfl h dL_doorOf_16
theorem ch_L_doorOf : sw_cH yL_doorOf cL_doorOf 4 (some .int) [(0, 9, 12, 49)] 3 := ⟨q_721, q_1, q_1444, by decide +kernel⟩

def wL_isRevoked (a1 : Int32) (M : sM) (o : sO) (d : sE) (Q : Int32 → sM → sO → sE → Prop) : Prop :=
  wX6_isRevoked a1 M (fun r1 => (r1 = 0 → (∀ o3 : sO, o3 = vp_updL o ((0 : Int32)).toNatClampNeg ((0 : Int64)) → (Q (0 : Int32) M o3 d))) ∧ (¬ r1 = 0 → (∀ o4 : sO, o4 = vp_updL o ((0 : Int32)).toNatClampNeg ((1 : Int64)) → (Q (0 : Int32) M o4 d)))) (fun E9 => (E9 = "java/util/NoSuchElementException" → (Q (1 : Int32) M o d)) ∧ (¬ E9 = "java/util/NoSuchElementException" → (False)))
set_option maxRecDepth 20000 in
theorem kL_isRevoked (l : Launch) (hst : l.stackTraces = false) (g : sG) (a1 : Int32) (M : sM) (o : sO) (d : sE) (Q : Int32 → sM → sO → sE → Prop) (h : wL_isRevoked a1 M o d Q) : Met l yL_isRevoked (sw_wsH yL_isRevoked cL_isRevoked 4 (some .int) [(0, 16, 19, 49)]) { frames := 8, cells := 1, slots := 6, locals := 137 } (va_Pc [.ref (sw_ad g 0), .int a1, .ref (sw_ad g 233)] (sw_Pr g o d M)) (va_Qi (fun r u => Q r u.1 u.2.1 u.2.2) (sw_Po3 g) (sw_A g)) 1 6 (sw_A g) := by
  refine sw_metH (by decide) (Nat.le_of_ble_eq_true rfl) ?_
  intro p e s m args below meth c ls hx hb hr hts hown hml hlocks htab hW hl
  have hown : s.vm.findClass RL = some m.cls := hown
  have hl : lv_has ls 4 [(0, .ref (sw_ad g 0)), (1, .int a1), (2, .ref (sw_ad g 233))] := hl
  unfold wL_isRevoked at h
  refine lv_aload_n hx hb dL_isRevoked_0 rfl (lv_at hl 2 rfl) ?_
  refine lv_iconst (v := 0) hx hb dL_isRevoked_1 (by decide) ?_
  refine lv_aload_n hx hb dL_isRevoked_2 rfl (lv_at hl 0 rfl) ?_
  refine lv_iload_n hx hb dL_isRevoked_3 rfl (lv_at hl 1 rfl) ?_
  refine sw_xki (rest := [.int (0 : Int32), .ref (sw_ad g 233)]) (sw_xrunV (As := [.int a1]) (rest := [.int (0 : Int32), .ref (sw_ad g 233)]) hx hb hml hown hts (kX6_isRevoked l hst g o d a1 M _ _ h) cv_X6_isRevoked q_732 rfl rfl ⟨(Nat.le_of_ble_eq_true rfl), (Nat.le_of_ble_eq_true rfl)⟩ hW (Nat.le_of_ble_eq_true rfl) sl_0 rfl rfl hl.1 rfl (Nat.le_of_ble_eq_true rfl) dL_isRevoked_4 ⟨(Nat.le_of_ble_eq_true rfl), (Nat.le_of_ble_eq_true rfl)⟩) hW (fun E9 ce9 q9 M9 H locs h hW f1 f2 f3 => ?_) (fun r1 M5 H locs h hW => ?_)
  · obtain ⟨h, e9⟩ := h
    rw [e9] at hW
    by_cases kE0 : E9 = "java/util/NoSuchElementException"
    · replace h := h.1 kE0
      subst kE0
      refine sw_catch htab [] [] rfl hown hts (fun z hz => nomatch hz) ⟨by decide, by decide⟩ (by decide) q_556 cast_NoSuchElementException hW f1 f2 f3 ?_
      refine lv_astore_n (lv' := [(3, .ref q9), (0, .ref (sw_ad g 0)), (1, .int a1), (2, .ref (sw_ad g 233))]) hx hb dL_isRevoked_19 rfl hl (Nat.le_of_ble_eq_true rfl) rfl (fun ls hl => ?_)
      refine lv_iconst (v := 1) hx hb dL_isRevoked_20 (by decide) ?_
      exact sw_ri3 hx hb hr hlocks hW rfl h dL_isRevoked_21
    · replace h := h.2 kE0
      exact h.elim
  · obtain ⟨h, eM5⟩ := h
    rw [eM5] at hW
    refine lv_if_eq (tgt := 14) hx hb dL_isRevoked_7 (by decide) (fun k2 => ?_) (fun k2 => ?_)
    · have h := h.1 k2
      refine lv_lconst (v := 0) hx hb dL_isRevoked_14 (by decide) ?_
      refine sw_ls hx hb hW (vp_in_iff.mpr (by decide)) dL_isRevoked_15 (fun H locs hW => ?_)
      obtain ⟨o3, eo3⟩ : ∃ z : sO, z = vp_updL o ((0 : Int32)).toNatClampNeg ((0 : Int64)) := ⟨_, rfl⟩
      rw [← eo3] at hW
      have h := h o3 eo3
      refine lv_goto (tgt := 22) hx hb dL_isRevoked_16 (by decide) ?_
      refine lv_iconst (v := 0) hx hb dL_isRevoked_22 (by decide) ?_
      exact sw_ri3 hx hb hr hlocks hW rfl h dL_isRevoked_23
    · have h := h.2 k2
      refine lv_lconst (v := 1) hx hb dL_isRevoked_10 (by decide) ?_
      refine lv_goto (tgt := 15) hx hb dL_isRevoked_11 (by decide) ?_
      refine sw_ls hx hb hW (vp_in_iff.mpr (by decide)) dL_isRevoked_15 (fun H locs hW => ?_)
      obtain ⟨o4, eo4⟩ : ∃ z : sO, z = vp_updL o ((0 : Int32)).toNatClampNeg ((1 : Int64)) := ⟨_, rfl⟩
      rw [← eo4] at hW
      have h := h o4 eo4
      refine lv_goto (tgt := 22) hx hb dL_isRevoked_16 (by decide) ?_
      refine lv_iconst (v := 0) hx hb dL_isRevoked_22 (by decide) ?_
      exact sw_ri3 hx hb hr hlocks hW rfl h dL_isRevoked_23
theorem ch_L_isRevoked : sw_cH yL_isRevoked cL_isRevoked 4 (some .int) [(0, 16, 19, 49)] 3 := ⟨q_731, q_1, q_1445, by decide +kernel⟩

def wL_meanGrade  (M : sM) (o : sO) (d : sE) (Q : Int32 → sM → sO → sE → Prop) : Prop :=
  wX6_meanGrade M (fun r1 => ∀ d2 : sE, d2 = vf_upd d ((0 : Int32)).toNatClampNeg r1 → (Q (0 : Int32) M o d2)) (fun E9 => (E9 = "java/lang/ArithmeticException" → (Q (1 : Int32) M o d)) ∧ (¬ E9 = "java/lang/ArithmeticException" → (False)))
set_option maxRecDepth 20000 in
theorem kL_meanGrade (l : Launch) (hst : l.stackTraces = false) (g : sG)  (M : sM) (o : sO) (d : sE) (Q : Int32 → sM → sO → sE → Prop) (h : wL_meanGrade  M o d Q) : Met l yL_meanGrade (sw_wsH yL_meanGrade cL_meanGrade 3 (some .int) [(0, 7, 10, 121)]) { frames := 7, cells := 1, slots := 6, locals := 117 } (va_Pc [.ref (sw_ad g 0), .ref (sw_ad g 234)] (sw_Pr g o d M)) (va_Qi (fun r u => Q r u.1 u.2.1 u.2.2) (sw_Po3 g) (sw_A g)) 1 6 (sw_A g) := by
  refine sw_metH (by decide) (Nat.le_of_ble_eq_true rfl) ?_
  intro p e s m args below meth c ls hx hb hr hts hown hml hlocks htab hW hl
  have hown : s.vm.findClass RL = some m.cls := hown
  have hl : lv_has ls 3 [(0, .ref (sw_ad g 0)), (1, .ref (sw_ad g 234))] := hl
  unfold wL_meanGrade at h
  refine lv_aload_n hx hb dL_meanGrade_0 rfl (lv_at hl 1 rfl) ?_
  refine lv_iconst (v := 0) hx hb dL_meanGrade_1 (by decide) ?_
  refine lv_aload_n hx hb dL_meanGrade_2 rfl (lv_at hl 0 rfl) ?_
  refine sw_xkd (rest := [.int (0 : Int32), .ref (sw_ad g 234)]) (sw_xrunV (As := []) (rest := [.int (0 : Int32), .ref (sw_ad g 234)]) hx hb hml hown hts (kX6_meanGrade l hst g o d M _ _ h) cv_X6_meanGrade q_744 rfl rfl ⟨(Nat.le_of_ble_eq_true rfl), (Nat.le_of_ble_eq_true rfl)⟩ hW (Nat.le_of_ble_eq_true rfl) sl_0 rfl rfl hl.1 rfl (Nat.le_of_ble_eq_true rfl) dL_meanGrade_3 ⟨(Nat.le_of_ble_eq_true rfl), (Nat.le_of_ble_eq_true rfl)⟩) hW (fun E9 ce9 q9 M9 H locs h hW f1 f2 f3 => ?_) (fun r1 M3 H locs h hW => ?_)
  · obtain ⟨h, e9⟩ := h
    rw [e9] at hW
    by_cases kE0 : E9 = "java/lang/ArithmeticException"
    · replace h := h.1 kE0
      subst kE0
      refine sw_catch htab [] [] rfl hown hts (fun z hz => nomatch hz) ⟨by decide, by decide⟩ (by decide) q_738 cast_ArithmeticException hW f1 f2 f3 ?_
      refine lv_astore_n (lv' := [(2, .ref q9), (0, .ref (sw_ad g 0)), (1, .ref (sw_ad g 234))]) hx hb dL_meanGrade_10 rfl hl (Nat.le_of_ble_eq_true rfl) rfl (fun ls hl => ?_)
      refine lv_iconst (v := 1) hx hb dL_meanGrade_11 (by decide) ?_
      exact sw_ri3 hx hb hr hlocks hW rfl h dL_meanGrade_12
    · replace h := h.2 kE0
      exact h.elim
  · obtain ⟨h, eM3⟩ := h
    rw [eM3] at hW
    refine sw_ds hx hb hW (vp_in_iff.mpr (by decide)) dL_meanGrade_6 (fun H locs hW => ?_)
    obtain ⟨d2, ed2⟩ : ∃ z : sE, z = vf_upd d ((0 : Int32)).toNatClampNeg r1 := ⟨_, rfl⟩
    rw [← ed2] at hW
    have h := h d2 ed2
    refine lv_goto (tgt := 13) hx hb dL_meanGrade_7 (by decide) ?_
    refine lv_iconst (v := 0) hx hb dL_meanGrade_13 (by decide) ?_
    exact sw_ri3 hx hb hr hlocks hW rfl h dL_meanGrade_14
theorem ch_L_meanGrade : sw_cH yL_meanGrade cL_meanGrade 3 (some .int) [(0, 7, 10, 121)] 2 := ⟨q_737, q_1, q_1446, by decide +kernel⟩

def wL_passShare  (M : sM) (o : sO) (d : sE) (Q : Int32 → sM → sO → sE → Prop) : Prop :=
  wX6_passShare M (fun r1 => vf_n64 (FP.f2d r1) ∧ (∀ d3 : sE, d3 = vf_upd d ((0 : Int32)).toNatClampNeg ((FP.f2d r1)) → (Q (0 : Int32) M o d3))) (fun E9 => (E9 = "java/lang/ArithmeticException" → (Q (1 : Int32) M o d)) ∧ (¬ E9 = "java/lang/ArithmeticException" → (False)))
set_option maxRecDepth 20000 in
theorem kL_passShare (l : Launch) (hst : l.stackTraces = false) (g : sG)  (M : sM) (o : sO) (d : sE) (Q : Int32 → sM → sO → sE → Prop) (h : wL_passShare  M o d Q) : Met l yL_passShare (sw_wsH yL_passShare cL_passShare 3 (some .int) [(0, 8, 11, 121)]) { frames := 7, cells := 1, slots := 6, locals := 118 } (va_Pc [.ref (sw_ad g 0), .ref (sw_ad g 234)] (sw_Pr g o d M)) (va_Qi (fun r u => Q r u.1 u.2.1 u.2.2) (sw_Po3 g) (sw_A g)) 1 6 (sw_A g) := by
  refine sw_metH (by decide) (Nat.le_of_ble_eq_true rfl) ?_
  intro p e s m args below meth c ls hx hb hr hts hown hml hlocks htab hW hl
  have hown : s.vm.findClass RL = some m.cls := hown
  have hl : lv_has ls 3 [(0, .ref (sw_ad g 0)), (1, .ref (sw_ad g 234))] := hl
  unfold wL_passShare at h
  refine lv_aload_n hx hb dL_passShare_0 rfl (lv_at hl 1 rfl) ?_
  refine lv_iconst (v := 0) hx hb dL_passShare_1 (by decide) ?_
  refine lv_aload_n hx hb dL_passShare_2 rfl (lv_at hl 0 rfl) ?_
  refine sw_xkf (rest := [.int (0 : Int32), .ref (sw_ad g 234)]) (sw_xrunV (As := []) (rest := [.int (0 : Int32), .ref (sw_ad g 234)]) hx hb hml hown hts (kX6_passShare l hst g o d M _ _ h) cv_X6_passShare q_756 rfl rfl ⟨(Nat.le_of_ble_eq_true rfl), (Nat.le_of_ble_eq_true rfl)⟩ hW (Nat.le_of_ble_eq_true rfl) sl_0 rfl rfl hl.1 rfl (Nat.le_of_ble_eq_true rfl) dL_passShare_3 ⟨(Nat.le_of_ble_eq_true rfl), (Nat.le_of_ble_eq_true rfl)⟩) hW (fun E9 ce9 q9 M9 H locs h hW f1 f2 f3 => ?_) (fun r1 M4 H locs h hW => ?_)
  · obtain ⟨h, e9⟩ := h
    rw [e9] at hW
    by_cases kE0 : E9 = "java/lang/ArithmeticException"
    · replace h := h.1 kE0
      subst kE0
      refine sw_catch htab [] [] rfl hown hts (fun z hz => nomatch hz) ⟨by decide, by decide⟩ (by decide) q_738 cast_ArithmeticException hW f1 f2 f3 ?_
      refine lv_astore_n (lv' := [(2, .ref q9), (0, .ref (sw_ad g 0)), (1, .ref (sw_ad g 234))]) hx hb dL_passShare_11 rfl hl (Nat.le_of_ble_eq_true rfl) rfl (fun ls hl => ?_)
      refine lv_iconst (v := 1) hx hb dL_passShare_12 (by decide) ?_
      exact sw_ri3 hx hb hr hlocks hW rfl h dL_passShare_13
    · replace h := h.2 kE0
      exact h.elim
  · obtain ⟨h, eM4⟩ := h
    rw [eM4] at hW
    have z2 := h.1
    have h := h.2
    refine lv_f2d hx hb dL_passShare_6 z2 ?_
    refine sw_ds hx hb hW (vp_in_iff.mpr (by decide)) dL_passShare_7 (fun H locs hW => ?_)
    obtain ⟨d3, ed3⟩ : ∃ z : sE, z = vf_upd d ((0 : Int32)).toNatClampNeg ((FP.f2d r1)) := ⟨_, rfl⟩
    rw [← ed3] at hW
    have h := h d3 ed3
    refine lv_goto (tgt := 14) hx hb dL_passShare_8 (by decide) ?_
    refine lv_iconst (v := 0) hx hb dL_passShare_14 (by decide) ?_
    exact sw_ri3 hx hb hr hlocks hW rfl h dL_passShare_15
theorem ch_L_passShare : sw_cH yL_passShare cL_passShare 3 (some .int) [(0, 8, 11, 121)] 2 := ⟨q_755, q_1, q_1447, by decide +kernel⟩

def wL_append (a1 : Int32) (M : sM) (o : sO) (d : sE) (Q : Int32 → sM → sO → sE → Prop) : Prop :=
  wX6_append a1 M (fun r1 M2 => ∀ o3 : sO, o3 = vp_updL o ((0 : Int32)).toNatClampNeg ((r1).toInt64) → (Q (0 : Int32) M2 o3 d)) (fun E9 M9 => (E9 = "java/lang/IllegalStateException" → (Q (1 : Int32) M9 o d)) ∧ (¬ E9 = "java/lang/IllegalStateException" → (False)))
set_option maxRecDepth 20000 in
theorem kL_append (l : Launch) (hst : l.stackTraces = false) (g : sG) (a1 : Int32) (M : sM) (o : sO) (d : sE) (Q : Int32 → sM → sO → sE → Prop) (h : wL_append a1 M o d Q) : Met l yL_append (sw_wsH yL_append cL_append 4 (some .int) [(0, 9, 12, 15)]) { frames := 7, cells := 1, slots := 6, locals := 116 } (va_Pc [.ref (sw_ad g 0), .int a1, .ref (sw_ad g 233)] (sw_Pr g o d M)) (va_Qi (fun r u => Q r u.1 u.2.1 u.2.2) (sw_Po3 g) (sw_A g)) 1 6 (sw_A g) := by
  refine sw_metH (by decide) (Nat.le_of_ble_eq_true rfl) ?_
  intro p e s m args below meth c ls hx hb hr hts hown hml hlocks htab hW hl
  have hown : s.vm.findClass RL = some m.cls := hown
  have hl : lv_has ls 4 [(0, .ref (sw_ad g 0)), (1, .int a1), (2, .ref (sw_ad g 233))] := hl
  unfold wL_append at h
  refine lv_aload_n hx hb dL_append_0 rfl (lv_at hl 2 rfl) ?_
  refine lv_iconst (v := 0) hx hb dL_append_1 (by decide) ?_
  refine lv_aload_n hx hb dL_append_2 rfl (lv_at hl 0 rfl) ?_
  refine lv_iload_n hx hb dL_append_3 rfl (lv_at hl 1 rfl) ?_
  refine sw_xki (rest := [.int (0 : Int32), .ref (sw_ad g 233)]) (sw_xrunV (As := [.int a1]) (rest := [.int (0 : Int32), .ref (sw_ad g 233)]) hx hb hml hown hts (kX6_append l hst g o d a1 M _ _ h) cv_X6_append q_762 rfl rfl ⟨(Nat.le_of_ble_eq_true rfl), (Nat.le_of_ble_eq_true rfl)⟩ hW (Nat.le_of_ble_eq_true rfl) sl_0 rfl rfl hl.1 rfl (Nat.le_of_ble_eq_true rfl) dL_append_4 ⟨(Nat.le_of_ble_eq_true rfl), (Nat.le_of_ble_eq_true rfl)⟩) hW (fun E9 ce9 q9 M9 H locs h hW f1 f2 f3 => ?_) (fun r1 M2 H locs h hW => ?_)
  · by_cases kE0 : E9 = "java/lang/IllegalStateException"
    · replace h := h.1 kE0
      subst kE0
      refine sw_catch htab [] [] rfl hown hts (fun z hz => nomatch hz) ⟨by decide, by decide⟩ (by decide) q_406 cast_IllegalStateException hW f1 f2 f3 ?_
      refine lv_astore_n (lv' := [(3, .ref q9), (0, .ref (sw_ad g 0)), (1, .int a1), (2, .ref (sw_ad g 233))]) hx hb dL_append_12 rfl hl (Nat.le_of_ble_eq_true rfl) rfl (fun ls hl => ?_)
      refine lv_iconst (v := 1) hx hb dL_append_13 (by decide) ?_
      exact sw_ri3 hx hb hr hlocks hW rfl h dL_append_14
    · replace h := h.2 kE0
      exact h.elim
  · refine lv_i2l hx hb dL_append_7 rfl ?_
    refine sw_ls hx hb hW (vp_in_iff.mpr (by decide)) dL_append_8 (fun H locs hW => ?_)
    obtain ⟨o3, eo3⟩ : ∃ z : sO, z = vp_updL o ((0 : Int32)).toNatClampNeg ((r1).toInt64) := ⟨_, rfl⟩
    rw [← eo3] at hW
    have h := h o3 eo3
    refine lv_goto (tgt := 15) hx hb dL_append_9 (by decide) ?_
    refine lv_iconst (v := 0) hx hb dL_append_15 (by decide) ?_
    exact sw_ri3 hx hb hr hlocks hW rfl h dL_append_16
theorem ch_L_append : sw_cH yL_append cL_append 4 (some .int) [(0, 9, 12, 15)] 3 := ⟨q_761, q_1, q_1448, by decide +kernel⟩

def wL_run  (M : sM) (o : sO) (d : sE) (Q : Int32 → sM → sO → sE → Prop) : Prop :=
  wX6_run M (fun r1 M2 => ∀ o3 : sO, o3 = vp_updL o ((0 : Int32)).toNatClampNeg ((r1).toInt64) → (Q (0 : Int32) M2 o3 d)) (fun E9 M9 => (E9 = "java/lang/IllegalArgumentException" → (Q (1 : Int32) M9 o d)) ∧ (¬ E9 = "java/lang/IllegalArgumentException" → ((E9 = "java/lang/UnsupportedOperationException" → (Q (2 : Int32) M9 o d)) ∧ (¬ E9 = "java/lang/UnsupportedOperationException" → (False)))))
set_option maxRecDepth 20000 in
theorem kL_run (l : Launch) (hst : l.stackTraces = false) (g : sG)  (M : sM) (o : sO) (d : sE) (Q : Int32 → sM → sO → sE → Prop) (h : wL_run  M o d Q) : Met l yL_run (sw_wsH yL_run cL_run 3 (some .int) [(0, 8, 11, 13), (0, 8, 14, 30)]) { frames := 8, cells := 1, slots := 6, locals := 199 } (va_Pc [.ref (sw_ad g 0), .ref (sw_ad g 233)] (sw_Pr g o d M)) (va_Qi (fun r u => Q r u.1 u.2.1 u.2.2) (sw_Po3 g) (sw_A g)) 1 6 (sw_A g) := by
  refine sw_metH (by decide) (Nat.le_of_ble_eq_true rfl) ?_
  intro p e s m args below meth c ls hx hb hr hts hown hml hlocks htab hW hl
  have hown : s.vm.findClass RL = some m.cls := hown
  have hl : lv_has ls 3 [(0, .ref (sw_ad g 0)), (1, .ref (sw_ad g 233))] := hl
  unfold wL_run at h
  refine lv_aload_n hx hb dL_run_0 rfl (lv_at hl 1 rfl) ?_
  refine lv_iconst (v := 0) hx hb dL_run_1 (by decide) ?_
  refine lv_aload_n hx hb dL_run_2 rfl (lv_at hl 0 rfl) ?_
  refine sw_xki (rest := [.int (0 : Int32), .ref (sw_ad g 233)]) (sw_xrunV (As := []) (rest := [.int (0 : Int32), .ref (sw_ad g 233)]) hx hb hml hown hts (kX6_run l hst g o d M _ _ h) cv_X6_run q_776 rfl rfl ⟨(Nat.le_of_ble_eq_true rfl), (Nat.le_of_ble_eq_true rfl)⟩ hW (Nat.le_of_ble_eq_true rfl) sl_0 rfl rfl hl.1 rfl (Nat.le_of_ble_eq_true rfl) dL_run_3 ⟨(Nat.le_of_ble_eq_true rfl), (Nat.le_of_ble_eq_true rfl)⟩) hW (fun E9 ce9 q9 M9 H locs h hW f1 f2 f3 => ?_) (fun r1 M2 H locs h hW => ?_)
  · by_cases kE0 : E9 = "java/lang/IllegalArgumentException"
    · replace h := h.1 kE0
      subst kE0
      refine sw_catch htab [] [(0, 8, 14, 30)] rfl hown hts (fun z hz => nomatch hz) ⟨by decide, by decide⟩ (by decide) q_405 cast_IllegalArgumentException hW f1 f2 f3 ?_
      refine lv_astore_n (lv' := [(2, .ref q9), (0, .ref (sw_ad g 0)), (1, .ref (sw_ad g 233))]) hx hb dL_run_11 rfl hl (Nat.le_of_ble_eq_true rfl) rfl (fun ls hl => ?_)
      refine lv_iconst (v := 1) hx hb dL_run_12 (by decide) ?_
      exact sw_ri3 hx hb hr hlocks hW rfl h dL_run_13
    · replace h := h.2 kE0
      by_cases kE1 : E9 = "java/lang/UnsupportedOperationException"
      · replace h := h.1 kE1
        subst kE1
        refine sw_catch htab [(0, 8, 11, 13)] [] rfl hown hts (fun z hz => by
      simp only [List.mem_cons, List.not_mem_nil, or_false] at hz
      rcases hz with rfl
      · exact ⟨by decide, "java/lang/IllegalArgumentException", q_405, hW.2.2.2.2.2.2.2.1.2.2 ("java/lang/UnsupportedOperationException", "java/lang/IllegalArgumentException") (by decide)⟩) ⟨by decide, by decide⟩ (by decide) q_470 cast_UnsupportedOperationException hW f1 f2 f3 ?_
        refine lv_astore_n (lv' := [(2, .ref q9), (0, .ref (sw_ad g 0)), (1, .ref (sw_ad g 233))]) hx hb dL_run_14 rfl hl (Nat.le_of_ble_eq_true rfl) rfl (fun ls hl => ?_)
        refine lv_iconst (v := 2) hx hb dL_run_15 (by decide) ?_
        exact sw_ri3 hx hb hr hlocks hW rfl h dL_run_16
      · replace h := h.2 kE1
        exact h.elim
  · refine lv_i2l hx hb dL_run_6 rfl ?_
    refine sw_ls hx hb hW (vp_in_iff.mpr (by decide)) dL_run_7 (fun H locs hW => ?_)
    obtain ⟨o3, eo3⟩ : ∃ z : sO, z = vp_updL o ((0 : Int32)).toNatClampNeg ((r1).toInt64) := ⟨_, rfl⟩
    rw [← eo3] at hW
    have h := h o3 eo3
    refine lv_goto (tgt := 17) hx hb dL_run_8 (by decide) ?_
    refine lv_iconst (v := 0) hx hb dL_run_17 (by decide) ?_
    exact sw_ri3 hx hb hr hlocks hW rfl h dL_run_18
theorem ch_L_run : sw_cH yL_run cL_run 3 (some .int) [(0, 8, 11, 13), (0, 8, 14, 30)] 2 := ⟨q_775, q_1, q_1449, by decide +kernel⟩

def wL_errorPosition  (M : sM) (o : sO) (d : sE) (Q : Int32 → sM → sO → sE → Prop) : Prop :=
  wX6_errorPosition M (fun r1 => ∀ o2 : sO, o2 = vp_updL o ((0 : Int32)).toNatClampNeg ((r1).toInt64) → (Q (0 : Int32) M o2 d)) (fun E9 => (E9 = "java/util/NoSuchElementException" → (Q (1 : Int32) M o d)) ∧ (¬ E9 = "java/util/NoSuchElementException" → (False)))
set_option maxRecDepth 20000 in
theorem kL_errorPosition (l : Launch) (hst : l.stackTraces = false) (g : sG)  (M : sM) (o : sO) (d : sE) (Q : Int32 → sM → sO → sE → Prop) (h : wL_errorPosition  M o d Q) : Met l yL_errorPosition (sw_wsH yL_errorPosition cL_errorPosition 3 (some .int) [(0, 8, 11, 49)]) { frames := 8, cells := 1, slots := 6, locals := 135 } (va_Pc [.ref (sw_ad g 0), .ref (sw_ad g 233)] (sw_Pr g o d M)) (va_Qi (fun r u => Q r u.1 u.2.1 u.2.2) (sw_Po3 g) (sw_A g)) 1 6 (sw_A g) := by
  refine sw_metH (by decide) (Nat.le_of_ble_eq_true rfl) ?_
  intro p e s m args below meth c ls hx hb hr hts hown hml hlocks htab hW hl
  have hown : s.vm.findClass RL = some m.cls := hown
  have hl : lv_has ls 3 [(0, .ref (sw_ad g 0)), (1, .ref (sw_ad g 233))] := hl
  unfold wL_errorPosition at h
  refine lv_aload_n hx hb dL_errorPosition_0 rfl (lv_at hl 1 rfl) ?_
  refine lv_iconst (v := 0) hx hb dL_errorPosition_1 (by decide) ?_
  refine lv_aload_n hx hb dL_errorPosition_2 rfl (lv_at hl 0 rfl) ?_
  refine sw_xki (rest := [.int (0 : Int32), .ref (sw_ad g 233)]) (sw_xrunV (As := []) (rest := [.int (0 : Int32), .ref (sw_ad g 233)]) hx hb hml hown hts (kX6_errorPosition l hst g o d M _ _ h) cv_X6_errorPosition q_865 rfl rfl ⟨(Nat.le_of_ble_eq_true rfl), (Nat.le_of_ble_eq_true rfl)⟩ hW (Nat.le_of_ble_eq_true rfl) sl_0 rfl rfl hl.1 rfl (Nat.le_of_ble_eq_true rfl) dL_errorPosition_3 ⟨(Nat.le_of_ble_eq_true rfl), (Nat.le_of_ble_eq_true rfl)⟩) hW (fun E9 ce9 q9 M9 H locs h hW f1 f2 f3 => ?_) (fun r1 M3 H locs h hW => ?_)
  · obtain ⟨h, e9⟩ := h
    rw [e9] at hW
    by_cases kE0 : E9 = "java/util/NoSuchElementException"
    · replace h := h.1 kE0
      subst kE0
      refine sw_catch htab [] [] rfl hown hts (fun z hz => nomatch hz) ⟨by decide, by decide⟩ (by decide) q_556 cast_NoSuchElementException hW f1 f2 f3 ?_
      refine lv_astore_n (lv' := [(2, .ref q9), (0, .ref (sw_ad g 0)), (1, .ref (sw_ad g 233))]) hx hb dL_errorPosition_11 rfl hl (Nat.le_of_ble_eq_true rfl) rfl (fun ls hl => ?_)
      refine lv_iconst (v := 1) hx hb dL_errorPosition_12 (by decide) ?_
      exact sw_ri3 hx hb hr hlocks hW rfl h dL_errorPosition_13
    · replace h := h.2 kE0
      exact h.elim
  · obtain ⟨h, eM3⟩ := h
    rw [eM3] at hW
    refine lv_i2l hx hb dL_errorPosition_6 rfl ?_
    refine sw_ls hx hb hW (vp_in_iff.mpr (by decide)) dL_errorPosition_7 (fun H locs hW => ?_)
    obtain ⟨o2, eo2⟩ : ∃ z : sO, z = vp_updL o ((0 : Int32)).toNatClampNeg ((r1).toInt64) := ⟨_, rfl⟩
    rw [← eo2] at hW
    have h := h o2 eo2
    refine lv_goto (tgt := 14) hx hb dL_errorPosition_8 (by decide) ?_
    refine lv_iconst (v := 0) hx hb dL_errorPosition_14 (by decide) ?_
    exact sw_ri3 hx hb hr hlocks hW rfl h dL_errorPosition_15
theorem ch_L_errorPosition : sw_cH yL_errorPosition cL_errorPosition 3 (some .int) [(0, 8, 11, 49)] 2 := ⟨q_864, q_1, q_1450, by decide +kernel⟩

def wL_failedCommand  (M : sM) (o : sO) (d : sE) (Q : Int32 → sM → sO → sE → Prop) : Prop :=
  wX6_failedCommand M (fun r1 => ∀ o2 : sO, o2 = vp_updL o ((0 : Int32)).toNatClampNeg ((r1).toInt64) → (Q (0 : Int32) M o2 d)) (fun E9 => (E9 = "java/util/NoSuchElementException" → (Q (1 : Int32) M o d)) ∧ (¬ E9 = "java/util/NoSuchElementException" → (False)))
set_option maxRecDepth 20000 in
theorem kL_failedCommand (l : Launch) (hst : l.stackTraces = false) (g : sG)  (M : sM) (o : sO) (d : sE) (Q : Int32 → sM → sO → sE → Prop) (h : wL_failedCommand  M o d Q) : Met l yL_failedCommand (sw_wsH yL_failedCommand cL_failedCommand 3 (some .int) [(0, 8, 11, 49)]) { frames := 8, cells := 1, slots := 6, locals := 135 } (va_Pc [.ref (sw_ad g 0), .ref (sw_ad g 233)] (sw_Pr g o d M)) (va_Qi (fun r u => Q r u.1 u.2.1 u.2.2) (sw_Po3 g) (sw_A g)) 1 6 (sw_A g) := by
  refine sw_metH (by decide) (Nat.le_of_ble_eq_true rfl) ?_
  intro p e s m args below meth c ls hx hb hr hts hown hml hlocks htab hW hl
  have hown : s.vm.findClass RL = some m.cls := hown
  have hl : lv_has ls 3 [(0, .ref (sw_ad g 0)), (1, .ref (sw_ad g 233))] := hl
  unfold wL_failedCommand at h
  refine lv_aload_n hx hb dL_failedCommand_0 rfl (lv_at hl 1 rfl) ?_
  refine lv_iconst (v := 0) hx hb dL_failedCommand_1 (by decide) ?_
  refine lv_aload_n hx hb dL_failedCommand_2 rfl (lv_at hl 0 rfl) ?_
  refine sw_xki (rest := [.int (0 : Int32), .ref (sw_ad g 233)]) (sw_xrunV (As := []) (rest := [.int (0 : Int32), .ref (sw_ad g 233)]) hx hb hml hown hts (kX6_failedCommand l hst g o d M _ _ h) cv_X6_failedCommand q_871 rfl rfl ⟨(Nat.le_of_ble_eq_true rfl), (Nat.le_of_ble_eq_true rfl)⟩ hW (Nat.le_of_ble_eq_true rfl) sl_0 rfl rfl hl.1 rfl (Nat.le_of_ble_eq_true rfl) dL_failedCommand_3 ⟨(Nat.le_of_ble_eq_true rfl), (Nat.le_of_ble_eq_true rfl)⟩) hW (fun E9 ce9 q9 M9 H locs h hW f1 f2 f3 => ?_) (fun r1 M3 H locs h hW => ?_)
  · obtain ⟨h, e9⟩ := h
    rw [e9] at hW
    by_cases kE0 : E9 = "java/util/NoSuchElementException"
    · replace h := h.1 kE0
      subst kE0
      refine sw_catch htab [] [] rfl hown hts (fun z hz => nomatch hz) ⟨by decide, by decide⟩ (by decide) q_556 cast_NoSuchElementException hW f1 f2 f3 ?_
      refine lv_astore_n (lv' := [(2, .ref q9), (0, .ref (sw_ad g 0)), (1, .ref (sw_ad g 233))]) hx hb dL_failedCommand_11 rfl hl (Nat.le_of_ble_eq_true rfl) rfl (fun ls hl => ?_)
      refine lv_iconst (v := 1) hx hb dL_failedCommand_12 (by decide) ?_
      exact sw_ri3 hx hb hr hlocks hW rfl h dL_failedCommand_13
    · replace h := h.2 kE0
      exact h.elim
  · obtain ⟨h, eM3⟩ := h
    rw [eM3] at hW
    refine lv_i2l hx hb dL_failedCommand_6 rfl ?_
    refine sw_ls hx hb hW (vp_in_iff.mpr (by decide)) dL_failedCommand_7 (fun H locs hW => ?_)
    obtain ⟨o2, eo2⟩ : ∃ z : sO, z = vp_updL o ((0 : Int32)).toNatClampNeg ((r1).toInt64) := ⟨_, rfl⟩
    rw [← eo2] at hW
    have h := h o2 eo2
    refine lv_goto (tgt := 14) hx hb dL_failedCommand_8 (by decide) ?_
    refine lv_iconst (v := 0) hx hb dL_failedCommand_14 (by decide) ?_
    exact sw_ri3 hx hb hr hlocks hW rfl h dL_failedCommand_15
theorem ch_L_failedCommand : sw_cH yL_failedCommand cL_failedCommand 3 (some .int) [(0, 8, 11, 49)] 2 := ⟨q_870, q_1, q_1451, by decide +kernel⟩

def wL_writeDoor (a1 : Int32) (M : sM) (o : sO) (d : sE) (Q : Int32 → sM → sO → sE → Prop) : Prop :=
  wX6_writeDoor a1 M (fun r1 M2 => ∀ o3 : sO, o3 = vp_updL o ((0 : Int32)).toNatClampNeg ((r1).toInt64) → (Q (0 : Int32) M2 o3 d)) (fun E9 M9 => (E9 = "java/lang/IndexOutOfBoundsException" → (Q (1 : Int32) M9 o d)) ∧ (¬ E9 = "java/lang/IndexOutOfBoundsException" → (False)))
set_option maxRecDepth 20000 in
theorem kL_writeDoor (l : Launch) (hst : l.stackTraces = false) (g : sG) (a1 : Int32) (M : sM) (o : sO) (d : sE) (Q : Int32 → sM → sO → sE → Prop) (h : wL_writeDoor a1 M o d Q) : Met l yL_writeDoor (sw_wsH yL_writeDoor cL_writeDoor 4 (some .int) [(0, 9, 12, 25)]) { frames := 8, cells := 1, slots := 6, locals := 137 } (va_Pc [.ref (sw_ad g 0), .int a1, .ref (sw_ad g 233)] (sw_Pr g o d M)) (va_Qi (fun r u => Q r u.1 u.2.1 u.2.2) (sw_Po3 g) (sw_A g)) 1 6 (sw_A g) := by
  refine sw_metH (by decide) (Nat.le_of_ble_eq_true rfl) ?_
  intro p e s m args below meth c ls hx hb hr hts hown hml hlocks htab hW hl
  have hown : s.vm.findClass RL = some m.cls := hown
  have hl : lv_has ls 4 [(0, .ref (sw_ad g 0)), (1, .int a1), (2, .ref (sw_ad g 233))] := hl
  unfold wL_writeDoor at h
  refine lv_aload_n hx hb dL_writeDoor_0 rfl (lv_at hl 2 rfl) ?_
  refine lv_iconst (v := 0) hx hb dL_writeDoor_1 (by decide) ?_
  refine lv_aload_n hx hb dL_writeDoor_2 rfl (lv_at hl 0 rfl) ?_
  refine lv_iload_n hx hb dL_writeDoor_3 rfl (lv_at hl 1 rfl) ?_
  refine sw_xki (rest := [.int (0 : Int32), .ref (sw_ad g 233)]) (sw_xrunV (As := [.int a1]) (rest := [.int (0 : Int32), .ref (sw_ad g 233)]) hx hb hml hown hts (kX6_writeDoor l hst g o d a1 M _ _ h) cv_X6_writeDoor q_877 rfl rfl ⟨(Nat.le_of_ble_eq_true rfl), (Nat.le_of_ble_eq_true rfl)⟩ hW (Nat.le_of_ble_eq_true rfl) sl_0 rfl rfl hl.1 rfl (Nat.le_of_ble_eq_true rfl) dL_writeDoor_4 ⟨(Nat.le_of_ble_eq_true rfl), (Nat.le_of_ble_eq_true rfl)⟩) hW (fun E9 ce9 q9 M9 H locs h hW f1 f2 f3 => ?_) (fun r1 M2 H locs h hW => ?_)
  · by_cases kE0 : E9 = "java/lang/IndexOutOfBoundsException"
    · replace h := h.1 kE0
      subst kE0
      refine sw_catch htab [] [] rfl hown hts (fun z hz => nomatch hz) ⟨by decide, by decide⟩ (by decide) q_429 cast_IndexOutOfBoundsException hW f1 f2 f3 ?_
      refine lv_astore_n (lv' := [(3, .ref q9), (0, .ref (sw_ad g 0)), (1, .int a1), (2, .ref (sw_ad g 233))]) hx hb dL_writeDoor_12 rfl hl (Nat.le_of_ble_eq_true rfl) rfl (fun ls hl => ?_)
      refine lv_iconst (v := 1) hx hb dL_writeDoor_13 (by decide) ?_
      exact sw_ri3 hx hb hr hlocks hW rfl h dL_writeDoor_14
    · replace h := h.2 kE0
      exact h.elim
  · refine lv_i2l hx hb dL_writeDoor_7 rfl ?_
    refine sw_ls hx hb hW (vp_in_iff.mpr (by decide)) dL_writeDoor_8 (fun H locs hW => ?_)
    obtain ⟨o3, eo3⟩ : ∃ z : sO, z = vp_updL o ((0 : Int32)).toNatClampNeg ((r1).toInt64) := ⟨_, rfl⟩
    rw [← eo3] at hW
    have h := h o3 eo3
    refine lv_goto (tgt := 15) hx hb dL_writeDoor_9 (by decide) ?_
    refine lv_iconst (v := 0) hx hb dL_writeDoor_15 (by decide) ?_
    exact sw_ri3 hx hb hr hlocks hW rfl h dL_writeDoor_16
theorem ch_L_writeDoor : sw_cH yL_writeDoor cL_writeDoor 4 (some .int) [(0, 9, 12, 25)] 3 := ⟨q_876, q_1, q_1452, by decide +kernel⟩

def wL_writeExaminer (a1 : Int32) (M : sM) (o : sO) (d : sE) (Q : Int32 → sM → sO → sE → Prop) : Prop :=
  wX6_writeExaminer a1 M (fun r1 M2 => ∀ o3 : sO, o3 = vp_updL o ((0 : Int32)).toNatClampNeg ((r1).toInt64) → (Q (0 : Int32) M2 o3 d)) (fun E9 M9 => (E9 = "java/lang/IndexOutOfBoundsException" → (Q (1 : Int32) M9 o d)) ∧ (¬ E9 = "java/lang/IndexOutOfBoundsException" → (False)))
set_option maxRecDepth 20000 in
theorem kL_writeExaminer (l : Launch) (hst : l.stackTraces = false) (g : sG) (a1 : Int32) (M : sM) (o : sO) (d : sE) (Q : Int32 → sM → sO → sE → Prop) (h : wL_writeExaminer a1 M o d Q) : Met l yL_writeExaminer (sw_wsH yL_writeExaminer cL_writeExaminer 4 (some .int) [(0, 9, 12, 25)]) { frames := 8, cells := 1, slots := 6, locals := 137 } (va_Pc [.ref (sw_ad g 0), .int a1, .ref (sw_ad g 233)] (sw_Pr g o d M)) (va_Qi (fun r u => Q r u.1 u.2.1 u.2.2) (sw_Po3 g) (sw_A g)) 1 6 (sw_A g) := by
  refine sw_metH (by decide) (Nat.le_of_ble_eq_true rfl) ?_
  intro p e s m args below meth c ls hx hb hr hts hown hml hlocks htab hW hl
  have hown : s.vm.findClass RL = some m.cls := hown
  have hl : lv_has ls 4 [(0, .ref (sw_ad g 0)), (1, .int a1), (2, .ref (sw_ad g 233))] := hl
  unfold wL_writeExaminer at h
  refine lv_aload_n hx hb dL_writeExaminer_0 rfl (lv_at hl 2 rfl) ?_
  refine lv_iconst (v := 0) hx hb dL_writeExaminer_1 (by decide) ?_
  refine lv_aload_n hx hb dL_writeExaminer_2 rfl (lv_at hl 0 rfl) ?_
  refine lv_iload_n hx hb dL_writeExaminer_3 rfl (lv_at hl 1 rfl) ?_
  refine sw_xki (rest := [.int (0 : Int32), .ref (sw_ad g 233)]) (sw_xrunV (As := [.int a1]) (rest := [.int (0 : Int32), .ref (sw_ad g 233)]) hx hb hml hown hts (kX6_writeExaminer l hst g o d a1 M _ _ h) cv_X6_writeExaminer q_902 rfl rfl ⟨(Nat.le_of_ble_eq_true rfl), (Nat.le_of_ble_eq_true rfl)⟩ hW (Nat.le_of_ble_eq_true rfl) sl_0 rfl rfl hl.1 rfl (Nat.le_of_ble_eq_true rfl) dL_writeExaminer_4 ⟨(Nat.le_of_ble_eq_true rfl), (Nat.le_of_ble_eq_true rfl)⟩) hW (fun E9 ce9 q9 M9 H locs h hW f1 f2 f3 => ?_) (fun r1 M2 H locs h hW => ?_)
  · by_cases kE0 : E9 = "java/lang/IndexOutOfBoundsException"
    · replace h := h.1 kE0
      subst kE0
      refine sw_catch htab [] [] rfl hown hts (fun z hz => nomatch hz) ⟨by decide, by decide⟩ (by decide) q_429 cast_IndexOutOfBoundsException hW f1 f2 f3 ?_
      refine lv_astore_n (lv' := [(3, .ref q9), (0, .ref (sw_ad g 0)), (1, .int a1), (2, .ref (sw_ad g 233))]) hx hb dL_writeExaminer_12 rfl hl (Nat.le_of_ble_eq_true rfl) rfl (fun ls hl => ?_)
      refine lv_iconst (v := 1) hx hb dL_writeExaminer_13 (by decide) ?_
      exact sw_ri3 hx hb hr hlocks hW rfl h dL_writeExaminer_14
    · replace h := h.2 kE0
      exact h.elim
  · refine lv_i2l hx hb dL_writeExaminer_7 rfl ?_
    refine sw_ls hx hb hW (vp_in_iff.mpr (by decide)) dL_writeExaminer_8 (fun H locs hW => ?_)
    obtain ⟨o3, eo3⟩ : ∃ z : sO, z = vp_updL o ((0 : Int32)).toNatClampNeg ((r1).toInt64) := ⟨_, rfl⟩
    rw [← eo3] at hW
    have h := h o3 eo3
    refine lv_goto (tgt := 15) hx hb dL_writeExaminer_9 (by decide) ?_
    refine lv_iconst (v := 0) hx hb dL_writeExaminer_15 (by decide) ?_
    exact sw_ri3 hx hb hr hlocks hW rfl h dL_writeExaminer_16
theorem ch_L_writeExaminer : sw_cH yL_writeExaminer cL_writeExaminer 4 (some .int) [(0, 9, 12, 25)] 3 := ⟨q_901, q_1, q_1453, by decide +kernel⟩

def wL_outputAt (a1 : Int32) (M : sM) (o : sO) (d : sE) (Q : Int32 → sM → sO → sE → Prop) : Prop :=
  wX6_outputAt a1 M (fun r1 => ∀ o2 : sO, o2 = vp_updL o ((0 : Int32)).toNatClampNeg ((r1).toInt64) → (Q (0 : Int32) M o2 d)) (fun E9 => (E9 = "java/lang/IndexOutOfBoundsException" → (Q (1 : Int32) M o d)) ∧ (¬ E9 = "java/lang/IndexOutOfBoundsException" → (False)))
set_option maxRecDepth 20000 in
theorem kL_outputAt (l : Launch) (hst : l.stackTraces = false) (g : sG) (a1 : Int32) (M : sM) (o : sO) (d : sE) (Q : Int32 → sM → sO → sE → Prop) (h : wL_outputAt a1 M o d Q) : Met l yL_outputAt (sw_wsH yL_outputAt cL_outputAt 4 (some .int) [(0, 9, 12, 25)]) { frames := 7, cells := 1, slots := 6, locals := 116 } (va_Pc [.ref (sw_ad g 0), .int a1, .ref (sw_ad g 233)] (sw_Pr g o d M)) (va_Qi (fun r u => Q r u.1 u.2.1 u.2.2) (sw_Po3 g) (sw_A g)) 1 6 (sw_A g) := by
  refine sw_metH (by decide) (Nat.le_of_ble_eq_true rfl) ?_
  intro p e s m args below meth c ls hx hb hr hts hown hml hlocks htab hW hl
  have hown : s.vm.findClass RL = some m.cls := hown
  have hl : lv_has ls 4 [(0, .ref (sw_ad g 0)), (1, .int a1), (2, .ref (sw_ad g 233))] := hl
  unfold wL_outputAt at h
  refine lv_aload_n hx hb dL_outputAt_0 rfl (lv_at hl 2 rfl) ?_
  refine lv_iconst (v := 0) hx hb dL_outputAt_1 (by decide) ?_
  refine lv_aload_n hx hb dL_outputAt_2 rfl (lv_at hl 0 rfl) ?_
  refine lv_iload_n hx hb dL_outputAt_3 rfl (lv_at hl 1 rfl) ?_
  refine sw_xki (rest := [.int (0 : Int32), .ref (sw_ad g 233)]) (sw_xrunV (As := [.int a1]) (rest := [.int (0 : Int32), .ref (sw_ad g 233)]) hx hb hml hown hts (kX6_outputAt l hst g o d a1 M _ _ h) cv_X6_outputAt q_913 rfl rfl ⟨(Nat.le_of_ble_eq_true rfl), (Nat.le_of_ble_eq_true rfl)⟩ hW (Nat.le_of_ble_eq_true rfl) sl_0 rfl rfl hl.1 rfl (Nat.le_of_ble_eq_true rfl) dL_outputAt_4 ⟨(Nat.le_of_ble_eq_true rfl), (Nat.le_of_ble_eq_true rfl)⟩) hW (fun E9 ce9 q9 M9 H locs h hW f1 f2 f3 => ?_) (fun r1 M3 H locs h hW => ?_)
  · obtain ⟨h, e9⟩ := h
    rw [e9] at hW
    by_cases kE0 : E9 = "java/lang/IndexOutOfBoundsException"
    · replace h := h.1 kE0
      subst kE0
      refine sw_catch htab [] [] rfl hown hts (fun z hz => nomatch hz) ⟨by decide, by decide⟩ (by decide) q_429 cast_IndexOutOfBoundsException hW f1 f2 f3 ?_
      refine lv_astore_n (lv' := [(3, .ref q9), (0, .ref (sw_ad g 0)), (1, .int a1), (2, .ref (sw_ad g 233))]) hx hb dL_outputAt_12 rfl hl (Nat.le_of_ble_eq_true rfl) rfl (fun ls hl => ?_)
      refine lv_iconst (v := 1) hx hb dL_outputAt_13 (by decide) ?_
      exact sw_ri3 hx hb hr hlocks hW rfl h dL_outputAt_14
    · replace h := h.2 kE0
      exact h.elim
  · obtain ⟨h, eM3⟩ := h
    rw [eM3] at hW
    refine lv_i2l hx hb dL_outputAt_7 rfl ?_
    refine sw_ls hx hb hW (vp_in_iff.mpr (by decide)) dL_outputAt_8 (fun H locs hW => ?_)
    obtain ⟨o2, eo2⟩ : ∃ z : sO, z = vp_updL o ((0 : Int32)).toNatClampNeg ((r1).toInt64) := ⟨_, rfl⟩
    rw [← eo2] at hW
    have h := h o2 eo2
    refine lv_goto (tgt := 15) hx hb dL_outputAt_9 (by decide) ?_
    refine lv_iconst (v := 0) hx hb dL_outputAt_15 (by decide) ?_
    exact sw_ri3 hx hb hr hlocks hW rfl h dL_outputAt_16
theorem ch_L_outputAt : sw_cH yL_outputAt cL_outputAt 4 (some .int) [(0, 9, 12, 25)] 3 := ⟨q_912, q_1, q_1454, by decide +kernel⟩

def wL_undo  (M : sM) (o : sO) (d : sE) (Q : Int32 → sM → sO → sE → Prop) : Prop :=
  wX6_undo M (fun r1 M2 => ∀ o3 : sO, o3 = vp_updL o ((0 : Int32)).toNatClampNeg ((r1).toInt64) → (Q (0 : Int32) M2 o3 d)) (fun E9 M9 => (E9 = "java/lang/IllegalStateException" → (Q (1 : Int32) M9 o d)) ∧ (¬ E9 = "java/lang/IllegalStateException" → (False)))
set_option maxRecDepth 20000 in
theorem kL_undo (l : Launch) (hst : l.stackTraces = false) (g : sG)  (M : sM) (o : sO) (d : sE) (Q : Int32 → sM → sO → sE → Prop) (h : wL_undo  M o d Q) : Met l yL_undo (sw_wsH yL_undo cL_undo 3 (some .int) [(0, 8, 11, 15)]) { frames := 7, cells := 1, slots := 6, locals := 115 } (va_Pc [.ref (sw_ad g 0), .ref (sw_ad g 233)] (sw_Pr g o d M)) (va_Qi (fun r u => Q r u.1 u.2.1 u.2.2) (sw_Po3 g) (sw_A g)) 1 6 (sw_A g) := by
  refine sw_metH (by decide) (Nat.le_of_ble_eq_true rfl) ?_
  intro p e s m args below meth c ls hx hb hr hts hown hml hlocks htab hW hl
  have hown : s.vm.findClass RL = some m.cls := hown
  have hl : lv_has ls 3 [(0, .ref (sw_ad g 0)), (1, .ref (sw_ad g 233))] := hl
  unfold wL_undo at h
  refine lv_aload_n hx hb dL_undo_0 rfl (lv_at hl 1 rfl) ?_
  refine lv_iconst (v := 0) hx hb dL_undo_1 (by decide) ?_
  refine lv_aload_n hx hb dL_undo_2 rfl (lv_at hl 0 rfl) ?_
  refine sw_xki (rest := [.int (0 : Int32), .ref (sw_ad g 233)]) (sw_xrunV (As := []) (rest := [.int (0 : Int32), .ref (sw_ad g 233)]) hx hb hml hown hts (kX6_undo l hst g o d M _ _ h) cv_X6_undo q_919 rfl rfl ⟨(Nat.le_of_ble_eq_true rfl), (Nat.le_of_ble_eq_true rfl)⟩ hW (Nat.le_of_ble_eq_true rfl) sl_0 rfl rfl hl.1 rfl (Nat.le_of_ble_eq_true rfl) dL_undo_3 ⟨(Nat.le_of_ble_eq_true rfl), (Nat.le_of_ble_eq_true rfl)⟩) hW (fun E9 ce9 q9 M9 H locs h hW f1 f2 f3 => ?_) (fun r1 M2 H locs h hW => ?_)
  · by_cases kE0 : E9 = "java/lang/IllegalStateException"
    · replace h := h.1 kE0
      subst kE0
      refine sw_catch htab [] [] rfl hown hts (fun z hz => nomatch hz) ⟨by decide, by decide⟩ (by decide) q_406 cast_IllegalStateException hW f1 f2 f3 ?_
      refine lv_astore_n (lv' := [(2, .ref q9), (0, .ref (sw_ad g 0)), (1, .ref (sw_ad g 233))]) hx hb dL_undo_11 rfl hl (Nat.le_of_ble_eq_true rfl) rfl (fun ls hl => ?_)
      refine lv_iconst (v := 1) hx hb dL_undo_12 (by decide) ?_
      exact sw_ri3 hx hb hr hlocks hW rfl h dL_undo_13
    · replace h := h.2 kE0
      exact h.elim
  · refine lv_i2l hx hb dL_undo_6 rfl ?_
    refine sw_ls hx hb hW (vp_in_iff.mpr (by decide)) dL_undo_7 (fun H locs hW => ?_)
    obtain ⟨o3, eo3⟩ : ∃ z : sO, z = vp_updL o ((0 : Int32)).toNatClampNeg ((r1).toInt64) := ⟨_, rfl⟩
    rw [← eo3] at hW
    have h := h o3 eo3
    refine lv_goto (tgt := 14) hx hb dL_undo_8 (by decide) ?_
    refine lv_iconst (v := 0) hx hb dL_undo_14 (by decide) ?_
    exact sw_ri3 hx hb hr hlocks hW rfl h dL_undo_15
theorem ch_L_undo : sw_cH yL_undo cL_undo 3 (some .int) [(0, 8, 11, 15)] 2 := ⟨q_918, q_1, q_1455, by decide +kernel⟩

def wL_restore  (M : sM) (o : sO) (d : sE) (Q : Int32 → sM → sO → sE → Prop) : Prop :=
  wX6_restore M (fun M1 => Q (0 : Int32) M1 o d) (fun E9 M9 => (E9 = "java/lang/IllegalStateException" → (Q (1 : Int32) M9 o d)) ∧ (¬ E9 = "java/lang/IllegalStateException" → (False)))
set_option maxRecDepth 20000 in
theorem kL_restore (l : Launch) (hst : l.stackTraces = false) (g : sG)  (M : sM) (o : sO) (d : sE) (Q : Int32 → sM → sO → sE → Prop) (h : wL_restore  M o d Q) : Met l yL_restore (sw_wsH yL_restore cL_restore 2 (some .int) [(0, 4, 7, 15)]) { frames := 7, cells := 1, slots := 6, locals := 115 } (va_Pc [.ref (sw_ad g 0)] (sw_Pr g o d M)) (va_Qi (fun r u => Q r u.1 u.2.1 u.2.2) (sw_Po3 g) (sw_A g)) 1 6 (sw_A g) := by
  refine sw_metH (by decide) (Nat.le_of_ble_eq_true rfl) ?_
  intro p e s m args below meth c ls hx hb hr hts hown hml hlocks htab hW hl
  have hown : s.vm.findClass RL = some m.cls := hown
  have hl : lv_has ls 2 [(0, .ref (sw_ad g 0))] := hl
  unfold wL_restore at h
  refine lv_aload_n hx hb dL_restore_0 rfl (lv_at hl 0 rfl) ?_
  refine sw_xkv (rest := []) (sw_xrunV (As := []) (rest := []) hx hb hml hown hts (kX6_restore l hst g o d M _ _ h) cv_X6_restore q_930 rfl rfl ⟨(Nat.le_of_ble_eq_true rfl), (Nat.le_of_ble_eq_true rfl)⟩ hW (Nat.le_of_ble_eq_true rfl) sl_0 rfl rfl hl.1 rfl (Nat.le_of_ble_eq_true rfl) dL_restore_1 ⟨(Nat.le_of_ble_eq_true rfl), (Nat.le_of_ble_eq_true rfl)⟩) hW (fun E9 ce9 q9 M9 H locs h hW f1 f2 f3 => ?_) (fun  M1 H locs h hW => ?_)
  · by_cases kE0 : E9 = "java/lang/IllegalStateException"
    · replace h := h.1 kE0
      subst kE0
      refine sw_catch htab [] [] rfl hown hts (fun z hz => nomatch hz) ⟨by decide, by decide⟩ (by decide) q_406 cast_IllegalStateException hW f1 f2 f3 ?_
      refine lv_astore_n (lv' := [(1, .ref q9), (0, .ref (sw_ad g 0))]) hx hb dL_restore_7 rfl hl (Nat.le_of_ble_eq_true rfl) rfl (fun ls hl => ?_)
      refine lv_iconst (v := 1) hx hb dL_restore_8 (by decide) ?_
      exact sw_ri3 hx hb hr hlocks hW rfl h dL_restore_9
    · replace h := h.2 kE0
      exact h.elim
  · refine lv_goto (tgt := 10) hx hb dL_restore_4 (by decide) ?_
    refine lv_iconst (v := 0) hx hb dL_restore_10 (by decide) ?_
    exact sw_ri3 hx hb hr hlocks hW rfl h dL_restore_11
theorem ch_L_restore : sw_cH yL_restore cL_restore 2 (some .int) [(0, 4, 7, 15)] 1 := ⟨q_929, q_1, q_1456, by decide +kernel⟩
