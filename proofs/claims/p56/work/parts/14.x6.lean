theorem cs_X6_refuse : sw_cS yX6_refuse cX6_refuse 1 none 1 := ⟨q_190, q_2, q_191, by decide +kernel⟩
def wX6_refuse (a1 : Int32) (Q : Prop) (X : String → Prop) : Prop :=
  (a1 = (-4 : Int32) → (X "java/lang/UnsupportedOperationException")) ∧ (¬ a1 = (-4 : Int32) → ((a1 = (-3 : Int32) → (X "java/lang/IllegalStateException")) ∧ (¬ a1 = (-3 : Int32) → ((a1 = (-2 : Int32) → (X "java/lang/IllegalArgumentException")) ∧ (¬ a1 = (-2 : Int32) → ((a1 = (-1 : Int32) → (X "java/lang/IndexOutOfBoundsException")) ∧ (¬ a1 = (-1 : Int32) → (X "java/util/NoSuchElementException"))))))))
set_option maxRecDepth 20000 in
theorem kX6_refuse (l : Launch) (hst : l.stackTraces = false) (g : sG) (a1 : Int32) (M : sM) (Q : Prop) (X : String → Prop) (h : wX6_refuse a1 Q X) : vx_Met l yX6_refuse (sw_ws yX6_refuse cX6_refuse 1 none) { frames := 6, cells := 1, slots := 6, locals := 95 } (va_Pc [.int a1] (sw_Pr g M)) (va_Qv (fun M1 => Q ∧ M1 = M) (sw_Po g) (sw_A g)) (sw_XC g (fun E M1 => X E ∧ M1 = M)) 1 6 (sw_A g) := by
  refine sw_xmet (by decide) (Nat.le_of_ble_eq_true rfl) ?_
  intro p e s m args below meth c ls hx hb hr hts hown hml hlocks hnt hW hl
  have hown : s.vm.findClass RX6 = some m.cls := hown
  have hl : lv_has ls 1 [(0, .int a1)] := hl
  unfold wX6_refuse at h
  refine lv_iload_n hx hb dX6_refuse_0 rfl (lv_at hl 0 rfl) ?_
  by_cases k1_0 : a1 = (-4 : Int32)
  · have h := h.1 k1_0
    refine lv_tableIn (tgt := 56) hx hb dX6_refuse_1 (by rw [k1_0]; decide) (by rw [k1_0]; decide) (by rw [k1_0]; rfl) (by decide) ?_
    exact sw_throw hx hb hst hown hts th_284 hW (hl.1.trans hml.symm) dX6_refuse_56 dX6_refuse_59 dX6_refuse_60 dX6_refuse_63 hnt (Nat.le_of_ble_eq_true rfl) (Nat.le_of_ble_eq_true rfl) (Nat.le_of_ble_eq_true rfl) (Nat.le_of_ble_eq_true rfl) hlocks ⟨h, rfl⟩ (Nat.le_of_ble_eq_true rfl) (Nat.le_of_ble_eq_true rfl)
  · have h := h.2 k1_0
    by_cases k1_1 : a1 = (-3 : Int32)
    · have h := h.1 k1_1
      refine lv_tableIn (tgt := 48) hx hb dX6_refuse_1 (by rw [k1_1]; decide) (by rw [k1_1]; decide) (by rw [k1_1]; rfl) (by decide) ?_
      exact sw_throw hx hb hst hown hts th_252 hW (hl.1.trans hml.symm) dX6_refuse_48 dX6_refuse_51 dX6_refuse_52 dX6_refuse_55 hnt (Nat.le_of_ble_eq_true rfl) (Nat.le_of_ble_eq_true rfl) (Nat.le_of_ble_eq_true rfl) (Nat.le_of_ble_eq_true rfl) hlocks ⟨h, rfl⟩ (Nat.le_of_ble_eq_true rfl) (Nat.le_of_ble_eq_true rfl)
    · have h := h.2 k1_1
      by_cases k1_2 : a1 = (-2 : Int32)
      · have h := h.1 k1_2
        refine lv_tableIn (tgt := 40) hx hb dX6_refuse_1 (by rw [k1_2]; decide) (by rw [k1_2]; decide) (by rw [k1_2]; rfl) (by decide) ?_
        exact sw_throw hx hb hst hown hts th_201 hW (hl.1.trans hml.symm) dX6_refuse_40 dX6_refuse_43 dX6_refuse_44 dX6_refuse_47 hnt (Nat.le_of_ble_eq_true rfl) (Nat.le_of_ble_eq_true rfl) (Nat.le_of_ble_eq_true rfl) (Nat.le_of_ble_eq_true rfl) hlocks ⟨h, rfl⟩ (Nat.le_of_ble_eq_true rfl) (Nat.le_of_ble_eq_true rfl)
      · have h := h.2 k1_2
        by_cases k1_3 : a1 = (-1 : Int32)
        · have h := h.1 k1_3
          refine lv_tableIn (tgt := 32) hx hb dX6_refuse_1 (by rw [k1_3]; decide) (by rw [k1_3]; decide) (by rw [k1_3]; rfl) (by decide) ?_
          exact sw_throw hx hb hst hown hts th_298 hW (hl.1.trans hml.symm) dX6_refuse_32 dX6_refuse_35 dX6_refuse_36 dX6_refuse_39 hnt (Nat.le_of_ble_eq_true rfl) (Nat.le_of_ble_eq_true rfl) (Nat.le_of_ble_eq_true rfl) (Nat.le_of_ble_eq_true rfl) hlocks ⟨h, rfl⟩ (Nat.le_of_ble_eq_true rfl) (Nat.le_of_ble_eq_true rfl)
        · have h := h.2 k1_3
          refine sw_tdef (tgt := 64) hx hb dX6_refuse_1 (by intro hz; exfalso; have e0 := lv_neT k1_0 (by decide : ((-4) : Int32).toInt = -4); have e1 := lv_neT k1_1 (by decide : ((-3) : Int32).toInt = -3); have e2 := lv_neT k1_2 (by decide : ((-2) : Int32).toInt = -2); have e3 := lv_neT k1_3 (by decide : ((-1) : Int32).toInt = -1); omega) (by decide) ?_
          exact sw_throw hx hb hst hown hts th_319 hW (hl.1.trans hml.symm) dX6_refuse_64 dX6_refuse_67 dX6_refuse_68 dX6_refuse_71 hnt (Nat.le_of_ble_eq_true rfl) (Nat.le_of_ble_eq_true rfl) (Nat.le_of_ble_eq_true rfl) (Nat.le_of_ble_eq_true rfl) hlocks ⟨h, rfl⟩ (Nat.le_of_ble_eq_true rfl) (Nat.le_of_ble_eq_true rfl)

theorem cv_X6_conclude : sw_cV yX6_conclude RX6 cX6_conclude 2 (some .int) 1 := ⟨q_187, q_1154, q_2, q_188, by decide +kernel⟩
def wX6_conclude (a1 : Int32) (M : sM) (Q : Int32 → sM → Prop) (X : String → sM → Prop) : Prop :=
  (0 ≤ a1 → (wX0_commit M (fun M2 => Q a1 M2))) ∧ (¬ 0 ≤ a1 → (wX6_refuse a1 (wX0_commit M (fun M3 => Q a1 M3)) (fun E => X E M)))
set_option maxRecDepth 20000 in
theorem kX6_conclude (l : Launch) (hst : l.stackTraces = false) (g : sG) (a1 : Int32) (M : sM) (Q : Int32 → sM → Prop) (X : String → sM → Prop) (h : wX6_conclude a1 M Q X) : vx_Met l yX6_conclude (sw_ws yX6_conclude cX6_conclude 2 (some .int)) { frames := 7, cells := 1, slots := 6, locals := 115 } (va_Pc [.ref (sw_ad g 0), .int a1] (sw_Pr g M)) (va_Qi Q (sw_Po g) (sw_A g)) (sw_XC g X) 1 6 (sw_A g) := by
  refine sw_xmet (by decide) (Nat.le_of_ble_eq_true rfl) ?_
  intro p e s m args below meth c ls hx hb hr hts hown hml hlocks hnt hW hl
  have hown : s.vm.findClass RX6 = some m.cls := hown
  have hl : lv_has ls 2 [(0, .ref (sw_ad g 0)), (1, .int a1)] := hl
  unfold wX6_conclude at h
  refine lv_iload_n hx hb dX6_conclude_0 rfl (lv_at hl 1 rfl) ?_
  refine lv_if_ge (tgt := 8) hx hb dX6_conclude_1 (by decide) (fun k1 => ?_) (fun k1 => ?_)
  · have h := h.1 k1
    refine lv_aload_n hx hb dX6_conclude_8 rfl (lv_at hl 0 rfl) ?_
    refine sw_gr (j := 3) (r := 1) hx hb hts hown hW rfl qf_6 (Or.inl (Nat.le_of_ble_eq_true rfl)) sl_0 rfl (Nat.le_of_ble_eq_true rfl) q_153 dX6_conclude_9 ?_
    refine sw_kv (rest := []) (sw_runV (As := []) (rest := []) hx hb hml hown hts (kX0_commit l g M _ h) cv_X0_commit q_256 rfl rfl ⟨(Nat.le_of_ble_eq_true rfl), (Nat.le_of_ble_eq_true rfl)⟩ hW (Or.inl (Nat.le_of_ble_eq_true rfl)) sl_1 rfl rfl hl.1 rfl (Nat.le_of_ble_eq_true rfl) dX6_conclude_12 ⟨(Nat.le_of_ble_eq_true rfl), (Nat.le_of_ble_eq_true rfl)⟩) hW (fun  M2 H locs h hW => ?_)
    refine lv_iload_n hx hb dX6_conclude_15 rfl (lv_at hl 1 rfl) ?_
    refine W.widen (k := 1) (n := 6) (Nat.le_of_ble_eq_true rfl) (Nat.le_of_ble_eq_true rfl) ?_
    refine vx_ret ?_
    exact sw_ri hx hb hr hlocks hW rfl h dX6_conclude_16
  · have h := h.2 k1
    refine lv_iload_n hx hb dX6_conclude_4 rfl (lv_at hl 1 rfl) ?_
    refine sw_xkv (rest := []) (sw_xrunS (As := [.int a1]) (rest := []) hx hb hml hown hts (kX6_refuse l hst g a1 M _ _ h) cs_X6_refuse q_189 rfl rfl ⟨(Nat.le_of_ble_eq_true rfl), (Nat.le_of_ble_eq_true rfl)⟩ hW rfl hl.1 rfl (Nat.le_of_ble_eq_true rfl) dX6_conclude_5 ⟨(Nat.le_of_ble_eq_true rfl), (Nat.le_of_ble_eq_true rfl)⟩) hW (fun E9 ce9 q9 M9 H9 locs9 hX9 hW9 f1 f2 f3 => sw_xout hnt hlocks (by rw [hX9.2]; exact hX9.1) hW9 f1 f2 f3 (Nat.le_of_ble_eq_true rfl) (Nat.le_of_ble_eq_true rfl)) (fun  M4 H locs h hW => ?_)
    obtain ⟨h, eM4⟩ := h
    rw [eM4] at hW
    refine lv_aload_n hx hb dX6_conclude_8 rfl (lv_at hl 0 rfl) ?_
    refine sw_gr (j := 3) (r := 1) hx hb hts hown hW rfl qf_6 (Or.inl (Nat.le_of_ble_eq_true rfl)) sl_0 rfl (Nat.le_of_ble_eq_true rfl) q_153 dX6_conclude_9 ?_
    refine sw_kv (rest := []) (sw_runV (As := []) (rest := []) hx hb hml hown hts (kX0_commit l g M _ h) cv_X0_commit q_256 rfl rfl ⟨(Nat.le_of_ble_eq_true rfl), (Nat.le_of_ble_eq_true rfl)⟩ hW (Or.inl (Nat.le_of_ble_eq_true rfl)) sl_1 rfl rfl hl.1 rfl (Nat.le_of_ble_eq_true rfl) dX6_conclude_12 ⟨(Nat.le_of_ble_eq_true rfl), (Nat.le_of_ble_eq_true rfl)⟩) hW (fun  M3 H locs h hW => ?_)
    refine lv_iload_n hx hb dX6_conclude_15 rfl (lv_at hl 1 rfl) ?_
    refine vx_ret ?_
    exact sw_ri hx hb hr hlocks hW rfl h dX6_conclude_16

theorem cv_X6_addDoor : sw_cV yX6_addDoor RX6 cX6_addDoor 3 (some .int) 2 := ⟨q_169, q_170, q_2, q_171, by decide +kernel⟩
def wX6_addDoor (a1 : Int32) (a2 : Int32) (M : sM) (Q : Int32 → sM → Prop) (X : String → sM → Prop) : Prop :=
  wX0_prepare 0 M (fun M1 => wX5_tryNewDoor 0 a1 a2 M1 (fun r2 M3 => wX6_conclude r2 M3 (fun r4 M5 => Q r4 M5) X))
set_option maxRecDepth 20000 in
theorem kX6_addDoor (l : Launch) (hst : l.stackTraces = false) (g : sG) (a1 : Int32) (a2 : Int32) (M : sM) (Q : Int32 → sM → Prop) (X : String → sM → Prop) (h : wX6_addDoor a1 a2 M Q X) : vx_Met l yX6_addDoor (sw_ws yX6_addDoor cX6_addDoor 3 (some .int)) { frames := 8, cells := 1, slots := 6, locals := 136 } (va_Pc [.ref (sw_ad g 0), .int a1, .int a2] (sw_Pr g M)) (va_Qi Q (sw_Po g) (sw_A g)) (sw_XC g X) 1 6 (sw_A g) := by
  refine sw_xmet (by decide) (Nat.le_of_ble_eq_true rfl) ?_
  intro p e s m args below meth c ls hx hb hr hts hown hml hlocks hnt hW hl
  have hown : s.vm.findClass RX6 = some m.cls := hown
  have hl : lv_has ls 3 [(0, .ref (sw_ad g 0)), (1, .int a1), (2, .int a2)] := hl
  unfold wX6_addDoor at h
  refine lv_aload_n hx hb dX6_addDoor_0 rfl (lv_at hl 0 rfl) ?_
  refine sw_gr (j := 3) (r := 1) hx hb hts hown hW rfl qf_6 (Or.inl (Nat.le_of_ble_eq_true rfl)) sl_0 rfl (Nat.le_of_ble_eq_true rfl) q_153 dX6_addDoor_1 ?_
  refine lv_aload_n hx hb dX6_addDoor_4 rfl (lv_at hl 0 rfl) ?_
  refine sw_gr (j := 0) (r := (sw_st 0)) hx hb hts hown hW rfl qf_6 (Or.inl (Nat.le_of_ble_eq_true rfl)) sl_0 rfl (Nat.le_of_ble_eq_true rfl) q_150 dX6_addDoor_5 ?_
  refine sw_kv (rest := []) (sw_runV (As := [.ref (sw_ad g (sw_st 0))]) (rest := []) hx hb hml hown hts (kX0_prepare l g 0 (Nat.le_of_ble_eq_true rfl) M _ h) cv_X0_prepare q_172 rfl rfl ⟨(Nat.le_of_ble_eq_true rfl), (Nat.le_of_ble_eq_true rfl)⟩ hW (Or.inl (Nat.le_of_ble_eq_true rfl)) sl_1 rfl rfl hl.1 rfl (Nat.le_of_ble_eq_true rfl) dX6_addDoor_8 ⟨(Nat.le_of_ble_eq_true rfl), (Nat.le_of_ble_eq_true rfl)⟩) hW (fun  M1 H locs h hW => ?_)
  refine lv_aload_n hx hb dX6_addDoor_11 rfl (lv_at hl 0 rfl) ?_
  refine lv_aload_n hx hb dX6_addDoor_12 rfl (lv_at hl 0 rfl) ?_
  refine sw_gr (j := 0) (r := (sw_st 0)) hx hb hts hown hW rfl qf_6 (Or.inl (Nat.le_of_ble_eq_true rfl)) sl_0 rfl (Nat.le_of_ble_eq_true rfl) q_150 dX6_addDoor_13 ?_
  refine lv_iload_n hx hb dX6_addDoor_16 rfl (lv_at hl 1 rfl) ?_
  refine lv_iload_n hx hb dX6_addDoor_17 rfl (lv_at hl 2 rfl) ?_
  refine sw_ki (rest := [.ref (sw_ad g 0)]) (sw_runV (As := [.int a1, .int a2]) (rest := [.ref (sw_ad g 0)]) hx hb hml hown hts (kX5_tryNewDoor l g 0 (Nat.le_of_ble_eq_true rfl) a1 a2 M1 _ h) cv_X5_tryNewDoor q_180 rfl rfl ⟨(Nat.le_of_ble_eq_true rfl), (Nat.le_of_ble_eq_true rfl)⟩ hW (sw_st_lt0 (Nat.le_of_ble_eq_true rfl)) (sw_lay_so 0) rfl rfl hl.1 rfl (Nat.le_of_ble_eq_true rfl) dX6_addDoor_18 ⟨(Nat.le_of_ble_eq_true rfl), (Nat.le_of_ble_eq_true rfl)⟩) hW (fun r2 M3 H locs h hW => ?_)
  refine sw_xki (rest := []) (sw_xrunV (As := [.int r2]) (rest := []) hx hb hml hown hts (kX6_conclude l hst g r2 M3 _ _ h) cv_X6_conclude q_186 rfl rfl ⟨(Nat.le_of_ble_eq_true rfl), (Nat.le_of_ble_eq_true rfl)⟩ hW (Or.inl (Nat.le_of_ble_eq_true rfl)) sl_0 rfl rfl hl.1 rfl (Nat.le_of_ble_eq_true rfl) dX6_addDoor_21 ⟨(Nat.le_of_ble_eq_true rfl), (Nat.le_of_ble_eq_true rfl)⟩) hW (fun E9 ce9 q9 M9 H9 locs9 hX9 hW9 f1 f2 f3 => sw_xout hnt hlocks hX9 hW9 f1 f2 f3 (Nat.le_of_ble_eq_true rfl) (Nat.le_of_ble_eq_true rfl)) (fun r4 M5 H locs h hW => ?_)
  refine vx_ret ?_
  exact sw_ri hx hb hr hlocks hW rfl h dX6_addDoor_24

theorem cv_X6_addExaminer : sw_cV yX6_addExaminer RX6 cX6_addExaminer 5 (some .int) 4 := ⟨q_266, q_267, q_2, q_268, by decide +kernel⟩
def wX6_addExaminer (a1 : Int32) (a2 : Int32) (a3 : Int32) (a4 : Int32) (M : sM) (Q : Int32 → sM → Prop) (X : String → sM → Prop) : Prop :=
  wX0_prepare 0 M (fun M1 => wX5_tryNewExaminer 0 a1 a2 a3 a4 M1 (fun r2 M3 => wX6_conclude r2 M3 (fun r4 M5 => Q r4 M5) X))
set_option maxRecDepth 20000 in
theorem kX6_addExaminer (l : Launch) (hst : l.stackTraces = false) (g : sG) (a1 : Int32) (a2 : Int32) (a3 : Int32) (a4 : Int32) (M : sM) (Q : Int32 → sM → Prop) (X : String → sM → Prop) (h : wX6_addExaminer a1 a2 a3 a4 M Q X) : vx_Met l yX6_addExaminer (sw_ws yX6_addExaminer cX6_addExaminer 5 (some .int)) { frames := 8, cells := 1, slots := 6, locals := 136 } (va_Pc [.ref (sw_ad g 0), .int a1, .int a2, .int a3, .int a4] (sw_Pr g M)) (va_Qi Q (sw_Po g) (sw_A g)) (sw_XC g X) 1 6 (sw_A g) := by
  refine sw_xmet (by decide) (Nat.le_of_ble_eq_true rfl) ?_
  intro p e s m args below meth c ls hx hb hr hts hown hml hlocks hnt hW hl
  have hown : s.vm.findClass RX6 = some m.cls := hown
  have hl : lv_has ls 5 [(0, .ref (sw_ad g 0)), (1, .int a1), (2, .int a2), (3, .int a3), (4, .int a4)] := hl
  unfold wX6_addExaminer at h
  refine lv_aload_n hx hb dX6_addExaminer_0 rfl (lv_at hl 0 rfl) ?_
  refine sw_gr (j := 3) (r := 1) hx hb hts hown hW rfl qf_6 (Or.inl (Nat.le_of_ble_eq_true rfl)) sl_0 rfl (Nat.le_of_ble_eq_true rfl) q_153 dX6_addExaminer_1 ?_
  refine lv_aload_n hx hb dX6_addExaminer_4 rfl (lv_at hl 0 rfl) ?_
  refine sw_gr (j := 0) (r := (sw_st 0)) hx hb hts hown hW rfl qf_6 (Or.inl (Nat.le_of_ble_eq_true rfl)) sl_0 rfl (Nat.le_of_ble_eq_true rfl) q_150 dX6_addExaminer_5 ?_
  refine sw_kv (rest := []) (sw_runV (As := [.ref (sw_ad g (sw_st 0))]) (rest := []) hx hb hml hown hts (kX0_prepare l g 0 (Nat.le_of_ble_eq_true rfl) M _ h) cv_X0_prepare q_172 rfl rfl ⟨(Nat.le_of_ble_eq_true rfl), (Nat.le_of_ble_eq_true rfl)⟩ hW (Or.inl (Nat.le_of_ble_eq_true rfl)) sl_1 rfl rfl hl.1 rfl (Nat.le_of_ble_eq_true rfl) dX6_addExaminer_8 ⟨(Nat.le_of_ble_eq_true rfl), (Nat.le_of_ble_eq_true rfl)⟩) hW (fun  M1 H locs h hW => ?_)
  refine lv_aload_n hx hb dX6_addExaminer_11 rfl (lv_at hl 0 rfl) ?_
  refine lv_aload_n hx hb dX6_addExaminer_12 rfl (lv_at hl 0 rfl) ?_
  refine sw_gr (j := 0) (r := (sw_st 0)) hx hb hts hown hW rfl qf_6 (Or.inl (Nat.le_of_ble_eq_true rfl)) sl_0 rfl (Nat.le_of_ble_eq_true rfl) q_150 dX6_addExaminer_13 ?_
  refine lv_iload_n hx hb dX6_addExaminer_16 rfl (lv_at hl 1 rfl) ?_
  refine lv_iload_n hx hb dX6_addExaminer_17 rfl (lv_at hl 2 rfl) ?_
  refine lv_iload_n hx hb dX6_addExaminer_18 rfl (lv_at hl 3 rfl) ?_
  refine lv_iload hx hb dX6_addExaminer_19 (lv_at hl 4 rfl) ?_
  refine sw_ki (rest := [.ref (sw_ad g 0)]) (sw_runV (As := [.int a1, .int a2, .int a3, .int a4]) (rest := [.ref (sw_ad g 0)]) hx hb hml hown hts (kX5_tryNewExaminer l g 0 (Nat.le_of_ble_eq_true rfl) a1 a2 a3 a4 M1 _ h) cv_X5_tryNewExaminer q_269 rfl rfl ⟨(Nat.le_of_ble_eq_true rfl), (Nat.le_of_ble_eq_true rfl)⟩ hW (sw_st_lt0 (Nat.le_of_ble_eq_true rfl)) (sw_lay_so 0) rfl rfl hl.1 rfl (Nat.le_of_ble_eq_true rfl) dX6_addExaminer_21 ⟨(Nat.le_of_ble_eq_true rfl), (Nat.le_of_ble_eq_true rfl)⟩) hW (fun r2 M3 H locs h hW => ?_)
  refine sw_xki (rest := []) (sw_xrunV (As := [.int r2]) (rest := []) hx hb hml hown hts (kX6_conclude l hst g r2 M3 _ _ h) cv_X6_conclude q_186 rfl rfl ⟨(Nat.le_of_ble_eq_true rfl), (Nat.le_of_ble_eq_true rfl)⟩ hW (Or.inl (Nat.le_of_ble_eq_true rfl)) sl_0 rfl rfl hl.1 rfl (Nat.le_of_ble_eq_true rfl) dX6_addExaminer_24 ⟨(Nat.le_of_ble_eq_true rfl), (Nat.le_of_ble_eq_true rfl)⟩) hW (fun E9 ce9 q9 M9 H9 locs9 hX9 hW9 f1 f2 f3 => sw_xout hnt hlocks hX9 hW9 f1 f2 f3 (Nat.le_of_ble_eq_true rfl) (Nat.le_of_ble_eq_true rfl)) (fun r4 M5 H locs h hW => ?_)
  refine vx_ret ?_
  exact sw_ri hx hb hr hlocks hW rfl h dX6_addExaminer_27

theorem cv_X6_declareConflict : sw_cV yX6_declareConflict RX6 cX6_declareConflict 3 (some .int) 2 := ⟨q_387, q_388, q_2, q_389, by decide +kernel⟩
def wX6_declareConflict (a1 : Int32) (a2 : Int32) (M : sM) (Q : Int32 → sM → Prop) (X : String → sM → Prop) : Prop :=
  wX0_prepare 0 M (fun M1 => wX5_tryConflict 0 a1 a2 M1 (fun r2 M3 => wX6_conclude r2 M3 (fun r4 M5 => Q r4 M5) X))
set_option maxRecDepth 20000 in
theorem kX6_declareConflict (l : Launch) (hst : l.stackTraces = false) (g : sG) (a1 : Int32) (a2 : Int32) (M : sM) (Q : Int32 → sM → Prop) (X : String → sM → Prop) (h : wX6_declareConflict a1 a2 M Q X) : vx_Met l yX6_declareConflict (sw_ws yX6_declareConflict cX6_declareConflict 3 (some .int)) { frames := 8, cells := 1, slots := 6, locals := 136 } (va_Pc [.ref (sw_ad g 0), .int a1, .int a2] (sw_Pr g M)) (va_Qi Q (sw_Po g) (sw_A g)) (sw_XC g X) 1 6 (sw_A g) := by
  refine sw_xmet (by decide) (Nat.le_of_ble_eq_true rfl) ?_
  intro p e s m args below meth c ls hx hb hr hts hown hml hlocks hnt hW hl
  have hown : s.vm.findClass RX6 = some m.cls := hown
  have hl : lv_has ls 3 [(0, .ref (sw_ad g 0)), (1, .int a1), (2, .int a2)] := hl
  unfold wX6_declareConflict at h
  refine lv_aload_n hx hb dX6_declareConflict_0 rfl (lv_at hl 0 rfl) ?_
  refine sw_gr (j := 3) (r := 1) hx hb hts hown hW rfl qf_6 (Or.inl (Nat.le_of_ble_eq_true rfl)) sl_0 rfl (Nat.le_of_ble_eq_true rfl) q_153 dX6_declareConflict_1 ?_
  refine lv_aload_n hx hb dX6_declareConflict_4 rfl (lv_at hl 0 rfl) ?_
  refine sw_gr (j := 0) (r := (sw_st 0)) hx hb hts hown hW rfl qf_6 (Or.inl (Nat.le_of_ble_eq_true rfl)) sl_0 rfl (Nat.le_of_ble_eq_true rfl) q_150 dX6_declareConflict_5 ?_
  refine sw_kv (rest := []) (sw_runV (As := [.ref (sw_ad g (sw_st 0))]) (rest := []) hx hb hml hown hts (kX0_prepare l g 0 (Nat.le_of_ble_eq_true rfl) M _ h) cv_X0_prepare q_172 rfl rfl ⟨(Nat.le_of_ble_eq_true rfl), (Nat.le_of_ble_eq_true rfl)⟩ hW (Or.inl (Nat.le_of_ble_eq_true rfl)) sl_1 rfl rfl hl.1 rfl (Nat.le_of_ble_eq_true rfl) dX6_declareConflict_8 ⟨(Nat.le_of_ble_eq_true rfl), (Nat.le_of_ble_eq_true rfl)⟩) hW (fun  M1 H locs h hW => ?_)
  refine lv_aload_n hx hb dX6_declareConflict_11 rfl (lv_at hl 0 rfl) ?_
  refine lv_aload_n hx hb dX6_declareConflict_12 rfl (lv_at hl 0 rfl) ?_
  refine sw_gr (j := 0) (r := (sw_st 0)) hx hb hts hown hW rfl qf_6 (Or.inl (Nat.le_of_ble_eq_true rfl)) sl_0 rfl (Nat.le_of_ble_eq_true rfl) q_150 dX6_declareConflict_13 ?_
  refine lv_iload_n hx hb dX6_declareConflict_16 rfl (lv_at hl 1 rfl) ?_
  refine lv_iload_n hx hb dX6_declareConflict_17 rfl (lv_at hl 2 rfl) ?_
  refine sw_ki (rest := [.ref (sw_ad g 0)]) (sw_runV (As := [.int a1, .int a2]) (rest := [.ref (sw_ad g 0)]) hx hb hml hown hts (kX5_tryConflict l g 0 (Nat.le_of_ble_eq_true rfl) a1 a2 M1 _ h) cv_X5_tryConflict q_390 rfl rfl ⟨(Nat.le_of_ble_eq_true rfl), (Nat.le_of_ble_eq_true rfl)⟩ hW (sw_st_lt0 (Nat.le_of_ble_eq_true rfl)) (sw_lay_so 0) rfl rfl hl.1 rfl (Nat.le_of_ble_eq_true rfl) dX6_declareConflict_18 ⟨(Nat.le_of_ble_eq_true rfl), (Nat.le_of_ble_eq_true rfl)⟩) hW (fun r2 M3 H locs h hW => ?_)
  refine sw_xki (rest := []) (sw_xrunV (As := [.int r2]) (rest := []) hx hb hml hown hts (kX6_conclude l hst g r2 M3 _ _ h) cv_X6_conclude q_186 rfl rfl ⟨(Nat.le_of_ble_eq_true rfl), (Nat.le_of_ble_eq_true rfl)⟩ hW (Or.inl (Nat.le_of_ble_eq_true rfl)) sl_0 rfl rfl hl.1 rfl (Nat.le_of_ble_eq_true rfl) dX6_declareConflict_21 ⟨(Nat.le_of_ble_eq_true rfl), (Nat.le_of_ble_eq_true rfl)⟩) hW (fun E9 ce9 q9 M9 H9 locs9 hX9 hW9 f1 f2 f3 => sw_xout hnt hlocks hX9 hW9 f1 f2 f3 (Nat.le_of_ble_eq_true rfl) (Nat.le_of_ble_eq_true rfl)) (fun r4 M5 H locs h hW => ?_)
  refine vx_ret ?_
  exact sw_ri hx hb hr hlocks hW rfl h dX6_declareConflict_24

theorem cv_X6_assign : sw_cV yX6_assign RX6 cX6_assign 3 (some .int) 2 := ⟨q_295, q_296, q_2, q_297, by decide +kernel⟩
def wX6_assign (a1 : Int32) (a2 : Int32) (M : sM) (Q : Int32 → sM → Prop) (X : String → sM → Prop) : Prop :=
  wX0_prepare 0 M (fun M1 => wX5_tryAssignment 0 a1 a2 M1 (fun r2 M3 => wX6_conclude r2 M3 (fun r4 M5 => Q r4 M5) X))
set_option maxRecDepth 20000 in
theorem kX6_assign (l : Launch) (hst : l.stackTraces = false) (g : sG) (a1 : Int32) (a2 : Int32) (M : sM) (Q : Int32 → sM → Prop) (X : String → sM → Prop) (h : wX6_assign a1 a2 M Q X) : vx_Met l yX6_assign (sw_ws yX6_assign cX6_assign 3 (some .int)) { frames := 8, cells := 1, slots := 6, locals := 136 } (va_Pc [.ref (sw_ad g 0), .int a1, .int a2] (sw_Pr g M)) (va_Qi Q (sw_Po g) (sw_A g)) (sw_XC g X) 1 6 (sw_A g) := by
  refine sw_xmet (by decide) (Nat.le_of_ble_eq_true rfl) ?_
  intro p e s m args below meth c ls hx hb hr hts hown hml hlocks hnt hW hl
  have hown : s.vm.findClass RX6 = some m.cls := hown
  have hl : lv_has ls 3 [(0, .ref (sw_ad g 0)), (1, .int a1), (2, .int a2)] := hl
  unfold wX6_assign at h
  refine lv_aload_n hx hb dX6_assign_0 rfl (lv_at hl 0 rfl) ?_
  refine sw_gr (j := 3) (r := 1) hx hb hts hown hW rfl qf_6 (Or.inl (Nat.le_of_ble_eq_true rfl)) sl_0 rfl (Nat.le_of_ble_eq_true rfl) q_153 dX6_assign_1 ?_
  refine lv_aload_n hx hb dX6_assign_4 rfl (lv_at hl 0 rfl) ?_
  refine sw_gr (j := 0) (r := (sw_st 0)) hx hb hts hown hW rfl qf_6 (Or.inl (Nat.le_of_ble_eq_true rfl)) sl_0 rfl (Nat.le_of_ble_eq_true rfl) q_150 dX6_assign_5 ?_
  refine sw_kv (rest := []) (sw_runV (As := [.ref (sw_ad g (sw_st 0))]) (rest := []) hx hb hml hown hts (kX0_prepare l g 0 (Nat.le_of_ble_eq_true rfl) M _ h) cv_X0_prepare q_172 rfl rfl ⟨(Nat.le_of_ble_eq_true rfl), (Nat.le_of_ble_eq_true rfl)⟩ hW (Or.inl (Nat.le_of_ble_eq_true rfl)) sl_1 rfl rfl hl.1 rfl (Nat.le_of_ble_eq_true rfl) dX6_assign_8 ⟨(Nat.le_of_ble_eq_true rfl), (Nat.le_of_ble_eq_true rfl)⟩) hW (fun  M1 H locs h hW => ?_)
  refine lv_aload_n hx hb dX6_assign_11 rfl (lv_at hl 0 rfl) ?_
  refine lv_aload_n hx hb dX6_assign_12 rfl (lv_at hl 0 rfl) ?_
  refine sw_gr (j := 0) (r := (sw_st 0)) hx hb hts hown hW rfl qf_6 (Or.inl (Nat.le_of_ble_eq_true rfl)) sl_0 rfl (Nat.le_of_ble_eq_true rfl) q_150 dX6_assign_13 ?_
  refine lv_iload_n hx hb dX6_assign_16 rfl (lv_at hl 1 rfl) ?_
  refine lv_iload_n hx hb dX6_assign_17 rfl (lv_at hl 2 rfl) ?_
  refine sw_ki (rest := [.ref (sw_ad g 0)]) (sw_runV (As := [.int a1, .int a2]) (rest := [.ref (sw_ad g 0)]) hx hb hml hown hts (kX5_tryAssignment l g 0 (Nat.le_of_ble_eq_true rfl) a1 a2 M1 _ h) cv_X5_tryAssignment q_298 rfl rfl ⟨(Nat.le_of_ble_eq_true rfl), (Nat.le_of_ble_eq_true rfl)⟩ hW (sw_st_lt0 (Nat.le_of_ble_eq_true rfl)) (sw_lay_so 0) rfl rfl hl.1 rfl (Nat.le_of_ble_eq_true rfl) dX6_assign_18 ⟨(Nat.le_of_ble_eq_true rfl), (Nat.le_of_ble_eq_true rfl)⟩) hW (fun r2 M3 H locs h hW => ?_)
  refine sw_xki (rest := []) (sw_xrunV (As := [.int r2]) (rest := []) hx hb hml hown hts (kX6_conclude l hst g r2 M3 _ _ h) cv_X6_conclude q_186 rfl rfl ⟨(Nat.le_of_ble_eq_true rfl), (Nat.le_of_ble_eq_true rfl)⟩ hW (Or.inl (Nat.le_of_ble_eq_true rfl)) sl_0 rfl rfl hl.1 rfl (Nat.le_of_ble_eq_true rfl) dX6_assign_21 ⟨(Nat.le_of_ble_eq_true rfl), (Nat.le_of_ble_eq_true rfl)⟩) hW (fun E9 ce9 q9 M9 H9 locs9 hX9 hW9 f1 f2 f3 => sw_xout hnt hlocks hX9 hW9 f1 f2 f3 (Nat.le_of_ble_eq_true rfl) (Nat.le_of_ble_eq_true rfl)) (fun r4 M5 H locs h hW => ?_)
  refine vx_ret ?_
  exact sw_ri hx hb hr hlocks hW rfl h dX6_assign_24

theorem cv_X6_carryOutPlan : sw_cV yX6_carryOutPlan RX6 cX6_carryOutPlan 1 (some .int) 0 := ⟨q_347, q_348, q_2, q_349, by decide +kernel⟩
def wX6_carryOutPlan  (M : sM) (Q : Int32 → sM → Prop) (X : String → sM → Prop) : Prop :=
  wX0_prepare 0 M (fun M1 => wX3_findBest 0 M1 (fun M2 => wX5_putPlan 0 M2 (fun r3 M4 => wX6_conclude r3 M4 (fun r5 M6 => Q r5 M6) X)))
set_option maxRecDepth 20000 in
theorem kX6_carryOutPlan (l : Launch) (hst : l.stackTraces = false) (g : sG)  (M : sM) (Q : Int32 → sM → Prop) (X : String → sM → Prop) (h : wX6_carryOutPlan  M Q X) : vx_Met l yX6_carryOutPlan (sw_ws yX6_carryOutPlan cX6_carryOutPlan 1 (some .int)) { frames := 8, cells := 1, slots := 6, locals := 136 } (va_Pc [.ref (sw_ad g 0)] (sw_Pr g M)) (va_Qi Q (sw_Po g) (sw_A g)) (sw_XC g X) 1 6 (sw_A g) := by
  refine sw_xmet (by decide) (Nat.le_of_ble_eq_true rfl) ?_
  intro p e s m args below meth c ls hx hb hr hts hown hml hlocks hnt hW hl
  have hown : s.vm.findClass RX6 = some m.cls := hown
  have hl : lv_has ls 1 [(0, .ref (sw_ad g 0))] := hl
  unfold wX6_carryOutPlan at h
  refine lv_aload_n hx hb dX6_carryOutPlan_0 rfl (lv_at hl 0 rfl) ?_
  refine sw_gr (j := 3) (r := 1) hx hb hts hown hW rfl qf_6 (Or.inl (Nat.le_of_ble_eq_true rfl)) sl_0 rfl (Nat.le_of_ble_eq_true rfl) q_153 dX6_carryOutPlan_1 ?_
  refine lv_aload_n hx hb dX6_carryOutPlan_4 rfl (lv_at hl 0 rfl) ?_
  refine sw_gr (j := 0) (r := (sw_st 0)) hx hb hts hown hW rfl qf_6 (Or.inl (Nat.le_of_ble_eq_true rfl)) sl_0 rfl (Nat.le_of_ble_eq_true rfl) q_150 dX6_carryOutPlan_5 ?_
  refine sw_kv (rest := []) (sw_runV (As := [.ref (sw_ad g (sw_st 0))]) (rest := []) hx hb hml hown hts (kX0_prepare l g 0 (Nat.le_of_ble_eq_true rfl) M _ h) cv_X0_prepare q_172 rfl rfl ⟨(Nat.le_of_ble_eq_true rfl), (Nat.le_of_ble_eq_true rfl)⟩ hW (Or.inl (Nat.le_of_ble_eq_true rfl)) sl_1 rfl rfl hl.1 rfl (Nat.le_of_ble_eq_true rfl) dX6_carryOutPlan_8 ⟨(Nat.le_of_ble_eq_true rfl), (Nat.le_of_ble_eq_true rfl)⟩) hW (fun  M1 H locs h hW => ?_)
  refine lv_aload_n hx hb dX6_carryOutPlan_11 rfl (lv_at hl 0 rfl) ?_
  refine sw_gr (j := 4) (r := 3) hx hb hts hown hW rfl qf_6 (Or.inl (Nat.le_of_ble_eq_true rfl)) sl_0 rfl (Nat.le_of_ble_eq_true rfl) q_154 dX6_carryOutPlan_12 ?_
  refine lv_aload_n hx hb dX6_carryOutPlan_15 rfl (lv_at hl 0 rfl) ?_
  refine sw_gr (j := 0) (r := (sw_st 0)) hx hb hts hown hW rfl qf_6 (Or.inl (Nat.le_of_ble_eq_true rfl)) sl_0 rfl (Nat.le_of_ble_eq_true rfl) q_150 dX6_carryOutPlan_16 ?_
  refine sw_kv (rest := []) (sw_runV (As := [.ref (sw_ad g (sw_st 0))]) (rest := []) hx hb hml hown hts (kX3_findBest l g 0 (Nat.le_of_ble_eq_true rfl) M1 _ h) cv_X3_findBest q_350 rfl rfl ⟨(Nat.le_of_ble_eq_true rfl), (Nat.le_of_ble_eq_true rfl)⟩ hW (Or.inl (Nat.le_of_ble_eq_true rfl)) sl_3 rfl rfl hl.1 rfl (Nat.le_of_ble_eq_true rfl) dX6_carryOutPlan_19 ⟨(Nat.le_of_ble_eq_true rfl), (Nat.le_of_ble_eq_true rfl)⟩) hW (fun  M2 H locs h hW => ?_)
  refine lv_aload_n hx hb dX6_carryOutPlan_22 rfl (lv_at hl 0 rfl) ?_
  refine lv_aload_n hx hb dX6_carryOutPlan_23 rfl (lv_at hl 0 rfl) ?_
  refine sw_gr (j := 0) (r := (sw_st 0)) hx hb hts hown hW rfl qf_6 (Or.inl (Nat.le_of_ble_eq_true rfl)) sl_0 rfl (Nat.le_of_ble_eq_true rfl) q_150 dX6_carryOutPlan_24 ?_
  refine lv_aload_n hx hb dX6_carryOutPlan_27 rfl (lv_at hl 0 rfl) ?_
  refine sw_gr (j := 4) (r := 3) hx hb hts hown hW rfl qf_6 (Or.inl (Nat.le_of_ble_eq_true rfl)) sl_0 rfl (Nat.le_of_ble_eq_true rfl) q_154 dX6_carryOutPlan_28 ?_
  refine sw_gr (j := 3) (r := 6) hx hb hts hown hW rfl qf_3 (Or.inl (Nat.le_of_ble_eq_true rfl)) sl_3 rfl (Nat.le_of_ble_eq_true rfl) q_114 dX6_carryOutPlan_31 ?_
  refine sw_ki (rest := [.ref (sw_ad g 0)]) (sw_runV (As := [.ref (sw_ad g 6)]) (rest := [.ref (sw_ad g 0)]) hx hb hml hown hts (kX5_putPlan l g 0 (Nat.le_of_ble_eq_true rfl) M2 _ h) cv_X5_putPlan q_380 rfl rfl ⟨(Nat.le_of_ble_eq_true rfl), (Nat.le_of_ble_eq_true rfl)⟩ hW (sw_st_lt0 (Nat.le_of_ble_eq_true rfl)) (sw_lay_so 0) rfl rfl hl.1 rfl (Nat.le_of_ble_eq_true rfl) dX6_carryOutPlan_34 ⟨(Nat.le_of_ble_eq_true rfl), (Nat.le_of_ble_eq_true rfl)⟩) hW (fun r3 M4 H locs h hW => ?_)
  refine sw_xki (rest := []) (sw_xrunV (As := [.int r3]) (rest := []) hx hb hml hown hts (kX6_conclude l hst g r3 M4 _ _ h) cv_X6_conclude q_186 rfl rfl ⟨(Nat.le_of_ble_eq_true rfl), (Nat.le_of_ble_eq_true rfl)⟩ hW (Or.inl (Nat.le_of_ble_eq_true rfl)) sl_0 rfl rfl hl.1 rfl (Nat.le_of_ble_eq_true rfl) dX6_carryOutPlan_37 ⟨(Nat.le_of_ble_eq_true rfl), (Nat.le_of_ble_eq_true rfl)⟩) hW (fun E9 ce9 q9 M9 H9 locs9 hX9 hW9 f1 f2 f3 => sw_xout hnt hlocks hX9 hW9 f1 f2 f3 (Nat.le_of_ble_eq_true rfl) (Nat.le_of_ble_eq_true rfl)) (fun r5 M6 H locs h hW => ?_)
  refine vx_ret ?_
  exact sw_ri hx hb hr hlocks hW rfl h dX6_carryOutPlan_40

theorem cv_X6_grade : sw_cV yX6_grade RX6 cX6_grade 4 (some .int) 3 := ⟨q_401, q_402, q_2, q_403, by decide +kernel⟩
def wX6_grade (a1 : Int32) (a2 : Int32) (a3 : Int32) (M : sM) (Q : Int32 → sM → Prop) (X : String → sM → Prop) : Prop :=
  wX0_prepare 0 M (fun M1 => wX5_tryGrade 0 a1 a2 a3 M1 (fun r2 M3 => wX6_conclude r2 M3 (fun r4 M5 => Q r4 M5) X))
set_option maxRecDepth 20000 in
theorem kX6_grade (l : Launch) (hst : l.stackTraces = false) (g : sG) (a1 : Int32) (a2 : Int32) (a3 : Int32) (M : sM) (Q : Int32 → sM → Prop) (X : String → sM → Prop) (h : wX6_grade a1 a2 a3 M Q X) : vx_Met l yX6_grade (sw_ws yX6_grade cX6_grade 4 (some .int)) { frames := 8, cells := 1, slots := 6, locals := 136 } (va_Pc [.ref (sw_ad g 0), .int a1, .int a2, .int a3] (sw_Pr g M)) (va_Qi Q (sw_Po g) (sw_A g)) (sw_XC g X) 1 6 (sw_A g) := by
  refine sw_xmet (by decide) (Nat.le_of_ble_eq_true rfl) ?_
  intro p e s m args below meth c ls hx hb hr hts hown hml hlocks hnt hW hl
  have hown : s.vm.findClass RX6 = some m.cls := hown
  have hl : lv_has ls 4 [(0, .ref (sw_ad g 0)), (1, .int a1), (2, .int a2), (3, .int a3)] := hl
  unfold wX6_grade at h
  refine lv_aload_n hx hb dX6_grade_0 rfl (lv_at hl 0 rfl) ?_
  refine sw_gr (j := 3) (r := 1) hx hb hts hown hW rfl qf_6 (Or.inl (Nat.le_of_ble_eq_true rfl)) sl_0 rfl (Nat.le_of_ble_eq_true rfl) q_153 dX6_grade_1 ?_
  refine lv_aload_n hx hb dX6_grade_4 rfl (lv_at hl 0 rfl) ?_
  refine sw_gr (j := 0) (r := (sw_st 0)) hx hb hts hown hW rfl qf_6 (Or.inl (Nat.le_of_ble_eq_true rfl)) sl_0 rfl (Nat.le_of_ble_eq_true rfl) q_150 dX6_grade_5 ?_
  refine sw_kv (rest := []) (sw_runV (As := [.ref (sw_ad g (sw_st 0))]) (rest := []) hx hb hml hown hts (kX0_prepare l g 0 (Nat.le_of_ble_eq_true rfl) M _ h) cv_X0_prepare q_172 rfl rfl ⟨(Nat.le_of_ble_eq_true rfl), (Nat.le_of_ble_eq_true rfl)⟩ hW (Or.inl (Nat.le_of_ble_eq_true rfl)) sl_1 rfl rfl hl.1 rfl (Nat.le_of_ble_eq_true rfl) dX6_grade_8 ⟨(Nat.le_of_ble_eq_true rfl), (Nat.le_of_ble_eq_true rfl)⟩) hW (fun  M1 H locs h hW => ?_)
  refine lv_aload_n hx hb dX6_grade_11 rfl (lv_at hl 0 rfl) ?_
  refine lv_aload_n hx hb dX6_grade_12 rfl (lv_at hl 0 rfl) ?_
  refine sw_gr (j := 0) (r := (sw_st 0)) hx hb hts hown hW rfl qf_6 (Or.inl (Nat.le_of_ble_eq_true rfl)) sl_0 rfl (Nat.le_of_ble_eq_true rfl) q_150 dX6_grade_13 ?_
  refine lv_iload_n hx hb dX6_grade_16 rfl (lv_at hl 1 rfl) ?_
  refine lv_iload_n hx hb dX6_grade_17 rfl (lv_at hl 2 rfl) ?_
  refine lv_iload_n hx hb dX6_grade_18 rfl (lv_at hl 3 rfl) ?_
  refine sw_ki (rest := [.ref (sw_ad g 0)]) (sw_runV (As := [.int a1, .int a2, .int a3]) (rest := [.ref (sw_ad g 0)]) hx hb hml hown hts (kX5_tryGrade l g 0 (Nat.le_of_ble_eq_true rfl) a1 a2 a3 M1 _ h) cv_X5_tryGrade q_404 rfl rfl ⟨(Nat.le_of_ble_eq_true rfl), (Nat.le_of_ble_eq_true rfl)⟩ hW (sw_st_lt0 (Nat.le_of_ble_eq_true rfl)) (sw_lay_so 0) rfl rfl hl.1 rfl (Nat.le_of_ble_eq_true rfl) dX6_grade_19 ⟨(Nat.le_of_ble_eq_true rfl), (Nat.le_of_ble_eq_true rfl)⟩) hW (fun r2 M3 H locs h hW => ?_)
  refine sw_xki (rest := []) (sw_xrunV (As := [.int r2]) (rest := []) hx hb hml hown hts (kX6_conclude l hst g r2 M3 _ _ h) cv_X6_conclude q_186 rfl rfl ⟨(Nat.le_of_ble_eq_true rfl), (Nat.le_of_ble_eq_true rfl)⟩ hW (Or.inl (Nat.le_of_ble_eq_true rfl)) sl_0 rfl rfl hl.1 rfl (Nat.le_of_ble_eq_true rfl) dX6_grade_22 ⟨(Nat.le_of_ble_eq_true rfl), (Nat.le_of_ble_eq_true rfl)⟩) hW (fun E9 ce9 q9 M9 H9 locs9 hX9 hW9 f1 f2 f3 => sw_xout hnt hlocks hX9 hW9 f1 f2 f3 (Nat.le_of_ble_eq_true rfl) (Nat.le_of_ble_eq_true rfl)) (fun r4 M5 H locs h hW => ?_)
  refine vx_ret ?_
  exact sw_ri hx hb hr hlocks hW rfl h dX6_grade_25

theorem cv_X6_setThreshold : sw_cV yX6_setThreshold RX6 cX6_setThreshold 2 (some .int) 1 := ⟨q_415, q_416, q_2, q_417, by decide +kernel⟩
def wX6_setThreshold (a1 : Int32) (M : sM) (Q : Int32 → sM → Prop) (X : String → sM → Prop) : Prop :=
  wX0_prepare 0 M (fun M1 => wX5_tryThreshold 0 a1 M1 (fun r2 M3 => wX6_conclude r2 M3 (fun r4 M5 => Q r4 M5) X))
set_option maxRecDepth 20000 in
theorem kX6_setThreshold (l : Launch) (hst : l.stackTraces = false) (g : sG) (a1 : Int32) (M : sM) (Q : Int32 → sM → Prop) (X : String → sM → Prop) (h : wX6_setThreshold a1 M Q X) : vx_Met l yX6_setThreshold (sw_ws yX6_setThreshold cX6_setThreshold 2 (some .int)) { frames := 8, cells := 1, slots := 6, locals := 136 } (va_Pc [.ref (sw_ad g 0), .int a1] (sw_Pr g M)) (va_Qi Q (sw_Po g) (sw_A g)) (sw_XC g X) 1 6 (sw_A g) := by
  refine sw_xmet (by decide) (Nat.le_of_ble_eq_true rfl) ?_
  intro p e s m args below meth c ls hx hb hr hts hown hml hlocks hnt hW hl
  have hown : s.vm.findClass RX6 = some m.cls := hown
  have hl : lv_has ls 2 [(0, .ref (sw_ad g 0)), (1, .int a1)] := hl
  unfold wX6_setThreshold at h
  refine lv_aload_n hx hb dX6_setThreshold_0 rfl (lv_at hl 0 rfl) ?_
  refine sw_gr (j := 3) (r := 1) hx hb hts hown hW rfl qf_6 (Or.inl (Nat.le_of_ble_eq_true rfl)) sl_0 rfl (Nat.le_of_ble_eq_true rfl) q_153 dX6_setThreshold_1 ?_
  refine lv_aload_n hx hb dX6_setThreshold_4 rfl (lv_at hl 0 rfl) ?_
  refine sw_gr (j := 0) (r := (sw_st 0)) hx hb hts hown hW rfl qf_6 (Or.inl (Nat.le_of_ble_eq_true rfl)) sl_0 rfl (Nat.le_of_ble_eq_true rfl) q_150 dX6_setThreshold_5 ?_
  refine sw_kv (rest := []) (sw_runV (As := [.ref (sw_ad g (sw_st 0))]) (rest := []) hx hb hml hown hts (kX0_prepare l g 0 (Nat.le_of_ble_eq_true rfl) M _ h) cv_X0_prepare q_172 rfl rfl ⟨(Nat.le_of_ble_eq_true rfl), (Nat.le_of_ble_eq_true rfl)⟩ hW (Or.inl (Nat.le_of_ble_eq_true rfl)) sl_1 rfl rfl hl.1 rfl (Nat.le_of_ble_eq_true rfl) dX6_setThreshold_8 ⟨(Nat.le_of_ble_eq_true rfl), (Nat.le_of_ble_eq_true rfl)⟩) hW (fun  M1 H locs h hW => ?_)
  refine lv_aload_n hx hb dX6_setThreshold_11 rfl (lv_at hl 0 rfl) ?_
  refine lv_aload_n hx hb dX6_setThreshold_12 rfl (lv_at hl 0 rfl) ?_
  refine sw_gr (j := 0) (r := (sw_st 0)) hx hb hts hown hW rfl qf_6 (Or.inl (Nat.le_of_ble_eq_true rfl)) sl_0 rfl (Nat.le_of_ble_eq_true rfl) q_150 dX6_setThreshold_13 ?_
  refine lv_iload_n hx hb dX6_setThreshold_16 rfl (lv_at hl 1 rfl) ?_
  refine sw_ki (rest := [.ref (sw_ad g 0)]) (sw_runV (As := [.int a1]) (rest := [.ref (sw_ad g 0)]) hx hb hml hown hts (kX5_tryThreshold l g 0 (Nat.le_of_ble_eq_true rfl) a1 M1 _ h) cv_X5_tryThreshold q_418 rfl rfl ⟨(Nat.le_of_ble_eq_true rfl), (Nat.le_of_ble_eq_true rfl)⟩ hW (sw_st_lt0 (Nat.le_of_ble_eq_true rfl)) (sw_lay_so 0) rfl rfl hl.1 rfl (Nat.le_of_ble_eq_true rfl) dX6_setThreshold_17 ⟨(Nat.le_of_ble_eq_true rfl), (Nat.le_of_ble_eq_true rfl)⟩) hW (fun r2 M3 H locs h hW => ?_)
  refine sw_xki (rest := []) (sw_xrunV (As := [.int r2]) (rest := []) hx hb hml hown hts (kX6_conclude l hst g r2 M3 _ _ h) cv_X6_conclude q_186 rfl rfl ⟨(Nat.le_of_ble_eq_true rfl), (Nat.le_of_ble_eq_true rfl)⟩ hW (Or.inl (Nat.le_of_ble_eq_true rfl)) sl_0 rfl rfl hl.1 rfl (Nat.le_of_ble_eq_true rfl) dX6_setThreshold_20 ⟨(Nat.le_of_ble_eq_true rfl), (Nat.le_of_ble_eq_true rfl)⟩) hW (fun E9 ce9 q9 M9 H9 locs9 hX9 hW9 f1 f2 f3 => sw_xout hnt hlocks hX9 hW9 f1 f2 f3 (Nat.le_of_ble_eq_true rfl) (Nat.le_of_ble_eq_true rfl)) (fun r4 M5 H locs h hW => ?_)
  refine vx_ret ?_
  exact sw_ri hx hb hr hlocks hW rfl h dX6_setThreshold_23

theorem cv_X6_appeal : sw_cV yX6_appeal RX6 cX6_appeal 2 (some .int) 1 := ⟨q_425, q_426, q_2, q_427, by decide +kernel⟩
def wX6_appeal (a1 : Int32) (M : sM) (Q : Int32 → sM → Prop) (X : String → sM → Prop) : Prop :=
  wX0_prepare 0 M (fun M1 => wX2_tryAppeal 0 a1 M1 (fun r2 M3 => wX6_conclude r2 M3 (fun r4 M5 => Q r4 M5) X))
set_option maxRecDepth 20000 in
theorem kX6_appeal (l : Launch) (hst : l.stackTraces = false) (g : sG) (a1 : Int32) (M : sM) (Q : Int32 → sM → Prop) (X : String → sM → Prop) (h : wX6_appeal a1 M Q X) : vx_Met l yX6_appeal (sw_ws yX6_appeal cX6_appeal 2 (some .int)) { frames := 8, cells := 1, slots := 6, locals := 136 } (va_Pc [.ref (sw_ad g 0), .int a1] (sw_Pr g M)) (va_Qi Q (sw_Po g) (sw_A g)) (sw_XC g X) 1 6 (sw_A g) := by
  refine sw_xmet (by decide) (Nat.le_of_ble_eq_true rfl) ?_
  intro p e s m args below meth c ls hx hb hr hts hown hml hlocks hnt hW hl
  have hown : s.vm.findClass RX6 = some m.cls := hown
  have hl : lv_has ls 2 [(0, .ref (sw_ad g 0)), (1, .int a1)] := hl
  unfold wX6_appeal at h
  refine lv_aload_n hx hb dX6_appeal_0 rfl (lv_at hl 0 rfl) ?_
  refine sw_gr (j := 3) (r := 1) hx hb hts hown hW rfl qf_6 (Or.inl (Nat.le_of_ble_eq_true rfl)) sl_0 rfl (Nat.le_of_ble_eq_true rfl) q_153 dX6_appeal_1 ?_
  refine lv_aload_n hx hb dX6_appeal_4 rfl (lv_at hl 0 rfl) ?_
  refine sw_gr (j := 0) (r := (sw_st 0)) hx hb hts hown hW rfl qf_6 (Or.inl (Nat.le_of_ble_eq_true rfl)) sl_0 rfl (Nat.le_of_ble_eq_true rfl) q_150 dX6_appeal_5 ?_
  refine sw_kv (rest := []) (sw_runV (As := [.ref (sw_ad g (sw_st 0))]) (rest := []) hx hb hml hown hts (kX0_prepare l g 0 (Nat.le_of_ble_eq_true rfl) M _ h) cv_X0_prepare q_172 rfl rfl ⟨(Nat.le_of_ble_eq_true rfl), (Nat.le_of_ble_eq_true rfl)⟩ hW (Or.inl (Nat.le_of_ble_eq_true rfl)) sl_1 rfl rfl hl.1 rfl (Nat.le_of_ble_eq_true rfl) dX6_appeal_8 ⟨(Nat.le_of_ble_eq_true rfl), (Nat.le_of_ble_eq_true rfl)⟩) hW (fun  M1 H locs h hW => ?_)
  refine lv_aload_n hx hb dX6_appeal_11 rfl (lv_at hl 0 rfl) ?_
  refine lv_aload_n hx hb dX6_appeal_12 rfl (lv_at hl 0 rfl) ?_
  refine sw_gr (j := 5) (r := 12) hx hb hts hown hW rfl qf_6 (Or.inl (Nat.le_of_ble_eq_true rfl)) sl_0 rfl (Nat.le_of_ble_eq_true rfl) q_155 dX6_appeal_13 ?_
  refine lv_aload_n hx hb dX6_appeal_16 rfl (lv_at hl 0 rfl) ?_
  refine sw_gr (j := 0) (r := (sw_st 0)) hx hb hts hown hW rfl qf_6 (Or.inl (Nat.le_of_ble_eq_true rfl)) sl_0 rfl (Nat.le_of_ble_eq_true rfl) q_150 dX6_appeal_17 ?_
  refine lv_iload_n hx hb dX6_appeal_20 rfl (lv_at hl 1 rfl) ?_
  refine sw_ki (rest := [.ref (sw_ad g 0)]) (sw_runV (As := [.ref (sw_ad g (sw_st 0)), .int a1]) (rest := [.ref (sw_ad g 0)]) hx hb hml hown hts (kX2_tryAppeal l g 0 (Nat.le_of_ble_eq_true rfl) a1 M1 _ h) cv_X2_tryAppeal q_428 rfl rfl ⟨(Nat.le_of_ble_eq_true rfl), (Nat.le_of_ble_eq_true rfl)⟩ hW (Or.inl (Nat.le_of_ble_eq_true rfl)) sl_12 rfl rfl hl.1 rfl (Nat.le_of_ble_eq_true rfl) dX6_appeal_21 ⟨(Nat.le_of_ble_eq_true rfl), (Nat.le_of_ble_eq_true rfl)⟩) hW (fun r2 M3 H locs h hW => ?_)
  refine sw_xki (rest := []) (sw_xrunV (As := [.int r2]) (rest := []) hx hb hml hown hts (kX6_conclude l hst g r2 M3 _ _ h) cv_X6_conclude q_186 rfl rfl ⟨(Nat.le_of_ble_eq_true rfl), (Nat.le_of_ble_eq_true rfl)⟩ hW (Or.inl (Nat.le_of_ble_eq_true rfl)) sl_0 rfl rfl hl.1 rfl (Nat.le_of_ble_eq_true rfl) dX6_appeal_24 ⟨(Nat.le_of_ble_eq_true rfl), (Nat.le_of_ble_eq_true rfl)⟩) hW (fun E9 ce9 q9 M9 H9 locs9 hX9 hW9 f1 f2 f3 => sw_xout hnt hlocks hX9 hW9 f1 f2 f3 (Nat.le_of_ble_eq_true rfl) (Nat.le_of_ble_eq_true rfl)) (fun r4 M5 H locs h hW => ?_)
  refine vx_ret ?_
  exact sw_ri hx hb hr hlocks hW rfl h dX6_appeal_27

theorem cv_X6_award : sw_cV yX6_award RX6 cX6_award 2 (some .int) 1 := ⟨q_464, q_465, q_2, q_466, by decide +kernel⟩
def wX6_award (a1 : Int32) (M : sM) (Q : Int32 → sM → Prop) (X : String → sM → Prop) : Prop :=
  wX0_prepare 0 M (fun M1 => wX5_tryAward 0 a1 M1 (fun r2 M3 => wX6_conclude r2 M3 (fun r4 M5 => Q r4 M5) X))
set_option maxRecDepth 20000 in
theorem kX6_award (l : Launch) (hst : l.stackTraces = false) (g : sG) (a1 : Int32) (M : sM) (Q : Int32 → sM → Prop) (X : String → sM → Prop) (h : wX6_award a1 M Q X) : vx_Met l yX6_award (sw_ws yX6_award cX6_award 2 (some .int)) { frames := 8, cells := 1, slots := 6, locals := 136 } (va_Pc [.ref (sw_ad g 0), .int a1] (sw_Pr g M)) (va_Qi Q (sw_Po g) (sw_A g)) (sw_XC g X) 1 6 (sw_A g) := by
  refine sw_xmet (by decide) (Nat.le_of_ble_eq_true rfl) ?_
  intro p e s m args below meth c ls hx hb hr hts hown hml hlocks hnt hW hl
  have hown : s.vm.findClass RX6 = some m.cls := hown
  have hl : lv_has ls 2 [(0, .ref (sw_ad g 0)), (1, .int a1)] := hl
  unfold wX6_award at h
  refine lv_aload_n hx hb dX6_award_0 rfl (lv_at hl 0 rfl) ?_
  refine sw_gr (j := 3) (r := 1) hx hb hts hown hW rfl qf_6 (Or.inl (Nat.le_of_ble_eq_true rfl)) sl_0 rfl (Nat.le_of_ble_eq_true rfl) q_153 dX6_award_1 ?_
  refine lv_aload_n hx hb dX6_award_4 rfl (lv_at hl 0 rfl) ?_
  refine sw_gr (j := 0) (r := (sw_st 0)) hx hb hts hown hW rfl qf_6 (Or.inl (Nat.le_of_ble_eq_true rfl)) sl_0 rfl (Nat.le_of_ble_eq_true rfl) q_150 dX6_award_5 ?_
  refine sw_kv (rest := []) (sw_runV (As := [.ref (sw_ad g (sw_st 0))]) (rest := []) hx hb hml hown hts (kX0_prepare l g 0 (Nat.le_of_ble_eq_true rfl) M _ h) cv_X0_prepare q_172 rfl rfl ⟨(Nat.le_of_ble_eq_true rfl), (Nat.le_of_ble_eq_true rfl)⟩ hW (Or.inl (Nat.le_of_ble_eq_true rfl)) sl_1 rfl rfl hl.1 rfl (Nat.le_of_ble_eq_true rfl) dX6_award_8 ⟨(Nat.le_of_ble_eq_true rfl), (Nat.le_of_ble_eq_true rfl)⟩) hW (fun  M1 H locs h hW => ?_)
  refine lv_aload_n hx hb dX6_award_11 rfl (lv_at hl 0 rfl) ?_
  refine lv_aload_n hx hb dX6_award_12 rfl (lv_at hl 0 rfl) ?_
  refine sw_gr (j := 0) (r := (sw_st 0)) hx hb hts hown hW rfl qf_6 (Or.inl (Nat.le_of_ble_eq_true rfl)) sl_0 rfl (Nat.le_of_ble_eq_true rfl) q_150 dX6_award_13 ?_
  refine lv_iload_n hx hb dX6_award_16 rfl (lv_at hl 1 rfl) ?_
  refine sw_ki (rest := [.ref (sw_ad g 0)]) (sw_runV (As := [.int a1]) (rest := [.ref (sw_ad g 0)]) hx hb hml hown hts (kX5_tryAward l g 0 (Nat.le_of_ble_eq_true rfl) a1 M1 _ h) cv_X5_tryAward q_467 rfl rfl ⟨(Nat.le_of_ble_eq_true rfl), (Nat.le_of_ble_eq_true rfl)⟩ hW (sw_st_lt0 (Nat.le_of_ble_eq_true rfl)) (sw_lay_so 0) rfl rfl hl.1 rfl (Nat.le_of_ble_eq_true rfl) dX6_award_17 ⟨(Nat.le_of_ble_eq_true rfl), (Nat.le_of_ble_eq_true rfl)⟩) hW (fun r2 M3 H locs h hW => ?_)
  refine sw_xki (rest := []) (sw_xrunV (As := [.int r2]) (rest := []) hx hb hml hown hts (kX6_conclude l hst g r2 M3 _ _ h) cv_X6_conclude q_186 rfl rfl ⟨(Nat.le_of_ble_eq_true rfl), (Nat.le_of_ble_eq_true rfl)⟩ hW (Or.inl (Nat.le_of_ble_eq_true rfl)) sl_0 rfl rfl hl.1 rfl (Nat.le_of_ble_eq_true rfl) dX6_award_20 ⟨(Nat.le_of_ble_eq_true rfl), (Nat.le_of_ble_eq_true rfl)⟩) hW (fun E9 ce9 q9 M9 H9 locs9 hX9 hW9 f1 f2 f3 => sw_xout hnt hlocks hX9 hW9 f1 f2 f3 (Nat.le_of_ble_eq_true rfl) (Nat.le_of_ble_eq_true rfl)) (fun r4 M5 H locs h hW => ?_)
  refine vx_ret ?_
  exact sw_ri hx hb hr hlocks hW rfl h dX6_award_23

theorem cv_X6_revoke : sw_cV yX6_revoke RX6 cX6_revoke 2 (some .int) 1 := ⟨q_1070, q_1071, q_2, q_1072, by decide +kernel⟩
def wX6_revoke (a1 : Int32) (M : sM) (Q : Int32 → sM → Prop) (X : String → sM → Prop) : Prop :=
  wX0_prepare 0 M (fun M1 => wX5_tryRevocation 0 a1 M1 (fun r2 M3 => wX6_conclude r2 M3 (fun r4 M5 => Q r4 M5) X))
set_option maxRecDepth 20000 in
theorem kX6_revoke (l : Launch) (hst : l.stackTraces = false) (g : sG) (a1 : Int32) (M : sM) (Q : Int32 → sM → Prop) (X : String → sM → Prop) (h : wX6_revoke a1 M Q X) : vx_Met l yX6_revoke (sw_ws yX6_revoke cX6_revoke 2 (some .int)) { frames := 8, cells := 1, slots := 6, locals := 136 } (va_Pc [.ref (sw_ad g 0), .int a1] (sw_Pr g M)) (va_Qi Q (sw_Po g) (sw_A g)) (sw_XC g X) 1 6 (sw_A g) := by
  refine sw_xmet (by decide) (Nat.le_of_ble_eq_true rfl) ?_
  intro p e s m args below meth c ls hx hb hr hts hown hml hlocks hnt hW hl
  have hown : s.vm.findClass RX6 = some m.cls := hown
  have hl : lv_has ls 2 [(0, .ref (sw_ad g 0)), (1, .int a1)] := hl
  unfold wX6_revoke at h
  refine lv_aload_n hx hb dX6_revoke_0 rfl (lv_at hl 0 rfl) ?_
  refine sw_gr (j := 3) (r := 1) hx hb hts hown hW rfl qf_6 (Or.inl (Nat.le_of_ble_eq_true rfl)) sl_0 rfl (Nat.le_of_ble_eq_true rfl) q_153 dX6_revoke_1 ?_
  refine lv_aload_n hx hb dX6_revoke_4 rfl (lv_at hl 0 rfl) ?_
  refine sw_gr (j := 0) (r := (sw_st 0)) hx hb hts hown hW rfl qf_6 (Or.inl (Nat.le_of_ble_eq_true rfl)) sl_0 rfl (Nat.le_of_ble_eq_true rfl) q_150 dX6_revoke_5 ?_
  refine sw_kv (rest := []) (sw_runV (As := [.ref (sw_ad g (sw_st 0))]) (rest := []) hx hb hml hown hts (kX0_prepare l g 0 (Nat.le_of_ble_eq_true rfl) M _ h) cv_X0_prepare q_172 rfl rfl ⟨(Nat.le_of_ble_eq_true rfl), (Nat.le_of_ble_eq_true rfl)⟩ hW (Or.inl (Nat.le_of_ble_eq_true rfl)) sl_1 rfl rfl hl.1 rfl (Nat.le_of_ble_eq_true rfl) dX6_revoke_8 ⟨(Nat.le_of_ble_eq_true rfl), (Nat.le_of_ble_eq_true rfl)⟩) hW (fun  M1 H locs h hW => ?_)
  refine lv_aload_n hx hb dX6_revoke_11 rfl (lv_at hl 0 rfl) ?_
  refine lv_aload_n hx hb dX6_revoke_12 rfl (lv_at hl 0 rfl) ?_
  refine sw_gr (j := 0) (r := (sw_st 0)) hx hb hts hown hW rfl qf_6 (Or.inl (Nat.le_of_ble_eq_true rfl)) sl_0 rfl (Nat.le_of_ble_eq_true rfl) q_150 dX6_revoke_13 ?_
  refine lv_iload_n hx hb dX6_revoke_16 rfl (lv_at hl 1 rfl) ?_
  refine sw_ki (rest := [.ref (sw_ad g 0)]) (sw_runV (As := [.int a1]) (rest := [.ref (sw_ad g 0)]) hx hb hml hown hts (kX5_tryRevocation l g 0 (Nat.le_of_ble_eq_true rfl) a1 M1 _ h) cv_X5_tryRevocation q_1073 rfl rfl ⟨(Nat.le_of_ble_eq_true rfl), (Nat.le_of_ble_eq_true rfl)⟩ hW (sw_st_lt0 (Nat.le_of_ble_eq_true rfl)) (sw_lay_so 0) rfl rfl hl.1 rfl (Nat.le_of_ble_eq_true rfl) dX6_revoke_17 ⟨(Nat.le_of_ble_eq_true rfl), (Nat.le_of_ble_eq_true rfl)⟩) hW (fun r2 M3 H locs h hW => ?_)
  refine sw_xki (rest := []) (sw_xrunV (As := [.int r2]) (rest := []) hx hb hml hown hts (kX6_conclude l hst g r2 M3 _ _ h) cv_X6_conclude q_186 rfl rfl ⟨(Nat.le_of_ble_eq_true rfl), (Nat.le_of_ble_eq_true rfl)⟩ hW (Or.inl (Nat.le_of_ble_eq_true rfl)) sl_0 rfl rfl hl.1 rfl (Nat.le_of_ble_eq_true rfl) dX6_revoke_20 ⟨(Nat.le_of_ble_eq_true rfl), (Nat.le_of_ble_eq_true rfl)⟩) hW (fun E9 ce9 q9 M9 H9 locs9 hX9 hW9 f1 f2 f3 => sw_xout hnt hlocks hX9 hW9 f1 f2 f3 (Nat.le_of_ble_eq_true rfl) (Nat.le_of_ble_eq_true rfl)) (fun r4 M5 H locs h hW => ?_)
  refine vx_ret ?_
  exact sw_ri hx hb hr hlocks hW rfl h dX6_revoke_23

theorem cv_X6_doorCount : sw_cV yX6_doorCount RX6 cX6_doorCount 1 (some .int) 0 := ⟨q_488, q_489, q_2, q_490, by decide +kernel⟩
def wX6_doorCount  (M : sM) (Q : Int32 → Prop) : Prop :=
  Q (M (sw_st 0) 3)
set_option maxRecDepth 20000 in
theorem kX6_doorCount (l : Launch) (g : sG)  (M : sM) (Q : Int32 → Prop) (h : wX6_doorCount  M Q) : Met l yX6_doorCount (sw_ws yX6_doorCount cX6_doorCount 1 (some .int)) { frames := 0, cells := 0, slots := 0, locals := 0 } (va_Pc [.ref (sw_ad g 0)] (sw_Pr g M)) (va_Qi (fun r M1 => Q r ∧ M1 = M) (sw_Po g) (sw_A g)) 0 0 (sw_A g) := by
  refine sw_met (by decide) (Nat.le_of_ble_eq_true rfl) ?_
  intro p e s m args below meth c ls hx hb hr hts hown hml hlocks hW hl
  have hown : s.vm.findClass RX6 = some m.cls := hown
  have hl : lv_has ls 1 [(0, .ref (sw_ad g 0))] := hl
  unfold wX6_doorCount at h
  refine lv_aload_n hx hb dX6_doorCount_0 rfl (lv_at hl 0 rfl) ?_
  refine sw_gr (j := 0) (r := (sw_st 0)) hx hb hts hown hW rfl qf_6 (Or.inl (Nat.le_of_ble_eq_true rfl)) sl_0 rfl (Nat.le_of_ble_eq_true rfl) q_150 dX6_doorCount_1 ?_
  refine sw_gi (j := 3) hx hb hts hown hW rfl qf_5 (sw_st_lt0 (Nat.le_of_ble_eq_true rfl)) (sw_lay_so 0) rfl (Nat.le_of_ble_eq_true rfl) q_58 dX6_doorCount_4 ?_
  exact sw_ri hx hb hr hlocks hW rfl ⟨h, rfl⟩ dX6_doorCount_7

theorem cv_X6_requireDoor : sw_cV yX6_requireDoor RX6 cX6_requireDoor 2 none 1 := ⟨q_509, q_1163, q_2, q_510, by decide +kernel⟩
def wX6_requireDoor (a1 : Int32) (M : sM) (Q : Prop) (X : String → Prop) : Prop :=
  wX5_hasDoor 0 a1 M (fun r1 => (r1 = 0 → (X "java/lang/IndexOutOfBoundsException")) ∧ (¬ r1 = 0 → (Q)))
set_option maxRecDepth 20000 in
theorem kX6_requireDoor (l : Launch) (hst : l.stackTraces = false) (g : sG) (a1 : Int32) (M : sM) (Q : Prop) (X : String → Prop) (h : wX6_requireDoor a1 M Q X) : vx_Met l yX6_requireDoor (sw_ws yX6_requireDoor cX6_requireDoor 2 none) { frames := 6, cells := 1, slots := 6, locals := 95 } (va_Pc [.ref (sw_ad g 0), .int a1] (sw_Pr g M)) (va_Qv (fun M1 => Q ∧ M1 = M) (sw_Po g) (sw_A g)) (sw_XC g (fun E M1 => X E ∧ M1 = M)) 1 6 (sw_A g) := by
  refine sw_xmet (by decide) (Nat.le_of_ble_eq_true rfl) ?_
  intro p e s m args below meth c ls hx hb hr hts hown hml hlocks hnt hW hl
  have hown : s.vm.findClass RX6 = some m.cls := hown
  have hl : lv_has ls 2 [(0, .ref (sw_ad g 0)), (1, .int a1)] := hl
  unfold wX6_requireDoor at h
  refine lv_aload_n hx hb dX6_requireDoor_0 rfl (lv_at hl 0 rfl) ?_
  refine sw_gr (j := 0) (r := (sw_st 0)) hx hb hts hown hW rfl qf_6 (Or.inl (Nat.le_of_ble_eq_true rfl)) sl_0 rfl (Nat.le_of_ble_eq_true rfl) q_150 dX6_requireDoor_1 ?_
  refine lv_iload_n hx hb dX6_requireDoor_4 rfl (lv_at hl 1 rfl) ?_
  refine sw_ki (rest := []) (sw_runV (As := [.int a1]) (rest := []) hx hb hml hown hts (kX5_hasDoor l g 0 (Nat.le_of_ble_eq_true rfl) a1 M _ h) cv_X5_hasDoor q_511 rfl rfl ⟨(Nat.le_of_ble_eq_true rfl), (Nat.le_of_ble_eq_true rfl)⟩ hW (sw_st_lt0 (Nat.le_of_ble_eq_true rfl)) (sw_lay_so 0) rfl rfl hl.1 rfl (Nat.le_of_ble_eq_true rfl) dX6_requireDoor_5 ⟨(Nat.le_of_ble_eq_true rfl), (Nat.le_of_ble_eq_true rfl)⟩) hW (fun r1 M3 H locs h hW => ?_)
  obtain ⟨h, eM3⟩ := h
  rw [eM3] at hW
  refine lv_if_ne (tgt := 19) hx hb dX6_requireDoor_8 (by decide) (fun k2 => ?_) (fun k2 => ?_)
  · have h := h.2 k2
    refine W.widen (k := 1) (n := 6) (Nat.le_of_ble_eq_true rfl) (Nat.le_of_ble_eq_true rfl) ?_
    refine vx_ret ?_
    exact sw_rv hx hb hr hlocks hW ⟨h, rfl⟩ dX6_requireDoor_19
  · have h := h.1 k2
    exact sw_throw hx hb hst hown hts th_298 hW (hl.1.trans hml.symm) dX6_requireDoor_11 dX6_requireDoor_14 dX6_requireDoor_15 dX6_requireDoor_18 hnt (Nat.le_of_ble_eq_true rfl) (Nat.le_of_ble_eq_true rfl) (Nat.le_of_ble_eq_true rfl) (Nat.le_of_ble_eq_true rfl) hlocks ⟨h, rfl⟩ (Nat.le_of_ble_eq_true rfl) (Nat.le_of_ble_eq_true rfl)

theorem cv_X6_frameOfDoor : sw_cV yX6_frameOfDoor RX6 cX6_frameOfDoor 2 (some .char) 1 := ⟨q_591, q_592, q_2, q_593, by decide +kernel⟩
def wX6_frameOfDoor (a1 : Int32) (M : sM) (Q : Int32 → Prop) (X : String → Prop) : Prop :=
  wX6_requireDoor a1 M (vp_in a1 8 ∧ (narrow .char (.int (M (sw_st 0 + 1) (a1).toNatClampNeg)) = .int (M (sw_st 0 + 1) (a1).toNatClampNeg) ∧ (Q (M (sw_st 0 + 1) (a1).toNatClampNeg)))) X
set_option maxRecDepth 20000 in
theorem kX6_frameOfDoor (l : Launch) (hst : l.stackTraces = false) (g : sG) (a1 : Int32) (M : sM) (Q : Int32 → Prop) (X : String → Prop) (h : wX6_frameOfDoor a1 M Q X) : vx_Met l yX6_frameOfDoor (sw_ws yX6_frameOfDoor cX6_frameOfDoor 2 (some .char)) { frames := 7, cells := 1, slots := 6, locals := 116 } (va_Pc [.ref (sw_ad g 0), .int a1] (sw_Pr g M)) (va_Qi (fun r M1 => Q r ∧ M1 = M) (sw_Po g) (sw_A g)) (sw_XC g (fun E M1 => X E ∧ M1 = M)) 1 6 (sw_A g) := by
  refine sw_xmet (by decide) (Nat.le_of_ble_eq_true rfl) ?_
  intro p e s m args below meth c ls hx hb hr hts hown hml hlocks hnt hW hl
  have hown : s.vm.findClass RX6 = some m.cls := hown
  have hl : lv_has ls 2 [(0, .ref (sw_ad g 0)), (1, .int a1)] := hl
  unfold wX6_frameOfDoor at h
  refine lv_aload_n hx hb dX6_frameOfDoor_0 rfl (lv_at hl 0 rfl) ?_
  refine lv_iload_n hx hb dX6_frameOfDoor_1 rfl (lv_at hl 1 rfl) ?_
  refine sw_xkv (rest := []) (sw_xrunV (As := [.int a1]) (rest := []) hx hb hml hown hts (kX6_requireDoor l hst g a1 M _ _ h) cv_X6_requireDoor q_508 rfl rfl ⟨(Nat.le_of_ble_eq_true rfl), (Nat.le_of_ble_eq_true rfl)⟩ hW (Or.inl (Nat.le_of_ble_eq_true rfl)) sl_0 rfl rfl hl.1 rfl (Nat.le_of_ble_eq_true rfl) dX6_frameOfDoor_2 ⟨(Nat.le_of_ble_eq_true rfl), (Nat.le_of_ble_eq_true rfl)⟩) hW (fun E9 ce9 q9 M9 H9 locs9 hX9 hW9 f1 f2 f3 => sw_xout hnt hlocks hX9 hW9 f1 f2 f3 (Nat.le_of_ble_eq_true rfl) (Nat.le_of_ble_eq_true rfl)) (fun  M2 H locs h hW => ?_)
  obtain ⟨h, eM2⟩ := h
  rw [eM2] at hW
  refine lv_aload_n hx hb dX6_frameOfDoor_5 rfl (lv_at hl 0 rfl) ?_
  refine sw_gr (j := 0) (r := (sw_st 0)) hx hb hts hown hW rfl qf_6 (Or.inl (Nat.le_of_ble_eq_true rfl)) sl_0 rfl (Nat.le_of_ble_eq_true rfl) q_150 dX6_frameOfDoor_6 ?_
  refine sw_gr (j := 4) (r := (sw_st 0 + 1)) hx hb hts hown hW rfl qf_5 (sw_st_lt0 (Nat.le_of_ble_eq_true rfl)) (sw_lay_so 0) rfl (Nat.le_of_ble_eq_true rfl) q_61 dX6_frameOfDoor_9 ?_
  refine lv_iload_n hx hb dX6_frameOfDoor_12 rfl (lv_at hl 1 rfl) ?_
  have b1 := h.1
  have h := h.2
  refine sw_ca (n := 8) hx hb hW (sw_st_lt (Nat.le_of_ble_eq_true rfl) (Nat.le_of_ble_eq_true rfl)) (sw_lay_s 0 1 (Nat.le_of_ble_eq_true rfl)) b1 dX6_frameOfDoor_13 ?_
  refine vx_ret ?_
  exact sw_ri hx hb hr hlocks hW h.1 ⟨h.2, rfl⟩ dX6_frameOfDoor_14

theorem cv_X6_topic : sw_cV yX6_topic RX6 cX6_topic 2 (some .int) 1 := ⟨q_597, q_598, q_2, q_599, by decide +kernel⟩
def wX6_topic (a1 : Int32) (M : sM) (Q : Int32 → Prop) (X : String → Prop) : Prop :=
  wX6_requireDoor a1 M (vp_in a1 8 ∧ (Q (M (sw_st 0 + 2) (a1).toNatClampNeg))) X
set_option maxRecDepth 20000 in
theorem kX6_topic (l : Launch) (hst : l.stackTraces = false) (g : sG) (a1 : Int32) (M : sM) (Q : Int32 → Prop) (X : String → Prop) (h : wX6_topic a1 M Q X) : vx_Met l yX6_topic (sw_ws yX6_topic cX6_topic 2 (some .int)) { frames := 7, cells := 1, slots := 6, locals := 116 } (va_Pc [.ref (sw_ad g 0), .int a1] (sw_Pr g M)) (va_Qi (fun r M1 => Q r ∧ M1 = M) (sw_Po g) (sw_A g)) (sw_XC g (fun E M1 => X E ∧ M1 = M)) 1 6 (sw_A g) := by
  refine sw_xmet (by decide) (Nat.le_of_ble_eq_true rfl) ?_
  intro p e s m args below meth c ls hx hb hr hts hown hml hlocks hnt hW hl
  have hown : s.vm.findClass RX6 = some m.cls := hown
  have hl : lv_has ls 2 [(0, .ref (sw_ad g 0)), (1, .int a1)] := hl
  unfold wX6_topic at h
  refine lv_aload_n hx hb dX6_topic_0 rfl (lv_at hl 0 rfl) ?_
  refine lv_iload_n hx hb dX6_topic_1 rfl (lv_at hl 1 rfl) ?_
  refine sw_xkv (rest := []) (sw_xrunV (As := [.int a1]) (rest := []) hx hb hml hown hts (kX6_requireDoor l hst g a1 M _ _ h) cv_X6_requireDoor q_508 rfl rfl ⟨(Nat.le_of_ble_eq_true rfl), (Nat.le_of_ble_eq_true rfl)⟩ hW (Or.inl (Nat.le_of_ble_eq_true rfl)) sl_0 rfl rfl hl.1 rfl (Nat.le_of_ble_eq_true rfl) dX6_topic_2 ⟨(Nat.le_of_ble_eq_true rfl), (Nat.le_of_ble_eq_true rfl)⟩) hW (fun E9 ce9 q9 M9 H9 locs9 hX9 hW9 f1 f2 f3 => sw_xout hnt hlocks hX9 hW9 f1 f2 f3 (Nat.le_of_ble_eq_true rfl) (Nat.le_of_ble_eq_true rfl)) (fun  M2 H locs h hW => ?_)
  obtain ⟨h, eM2⟩ := h
  rw [eM2] at hW
  refine lv_aload_n hx hb dX6_topic_5 rfl (lv_at hl 0 rfl) ?_
  refine sw_gr (j := 0) (r := (sw_st 0)) hx hb hts hown hW rfl qf_6 (Or.inl (Nat.le_of_ble_eq_true rfl)) sl_0 rfl (Nat.le_of_ble_eq_true rfl) q_150 dX6_topic_6 ?_
  refine sw_gr (j := 5) (r := (sw_st 0 + 2)) hx hb hts hown hW rfl qf_5 (sw_st_lt0 (Nat.le_of_ble_eq_true rfl)) (sw_lay_so 0) rfl (Nat.le_of_ble_eq_true rfl) q_64 dX6_topic_9 ?_
  refine lv_iload_n hx hb dX6_topic_12 rfl (lv_at hl 1 rfl) ?_
  have b1 := h.1
  have h := h.2
  refine sw_ia (n := 8) hx hb hW (sw_st_lt (Nat.le_of_ble_eq_true rfl) (Nat.le_of_ble_eq_true rfl)) (sw_lay_s 0 2 (Nat.le_of_ble_eq_true rfl)) b1 dX6_topic_13 ?_
  refine vx_ret ?_
  exact sw_ri hx hb hr hlocks hW rfl ⟨h, rfl⟩ dX6_topic_14

theorem cv_X6_examinersOf : sw_cV yX6_examinersOf RX6 cX6_examinersOf 2 (some .int) 1 := ⟨q_533, q_534, q_2, q_535, by decide +kernel⟩
def wX6_examinersOf (a1 : Int32) (M : sM) (Q : Int32 → Prop) (X : String → Prop) : Prop :=
  wX6_requireDoor a1 M (wX5_assignedCount 0 a1 M (fun r1 => Q r1)) X
set_option maxRecDepth 20000 in
theorem kX6_examinersOf (l : Launch) (hst : l.stackTraces = false) (g : sG) (a1 : Int32) (M : sM) (Q : Int32 → Prop) (X : String → Prop) (h : wX6_examinersOf a1 M Q X) : vx_Met l yX6_examinersOf (sw_ws yX6_examinersOf cX6_examinersOf 2 (some .int)) { frames := 7, cells := 1, slots := 6, locals := 116 } (va_Pc [.ref (sw_ad g 0), .int a1] (sw_Pr g M)) (va_Qi (fun r M1 => Q r ∧ M1 = M) (sw_Po g) (sw_A g)) (sw_XC g (fun E M1 => X E ∧ M1 = M)) 1 6 (sw_A g) := by
  refine sw_xmet (by decide) (Nat.le_of_ble_eq_true rfl) ?_
  intro p e s m args below meth c ls hx hb hr hts hown hml hlocks hnt hW hl
  have hown : s.vm.findClass RX6 = some m.cls := hown
  have hl : lv_has ls 2 [(0, .ref (sw_ad g 0)), (1, .int a1)] := hl
  unfold wX6_examinersOf at h
  refine lv_aload_n hx hb dX6_examinersOf_0 rfl (lv_at hl 0 rfl) ?_
  refine lv_iload_n hx hb dX6_examinersOf_1 rfl (lv_at hl 1 rfl) ?_
  refine sw_xkv (rest := []) (sw_xrunV (As := [.int a1]) (rest := []) hx hb hml hown hts (kX6_requireDoor l hst g a1 M _ _ h) cv_X6_requireDoor q_508 rfl rfl ⟨(Nat.le_of_ble_eq_true rfl), (Nat.le_of_ble_eq_true rfl)⟩ hW (Or.inl (Nat.le_of_ble_eq_true rfl)) sl_0 rfl rfl hl.1 rfl (Nat.le_of_ble_eq_true rfl) dX6_examinersOf_2 ⟨(Nat.le_of_ble_eq_true rfl), (Nat.le_of_ble_eq_true rfl)⟩) hW (fun E9 ce9 q9 M9 H9 locs9 hX9 hW9 f1 f2 f3 => sw_xout hnt hlocks hX9 hW9 f1 f2 f3 (Nat.le_of_ble_eq_true rfl) (Nat.le_of_ble_eq_true rfl)) (fun  M3 H locs h hW => ?_)
  obtain ⟨h, eM3⟩ := h
  rw [eM3] at hW
  refine lv_aload_n hx hb dX6_examinersOf_5 rfl (lv_at hl 0 rfl) ?_
  refine sw_gr (j := 0) (r := (sw_st 0)) hx hb hts hown hW rfl qf_6 (Or.inl (Nat.le_of_ble_eq_true rfl)) sl_0 rfl (Nat.le_of_ble_eq_true rfl) q_150 dX6_examinersOf_6 ?_
  refine lv_iload_n hx hb dX6_examinersOf_9 rfl (lv_at hl 1 rfl) ?_
  refine sw_ki (rest := []) (sw_runV (As := [.int a1]) (rest := []) hx hb hml hown hts (kX5_assignedCount l g 0 (Nat.le_of_ble_eq_true rfl) a1 M _ h) cv_X5_assignedCount q_536 rfl rfl ⟨(Nat.le_of_ble_eq_true rfl), (Nat.le_of_ble_eq_true rfl)⟩ hW (sw_st_lt0 (Nat.le_of_ble_eq_true rfl)) (sw_lay_so 0) rfl rfl hl.1 rfl (Nat.le_of_ble_eq_true rfl) dX6_examinersOf_10 ⟨(Nat.le_of_ble_eq_true rfl), (Nat.le_of_ble_eq_true rfl)⟩) hW (fun r1 M2 H locs h hW => ?_)
  obtain ⟨h, eM2⟩ := h
  rw [eM2] at hW
  refine vx_ret ?_
  exact sw_ri hx hb hr hlocks hW rfl ⟨h, rfl⟩ dX6_examinersOf_13

theorem cv_X6_gradesOf : sw_cV yX6_gradesOf RX6 cX6_gradesOf 2 (some .int) 1 := ⟨q_540, q_541, q_2, q_542, by decide +kernel⟩
def wX6_gradesOf (a1 : Int32) (M : sM) (Q : Int32 → Prop) (X : String → Prop) : Prop :=
  wX6_requireDoor a1 M (wX5_gradeCount 0 a1 M (fun r1 => Q r1)) X
set_option maxRecDepth 20000 in
theorem kX6_gradesOf (l : Launch) (hst : l.stackTraces = false) (g : sG) (a1 : Int32) (M : sM) (Q : Int32 → Prop) (X : String → Prop) (h : wX6_gradesOf a1 M Q X) : vx_Met l yX6_gradesOf (sw_ws yX6_gradesOf cX6_gradesOf 2 (some .int)) { frames := 7, cells := 1, slots := 6, locals := 116 } (va_Pc [.ref (sw_ad g 0), .int a1] (sw_Pr g M)) (va_Qi (fun r M1 => Q r ∧ M1 = M) (sw_Po g) (sw_A g)) (sw_XC g (fun E M1 => X E ∧ M1 = M)) 1 6 (sw_A g) := by
  refine sw_xmet (by decide) (Nat.le_of_ble_eq_true rfl) ?_
  intro p e s m args below meth c ls hx hb hr hts hown hml hlocks hnt hW hl
  have hown : s.vm.findClass RX6 = some m.cls := hown
  have hl : lv_has ls 2 [(0, .ref (sw_ad g 0)), (1, .int a1)] := hl
  unfold wX6_gradesOf at h
  refine lv_aload_n hx hb dX6_gradesOf_0 rfl (lv_at hl 0 rfl) ?_
  refine lv_iload_n hx hb dX6_gradesOf_1 rfl (lv_at hl 1 rfl) ?_
  refine sw_xkv (rest := []) (sw_xrunV (As := [.int a1]) (rest := []) hx hb hml hown hts (kX6_requireDoor l hst g a1 M _ _ h) cv_X6_requireDoor q_508 rfl rfl ⟨(Nat.le_of_ble_eq_true rfl), (Nat.le_of_ble_eq_true rfl)⟩ hW (Or.inl (Nat.le_of_ble_eq_true rfl)) sl_0 rfl rfl hl.1 rfl (Nat.le_of_ble_eq_true rfl) dX6_gradesOf_2 ⟨(Nat.le_of_ble_eq_true rfl), (Nat.le_of_ble_eq_true rfl)⟩) hW (fun E9 ce9 q9 M9 H9 locs9 hX9 hW9 f1 f2 f3 => sw_xout hnt hlocks hX9 hW9 f1 f2 f3 (Nat.le_of_ble_eq_true rfl) (Nat.le_of_ble_eq_true rfl)) (fun  M3 H locs h hW => ?_)
  obtain ⟨h, eM3⟩ := h
  rw [eM3] at hW
  refine lv_aload_n hx hb dX6_gradesOf_5 rfl (lv_at hl 0 rfl) ?_
  refine sw_gr (j := 0) (r := (sw_st 0)) hx hb hts hown hW rfl qf_6 (Or.inl (Nat.le_of_ble_eq_true rfl)) sl_0 rfl (Nat.le_of_ble_eq_true rfl) q_150 dX6_gradesOf_6 ?_
  refine lv_iload_n hx hb dX6_gradesOf_9 rfl (lv_at hl 1 rfl) ?_
  refine sw_ki (rest := []) (sw_runV (As := [.int a1]) (rest := []) hx hb hml hown hts (kX5_gradeCount l g 0 (Nat.le_of_ble_eq_true rfl) a1 M _ h) cv_X5_gradeCount q_543 rfl rfl ⟨(Nat.le_of_ble_eq_true rfl), (Nat.le_of_ble_eq_true rfl)⟩ hW (sw_st_lt0 (Nat.le_of_ble_eq_true rfl)) (sw_lay_so 0) rfl rfl hl.1 rfl (Nat.le_of_ble_eq_true rfl) dX6_gradesOf_10 ⟨(Nat.le_of_ble_eq_true rfl), (Nat.le_of_ble_eq_true rfl)⟩) hW (fun r1 M2 H locs h hW => ?_)
  obtain ⟨h, eM2⟩ := h
  rw [eM2] at hW
  refine vx_ret ?_
  exact sw_ri hx hb hr hlocks hW rfl ⟨h, rfl⟩ dX6_gradesOf_13

theorem cs_X6_requireThere : sw_cS yX6_requireThere cX6_requireThere 1 (some .int) 1 := ⟨q_521, q_2, q_522, by decide +kernel⟩
def wX6_requireThere (a1 : Int32) (Q : Int32 → Prop) (X : String → Prop) : Prop :=
  (a1 = (-1 : Int32) → (X "java/util/NoSuchElementException")) ∧ (¬ a1 = (-1 : Int32) → (Q a1))
set_option maxRecDepth 20000 in
theorem kX6_requireThere (l : Launch) (hst : l.stackTraces = false) (g : sG) (a1 : Int32) (M : sM) (Q : Int32 → Prop) (X : String → Prop) (h : wX6_requireThere a1 Q X) : vx_Met l yX6_requireThere (sw_ws yX6_requireThere cX6_requireThere 1 (some .int)) { frames := 6, cells := 1, slots := 6, locals := 95 } (va_Pc [.int a1] (sw_Pr g M)) (va_Qi (fun r M1 => Q r ∧ M1 = M) (sw_Po g) (sw_A g)) (sw_XC g (fun E M1 => X E ∧ M1 = M)) 1 6 (sw_A g) := by
  refine sw_xmet (by decide) (Nat.le_of_ble_eq_true rfl) ?_
  intro p e s m args below meth c ls hx hb hr hts hown hml hlocks hnt hW hl
  have hown : s.vm.findClass RX6 = some m.cls := hown
  have hl : lv_has ls 1 [(0, .int a1)] := hl
  unfold wX6_requireThere at h
  refine lv_iload_n hx hb dX6_requireThere_0 rfl (lv_at hl 0 rfl) ?_
  refine lv_iconst (v := -1) hx hb dX6_requireThere_1 (by decide) ?_
  refine lv_icmp_ne (tgt := 13) hx hb dX6_requireThere_2 (by decide) (fun k1 => ?_) (fun k1 => ?_)
  · have h := h.2 k1
    refine lv_iload_n hx hb dX6_requireThere_13 rfl (lv_at hl 0 rfl) ?_
    refine W.widen (k := 1) (n := 6) (Nat.le_of_ble_eq_true rfl) (Nat.le_of_ble_eq_true rfl) ?_
    refine vx_ret ?_
    exact sw_ri hx hb hr hlocks hW rfl ⟨h, rfl⟩ dX6_requireThere_14
  · have h := h.1 k1
    exact sw_throw hx hb hst hown hts th_319 hW (hl.1.trans hml.symm) dX6_requireThere_5 dX6_requireThere_8 dX6_requireThere_9 dX6_requireThere_12 hnt (Nat.le_of_ble_eq_true rfl) (Nat.le_of_ble_eq_true rfl) (Nat.le_of_ble_eq_true rfl) (Nat.le_of_ble_eq_true rfl) hlocks ⟨h, rfl⟩ (Nat.le_of_ble_eq_true rfl) (Nat.le_of_ble_eq_true rfl)

theorem cv_X6_result : sw_cV yX6_result RX6 cX6_result 2 (some .int) 1 := ⟨q_547, q_548, q_2, q_549, by decide +kernel⟩
def wX6_result (a1 : Int32) (M : sM) (Q : Int32 → Prop) (X : String → Prop) : Prop :=
  wX6_requireDoor a1 M (wX5_median 0 a1 M (fun r1 => wX6_requireThere r1 (fun r2 => Q r2) X)) X
set_option maxRecDepth 20000 in
theorem kX6_result (l : Launch) (hst : l.stackTraces = false) (g : sG) (a1 : Int32) (M : sM) (Q : Int32 → Prop) (X : String → Prop) (h : wX6_result a1 M Q X) : vx_Met l yX6_result (sw_ws yX6_result cX6_result 2 (some .int)) { frames := 7, cells := 2, slots := 12, locals := 116 } (va_Pc [.ref (sw_ad g 0), .int a1] (sw_Pr g M)) (va_Qi (fun r M1 => Q r ∧ M1 = M) (sw_Po g) (sw_A g)) (sw_XC g (fun E M1 => X E ∧ M1 = M)) 2 12 (sw_A g) := by
  refine sw_xmet (by decide) (Nat.le_of_ble_eq_true rfl) ?_
  intro p e s m args below meth c ls hx hb hr hts hown hml hlocks hnt hW hl
  have hown : s.vm.findClass RX6 = some m.cls := hown
  have hl : lv_has ls 2 [(0, .ref (sw_ad g 0)), (1, .int a1)] := hl
  unfold wX6_result at h
  refine lv_aload_n hx hb dX6_result_0 rfl (lv_at hl 0 rfl) ?_
  refine lv_iload_n hx hb dX6_result_1 rfl (lv_at hl 1 rfl) ?_
  refine sw_xkv (rest := []) (sw_xrunV (As := [.int a1]) (rest := []) hx hb hml hown hts (kX6_requireDoor l hst g a1 M _ _ h) cv_X6_requireDoor q_508 rfl rfl ⟨(Nat.le_of_ble_eq_true rfl), (Nat.le_of_ble_eq_true rfl)⟩ hW (Or.inl (Nat.le_of_ble_eq_true rfl)) sl_0 rfl rfl hl.1 rfl (Nat.le_of_ble_eq_true rfl) dX6_result_2 ⟨(Nat.le_of_ble_eq_true rfl), (Nat.le_of_ble_eq_true rfl)⟩) hW (fun E9 ce9 q9 M9 H9 locs9 hX9 hW9 f1 f2 f3 => sw_xout hnt hlocks hX9 hW9 f1 f2 f3 (Nat.le_of_ble_eq_true rfl) (Nat.le_of_ble_eq_true rfl)) (fun  M5 H locs h hW => ?_)
  obtain ⟨h, eM5⟩ := h
  rw [eM5] at hW
  refine lv_aload_n hx hb dX6_result_5 rfl (lv_at hl 0 rfl) ?_
  refine sw_gr (j := 0) (r := (sw_st 0)) hx hb hts hown hW rfl qf_6 (Or.inl (Nat.le_of_ble_eq_true rfl)) sl_0 rfl (Nat.le_of_ble_eq_true rfl) q_150 dX6_result_6 ?_
  refine lv_iload_n hx hb dX6_result_9 rfl (lv_at hl 1 rfl) ?_
  refine sw_ki (rest := []) (sw_runV (As := [.int a1]) (rest := []) hx hb hml hown hts (kX5_median l g 0 (Nat.le_of_ble_eq_true rfl) a1 M _ h) cv_X5_median q_550 rfl rfl ⟨(Nat.le_of_ble_eq_true rfl), (Nat.le_of_ble_eq_true rfl)⟩ hW (sw_st_lt0 (Nat.le_of_ble_eq_true rfl)) (sw_lay_so 0) rfl rfl hl.1 rfl (Nat.le_of_ble_eq_true rfl) dX6_result_10 ⟨(Nat.le_of_ble_eq_true rfl), (Nat.le_of_ble_eq_true rfl)⟩) hW (fun r1 M4 H locs h hW => ?_)
  obtain ⟨h, eM4⟩ := h
  rw [eM4] at hW
  refine sw_xki (rest := []) (sw_xrunS (As := [.int r1]) (rest := []) hx hb hml hown hts (kX6_requireThere l hst g r1 M _ _ h) cs_X6_requireThere q_520 rfl rfl ⟨(Nat.le_of_ble_eq_true rfl), (Nat.le_of_ble_eq_true rfl)⟩ hW rfl hl.1 rfl (Nat.le_of_ble_eq_true rfl) dX6_result_13 ⟨(Nat.le_of_ble_eq_true rfl), (Nat.le_of_ble_eq_true rfl)⟩) hW (fun E9 ce9 q9 M9 H9 locs9 hX9 hW9 f1 f2 f3 => sw_xout hnt hlocks hX9 hW9 f1 f2 f3 (Nat.le_of_ble_eq_true rfl) (Nat.le_of_ble_eq_true rfl)) (fun r2 M3 H locs h hW => ?_)
  obtain ⟨h, eM3⟩ := h
  rw [eM3] at hW
  refine vx_ret ?_
  exact sw_ri hx hb hr hlocks hW rfl ⟨h, rfl⟩ dX6_result_16

theorem cv_X6_passes : sw_cV yX6_passes RX6 cX6_passes 2 (some .boolean) 1 := ⟨q_554, q_555, q_2, q_556, by decide +kernel⟩
def wX6_passes (a1 : Int32) (M : sM) (Q : Int32 → Prop) (X : String → Prop) : Prop :=
  wX6_requireDoor a1 M (wX5_hasPassed 0 a1 M (fun r1 => narrow .boolean (.int r1) = .int r1 ∧ (Q r1))) X
set_option maxRecDepth 20000 in
theorem kX6_passes (l : Launch) (hst : l.stackTraces = false) (g : sG) (a1 : Int32) (M : sM) (Q : Int32 → Prop) (X : String → Prop) (h : wX6_passes a1 M Q X) : vx_Met l yX6_passes (sw_ws yX6_passes cX6_passes 2 (some .boolean)) { frames := 7, cells := 1, slots := 6, locals := 116 } (va_Pc [.ref (sw_ad g 0), .int a1] (sw_Pr g M)) (va_Qi (fun r M1 => Q r ∧ M1 = M) (sw_Po g) (sw_A g)) (sw_XC g (fun E M1 => X E ∧ M1 = M)) 1 6 (sw_A g) := by
  refine sw_xmet (by decide) (Nat.le_of_ble_eq_true rfl) ?_
  intro p e s m args below meth c ls hx hb hr hts hown hml hlocks hnt hW hl
  have hown : s.vm.findClass RX6 = some m.cls := hown
  have hl : lv_has ls 2 [(0, .ref (sw_ad g 0)), (1, .int a1)] := hl
  unfold wX6_passes at h
  refine lv_aload_n hx hb dX6_passes_0 rfl (lv_at hl 0 rfl) ?_
  refine lv_iload_n hx hb dX6_passes_1 rfl (lv_at hl 1 rfl) ?_
  refine sw_xkv (rest := []) (sw_xrunV (As := [.int a1]) (rest := []) hx hb hml hown hts (kX6_requireDoor l hst g a1 M _ _ h) cv_X6_requireDoor q_508 rfl rfl ⟨(Nat.le_of_ble_eq_true rfl), (Nat.le_of_ble_eq_true rfl)⟩ hW (Or.inl (Nat.le_of_ble_eq_true rfl)) sl_0 rfl rfl hl.1 rfl (Nat.le_of_ble_eq_true rfl) dX6_passes_2 ⟨(Nat.le_of_ble_eq_true rfl), (Nat.le_of_ble_eq_true rfl)⟩) hW (fun E9 ce9 q9 M9 H9 locs9 hX9 hW9 f1 f2 f3 => sw_xout hnt hlocks hX9 hW9 f1 f2 f3 (Nat.le_of_ble_eq_true rfl) (Nat.le_of_ble_eq_true rfl)) (fun  M3 H locs h hW => ?_)
  obtain ⟨h, eM3⟩ := h
  rw [eM3] at hW
  refine lv_aload_n hx hb dX6_passes_5 rfl (lv_at hl 0 rfl) ?_
  refine sw_gr (j := 0) (r := (sw_st 0)) hx hb hts hown hW rfl qf_6 (Or.inl (Nat.le_of_ble_eq_true rfl)) sl_0 rfl (Nat.le_of_ble_eq_true rfl) q_150 dX6_passes_6 ?_
  refine lv_iload_n hx hb dX6_passes_9 rfl (lv_at hl 1 rfl) ?_
  refine sw_ki (rest := []) (sw_runV (As := [.int a1]) (rest := []) hx hb hml hown hts (kX5_hasPassed l g 0 (Nat.le_of_ble_eq_true rfl) a1 M _ h) cv_X5_hasPassed q_557 rfl rfl ⟨(Nat.le_of_ble_eq_true rfl), (Nat.le_of_ble_eq_true rfl)⟩ hW (sw_st_lt0 (Nat.le_of_ble_eq_true rfl)) (sw_lay_so 0) rfl rfl hl.1 rfl (Nat.le_of_ble_eq_true rfl) dX6_passes_10 ⟨(Nat.le_of_ble_eq_true rfl), (Nat.le_of_ble_eq_true rfl)⟩) hW (fun r1 M2 H locs h hW => ?_)
  obtain ⟨h, eM2⟩ := h
  rw [eM2] at hW
  refine vx_ret ?_
  exact sw_ri hx hb hr hlocks hW h.1 ⟨h.2, rfl⟩ dX6_passes_13

theorem cv_X6_wasGranted : sw_cV yX6_wasGranted RX6 cX6_wasGranted 2 (some .boolean) 1 := ⟨q_566, q_567, q_2, q_568, by decide +kernel⟩
def wX6_wasGranted (a1 : Int32) (M : sM) (Q : Int32 → Prop) (X : String → Prop) : Prop :=
  wX6_requireDoor a1 M (wX6_contains (M (sw_st 0) 1) a1 (fun r1 => narrow .boolean (.int r1) = .int r1 ∧ (Q r1))) X
set_option maxRecDepth 20000 in
theorem kX6_wasGranted (l : Launch) (hst : l.stackTraces = false) (g : sG) (a1 : Int32) (M : sM) (Q : Int32 → Prop) (X : String → Prop) (h : wX6_wasGranted a1 M Q X) : vx_Met l yX6_wasGranted (sw_ws yX6_wasGranted cX6_wasGranted 2 (some .boolean)) { frames := 7, cells := 1, slots := 6, locals := 116 } (va_Pc [.ref (sw_ad g 0), .int a1] (sw_Pr g M)) (va_Qi (fun r M1 => Q r ∧ M1 = M) (sw_Po g) (sw_A g)) (sw_XC g (fun E M1 => X E ∧ M1 = M)) 1 6 (sw_A g) := by
  refine sw_xmet (by decide) (Nat.le_of_ble_eq_true rfl) ?_
  intro p e s m args below meth c ls hx hb hr hts hown hml hlocks hnt hW hl
  have hown : s.vm.findClass RX6 = some m.cls := hown
  have hl : lv_has ls 2 [(0, .ref (sw_ad g 0)), (1, .int a1)] := hl
  unfold wX6_wasGranted at h
  refine lv_aload_n hx hb dX6_wasGranted_0 rfl (lv_at hl 0 rfl) ?_
  refine lv_iload_n hx hb dX6_wasGranted_1 rfl (lv_at hl 1 rfl) ?_
  refine sw_xkv (rest := []) (sw_xrunV (As := [.int a1]) (rest := []) hx hb hml hown hts (kX6_requireDoor l hst g a1 M _ _ h) cv_X6_requireDoor q_508 rfl rfl ⟨(Nat.le_of_ble_eq_true rfl), (Nat.le_of_ble_eq_true rfl)⟩ hW (Or.inl (Nat.le_of_ble_eq_true rfl)) sl_0 rfl rfl hl.1 rfl (Nat.le_of_ble_eq_true rfl) dX6_wasGranted_2 ⟨(Nat.le_of_ble_eq_true rfl), (Nat.le_of_ble_eq_true rfl)⟩) hW (fun E9 ce9 q9 M9 H9 locs9 hX9 hW9 f1 f2 f3 => sw_xout hnt hlocks hX9 hW9 f1 f2 f3 (Nat.le_of_ble_eq_true rfl) (Nat.le_of_ble_eq_true rfl)) (fun  M3 H locs h hW => ?_)
  obtain ⟨h, eM3⟩ := h
  rw [eM3] at hW
  refine lv_aload_n hx hb dX6_wasGranted_5 rfl (lv_at hl 0 rfl) ?_
  refine sw_gr (j := 0) (r := (sw_st 0)) hx hb hts hown hW rfl qf_6 (Or.inl (Nat.le_of_ble_eq_true rfl)) sl_0 rfl (Nat.le_of_ble_eq_true rfl) q_150 dX6_wasGranted_6 ?_
  refine sw_gi (j := 1) hx hb hts hown hW rfl qf_5 (sw_st_lt0 (Nat.le_of_ble_eq_true rfl)) (sw_lay_so 0) rfl (Nat.le_of_ble_eq_true rfl) q_53 dX6_wasGranted_9 ?_
  refine lv_iload_n hx hb dX6_wasGranted_12 rfl (lv_at hl 1 rfl) ?_
  refine sw_ki (rest := []) (sw_runS (As := [.int (M (sw_st 0) 1), .int a1]) (rest := []) hx hb hml hown hts (kX6_contains l g (M (sw_st 0) 1) a1 M _ h) cs_X6_contains q_569 rfl rfl ⟨(Nat.le_of_ble_eq_true rfl), (Nat.le_of_ble_eq_true rfl)⟩ hW rfl hl.1 rfl (Nat.le_of_ble_eq_true rfl) dX6_wasGranted_13 ⟨(Nat.le_of_ble_eq_true rfl), (Nat.le_of_ble_eq_true rfl)⟩) hW (fun r1 M2 H locs h hW => ?_)
  obtain ⟨h, eM2⟩ := h
  rw [eM2] at hW
  refine vx_ret ?_
  exact sw_ri hx hb hr hlocks hW h.1 ⟨h.2, rfl⟩ dX6_wasGranted_16

theorem cv_X6_isEntitled : sw_cV yX6_isEntitled RX6 cX6_isEntitled 2 (some .boolean) 1 := ⟨q_561, q_562, q_2, q_563, by decide +kernel⟩
def wX6_isEntitled (a1 : Int32) (M : sM) (Q : Int32 → Prop) (X : String → Prop) : Prop :=
  wX6_requireDoor a1 M (wX5_deservesDegree 0 a1 M (fun r1 => narrow .boolean (.int r1) = .int r1 ∧ (Q r1))) X
set_option maxRecDepth 20000 in
theorem kX6_isEntitled (l : Launch) (hst : l.stackTraces = false) (g : sG) (a1 : Int32) (M : sM) (Q : Int32 → Prop) (X : String → Prop) (h : wX6_isEntitled a1 M Q X) : vx_Met l yX6_isEntitled (sw_ws yX6_isEntitled cX6_isEntitled 2 (some .boolean)) { frames := 7, cells := 1, slots := 6, locals := 116 } (va_Pc [.ref (sw_ad g 0), .int a1] (sw_Pr g M)) (va_Qi (fun r M1 => Q r ∧ M1 = M) (sw_Po g) (sw_A g)) (sw_XC g (fun E M1 => X E ∧ M1 = M)) 1 6 (sw_A g) := by
  refine sw_xmet (by decide) (Nat.le_of_ble_eq_true rfl) ?_
  intro p e s m args below meth c ls hx hb hr hts hown hml hlocks hnt hW hl
  have hown : s.vm.findClass RX6 = some m.cls := hown
  have hl : lv_has ls 2 [(0, .ref (sw_ad g 0)), (1, .int a1)] := hl
  unfold wX6_isEntitled at h
  refine lv_aload_n hx hb dX6_isEntitled_0 rfl (lv_at hl 0 rfl) ?_
  refine lv_iload_n hx hb dX6_isEntitled_1 rfl (lv_at hl 1 rfl) ?_
  refine sw_xkv (rest := []) (sw_xrunV (As := [.int a1]) (rest := []) hx hb hml hown hts (kX6_requireDoor l hst g a1 M _ _ h) cv_X6_requireDoor q_508 rfl rfl ⟨(Nat.le_of_ble_eq_true rfl), (Nat.le_of_ble_eq_true rfl)⟩ hW (Or.inl (Nat.le_of_ble_eq_true rfl)) sl_0 rfl rfl hl.1 rfl (Nat.le_of_ble_eq_true rfl) dX6_isEntitled_2 ⟨(Nat.le_of_ble_eq_true rfl), (Nat.le_of_ble_eq_true rfl)⟩) hW (fun E9 ce9 q9 M9 H9 locs9 hX9 hW9 f1 f2 f3 => sw_xout hnt hlocks hX9 hW9 f1 f2 f3 (Nat.le_of_ble_eq_true rfl) (Nat.le_of_ble_eq_true rfl)) (fun  M3 H locs h hW => ?_)
  obtain ⟨h, eM3⟩ := h
  rw [eM3] at hW
  refine lv_aload_n hx hb dX6_isEntitled_5 rfl (lv_at hl 0 rfl) ?_
  refine sw_gr (j := 0) (r := (sw_st 0)) hx hb hts hown hW rfl qf_6 (Or.inl (Nat.le_of_ble_eq_true rfl)) sl_0 rfl (Nat.le_of_ble_eq_true rfl) q_150 dX6_isEntitled_6 ?_
  refine lv_iload_n hx hb dX6_isEntitled_9 rfl (lv_at hl 1 rfl) ?_
  refine sw_ki (rest := []) (sw_runV (As := [.int a1]) (rest := []) hx hb hml hown hts (kX5_deservesDegree l g 0 (Nat.le_of_ble_eq_true rfl) a1 M _ h) cv_X5_deservesDegree q_564 rfl rfl ⟨(Nat.le_of_ble_eq_true rfl), (Nat.le_of_ble_eq_true rfl)⟩ hW (sw_st_lt0 (Nat.le_of_ble_eq_true rfl)) (sw_lay_so 0) rfl rfl hl.1 rfl (Nat.le_of_ble_eq_true rfl) dX6_isEntitled_10 ⟨(Nat.le_of_ble_eq_true rfl), (Nat.le_of_ble_eq_true rfl)⟩) hW (fun r1 M2 H locs h hW => ?_)
  obtain ⟨h, eM2⟩ := h
  rw [eM2] at hW
  refine vx_ret ?_
  exact sw_ri hx hb hr hlocks hW h.1 ⟨h.2, rfl⟩ dX6_isEntitled_13

theorem cv_X6_doorAtRank : sw_cV yX6_doorAtRank RX6 cX6_doorAtRank 2 (some .int) 1 := ⟨q_573, q_574, q_2, q_575, by decide +kernel⟩
def wX6_doorAtRank (a1 : Int32) (M : sM) (Q : Int32 → Prop) (X : String → Prop) : Prop :=
  wX5_doorRanked 0 a1 M (fun r1 => wX6_requireThere r1 (fun r2 => Q r2) X)
set_option maxRecDepth 20000 in
theorem kX6_doorAtRank (l : Launch) (hst : l.stackTraces = false) (g : sG) (a1 : Int32) (M : sM) (Q : Int32 → Prop) (X : String → Prop) (h : wX6_doorAtRank a1 M Q X) : vx_Met l yX6_doorAtRank (sw_ws yX6_doorAtRank cX6_doorAtRank 2 (some .int)) { frames := 7, cells := 1, slots := 6, locals := 121 } (va_Pc [.ref (sw_ad g 0), .int a1] (sw_Pr g M)) (va_Qi (fun r M1 => Q r ∧ M1 = M) (sw_Po g) (sw_A g)) (sw_XC g (fun E M1 => X E ∧ M1 = M)) 1 6 (sw_A g) := by
  refine sw_xmet (by decide) (Nat.le_of_ble_eq_true rfl) ?_
  intro p e s m args below meth c ls hx hb hr hts hown hml hlocks hnt hW hl
  have hown : s.vm.findClass RX6 = some m.cls := hown
  have hl : lv_has ls 2 [(0, .ref (sw_ad g 0)), (1, .int a1)] := hl
  unfold wX6_doorAtRank at h
  refine lv_aload_n hx hb dX6_doorAtRank_0 rfl (lv_at hl 0 rfl) ?_
  refine sw_gr (j := 0) (r := (sw_st 0)) hx hb hts hown hW rfl qf_6 (Or.inl (Nat.le_of_ble_eq_true rfl)) sl_0 rfl (Nat.le_of_ble_eq_true rfl) q_150 dX6_doorAtRank_1 ?_
  refine lv_iload_n hx hb dX6_doorAtRank_4 rfl (lv_at hl 1 rfl) ?_
  refine sw_ki (rest := []) (sw_runV (As := [.int a1]) (rest := []) hx hb hml hown hts (kX5_doorRanked l g 0 (Nat.le_of_ble_eq_true rfl) a1 M _ h) cv_X5_doorRanked q_576 rfl rfl ⟨(Nat.le_of_ble_eq_true rfl), (Nat.le_of_ble_eq_true rfl)⟩ hW (sw_st_lt0 (Nat.le_of_ble_eq_true rfl)) (sw_lay_so 0) rfl rfl hl.1 rfl (Nat.le_of_ble_eq_true rfl) dX6_doorAtRank_5 ⟨(Nat.le_of_ble_eq_true rfl), (Nat.le_of_ble_eq_true rfl)⟩) hW (fun r1 M4 H locs h hW => ?_)
  obtain ⟨h, eM4⟩ := h
  rw [eM4] at hW
  refine sw_xki (rest := []) (sw_xrunS (As := [.int r1]) (rest := []) hx hb hml hown hts (kX6_requireThere l hst g r1 M _ _ h) cs_X6_requireThere q_520 rfl rfl ⟨(Nat.le_of_ble_eq_true rfl), (Nat.le_of_ble_eq_true rfl)⟩ hW rfl hl.1 rfl (Nat.le_of_ble_eq_true rfl) dX6_doorAtRank_8 ⟨(Nat.le_of_ble_eq_true rfl), (Nat.le_of_ble_eq_true rfl)⟩) hW (fun E9 ce9 q9 M9 H9 locs9 hX9 hW9 f1 f2 f3 => sw_xout hnt hlocks hX9 hW9 f1 f2 f3 (Nat.le_of_ble_eq_true rfl) (Nat.le_of_ble_eq_true rfl)) (fun r2 M3 H locs h hW => ?_)
  obtain ⟨h, eM3⟩ := h
  rw [eM3] at hW
  refine vx_ret ?_
  exact sw_ri hx hb hr hlocks hW rfl ⟨h, rfl⟩ dX6_doorAtRank_11

theorem cv_X6_examinerCount : sw_cV yX6_examinerCount RX6 cX6_examinerCount 1 (some .int) 0 := ⟨q_492, q_493, q_2, q_494, by decide +kernel⟩
def wX6_examinerCount  (M : sM) (Q : Int32 → Prop) : Prop :=
  Q (M (sw_st 0) 6)
set_option maxRecDepth 20000 in
theorem kX6_examinerCount (l : Launch) (g : sG)  (M : sM) (Q : Int32 → Prop) (h : wX6_examinerCount  M Q) : Met l yX6_examinerCount (sw_ws yX6_examinerCount cX6_examinerCount 1 (some .int)) { frames := 0, cells := 0, slots := 0, locals := 0 } (va_Pc [.ref (sw_ad g 0)] (sw_Pr g M)) (va_Qi (fun r M1 => Q r ∧ M1 = M) (sw_Po g) (sw_A g)) 0 0 (sw_A g) := by
  refine sw_met (by decide) (Nat.le_of_ble_eq_true rfl) ?_
  intro p e s m args below meth c ls hx hb hr hts hown hml hlocks hW hl
  have hown : s.vm.findClass RX6 = some m.cls := hown
  have hl : lv_has ls 1 [(0, .ref (sw_ad g 0))] := hl
  unfold wX6_examinerCount at h
  refine lv_aload_n hx hb dX6_examinerCount_0 rfl (lv_at hl 0 rfl) ?_
  refine sw_gr (j := 0) (r := (sw_st 0)) hx hb hts hown hW rfl qf_6 (Or.inl (Nat.le_of_ble_eq_true rfl)) sl_0 rfl (Nat.le_of_ble_eq_true rfl) q_150 dX6_examinerCount_1 ?_
  refine sw_gi (j := 6) hx hb hts hown hW rfl qf_5 (sw_st_lt0 (Nat.le_of_ble_eq_true rfl)) (sw_lay_so 0) rfl (Nat.le_of_ble_eq_true rfl) q_69 dX6_examinerCount_4 ?_
  exact sw_ri hx hb hr hlocks hW rfl ⟨h, rfl⟩ dX6_examinerCount_7

theorem cv_X6_requireExaminer : sw_cV yX6_requireExaminer RX6 cX6_requireExaminer 2 none 1 := ⟨q_505, q_1162, q_2, q_506, by decide +kernel⟩
def wX6_requireExaminer (a1 : Int32) (M : sM) (Q : Prop) (X : String → Prop) : Prop :=
  wX5_hasExaminer 0 a1 M (fun r1 => (r1 = 0 → (X "java/lang/IndexOutOfBoundsException")) ∧ (¬ r1 = 0 → (Q)))
set_option maxRecDepth 20000 in
theorem kX6_requireExaminer (l : Launch) (hst : l.stackTraces = false) (g : sG) (a1 : Int32) (M : sM) (Q : Prop) (X : String → Prop) (h : wX6_requireExaminer a1 M Q X) : vx_Met l yX6_requireExaminer (sw_ws yX6_requireExaminer cX6_requireExaminer 2 none) { frames := 6, cells := 1, slots := 6, locals := 95 } (va_Pc [.ref (sw_ad g 0), .int a1] (sw_Pr g M)) (va_Qv (fun M1 => Q ∧ M1 = M) (sw_Po g) (sw_A g)) (sw_XC g (fun E M1 => X E ∧ M1 = M)) 1 6 (sw_A g) := by
  refine sw_xmet (by decide) (Nat.le_of_ble_eq_true rfl) ?_
  intro p e s m args below meth c ls hx hb hr hts hown hml hlocks hnt hW hl
  have hown : s.vm.findClass RX6 = some m.cls := hown
  have hl : lv_has ls 2 [(0, .ref (sw_ad g 0)), (1, .int a1)] := hl
  unfold wX6_requireExaminer at h
  refine lv_aload_n hx hb dX6_requireExaminer_0 rfl (lv_at hl 0 rfl) ?_
  refine sw_gr (j := 0) (r := (sw_st 0)) hx hb hts hown hW rfl qf_6 (Or.inl (Nat.le_of_ble_eq_true rfl)) sl_0 rfl (Nat.le_of_ble_eq_true rfl) q_150 dX6_requireExaminer_1 ?_
  refine lv_iload_n hx hb dX6_requireExaminer_4 rfl (lv_at hl 1 rfl) ?_
  refine sw_ki (rest := []) (sw_runV (As := [.int a1]) (rest := []) hx hb hml hown hts (kX5_hasExaminer l g 0 (Nat.le_of_ble_eq_true rfl) a1 M _ h) cv_X5_hasExaminer q_507 rfl rfl ⟨(Nat.le_of_ble_eq_true rfl), (Nat.le_of_ble_eq_true rfl)⟩ hW (sw_st_lt0 (Nat.le_of_ble_eq_true rfl)) (sw_lay_so 0) rfl rfl hl.1 rfl (Nat.le_of_ble_eq_true rfl) dX6_requireExaminer_5 ⟨(Nat.le_of_ble_eq_true rfl), (Nat.le_of_ble_eq_true rfl)⟩) hW (fun r1 M3 H locs h hW => ?_)
  obtain ⟨h, eM3⟩ := h
  rw [eM3] at hW
  refine lv_if_ne (tgt := 19) hx hb dX6_requireExaminer_8 (by decide) (fun k2 => ?_) (fun k2 => ?_)
  · have h := h.2 k2
    refine W.widen (k := 1) (n := 6) (Nat.le_of_ble_eq_true rfl) (Nat.le_of_ble_eq_true rfl) ?_
    refine vx_ret ?_
    exact sw_rv hx hb hr hlocks hW ⟨h, rfl⟩ dX6_requireExaminer_19
  · have h := h.1 k2
    exact sw_throw hx hb hst hown hts th_298 hW (hl.1.trans hml.symm) dX6_requireExaminer_11 dX6_requireExaminer_14 dX6_requireExaminer_15 dX6_requireExaminer_18 hnt (Nat.le_of_ble_eq_true rfl) (Nat.le_of_ble_eq_true rfl) (Nat.le_of_ble_eq_true rfl) (Nat.le_of_ble_eq_true rfl) hlocks ⟨h, rfl⟩ (Nat.le_of_ble_eq_true rfl) (Nat.le_of_ble_eq_true rfl)

theorem cv_X6_frameOfExaminer : sw_cV yX6_frameOfExaminer RX6 cX6_frameOfExaminer 2 (some .char) 1 := ⟨q_614, q_615, q_2, q_616, by decide +kernel⟩
def wX6_frameOfExaminer (a1 : Int32) (M : sM) (Q : Int32 → Prop) (X : String → Prop) : Prop :=
  wX6_requireExaminer a1 M (vp_in a1 6 ∧ (narrow .char (.int (M (sw_st 0 + 3) (a1).toNatClampNeg)) = .int (M (sw_st 0 + 3) (a1).toNatClampNeg) ∧ (Q (M (sw_st 0 + 3) (a1).toNatClampNeg)))) X
set_option maxRecDepth 20000 in
theorem kX6_frameOfExaminer (l : Launch) (hst : l.stackTraces = false) (g : sG) (a1 : Int32) (M : sM) (Q : Int32 → Prop) (X : String → Prop) (h : wX6_frameOfExaminer a1 M Q X) : vx_Met l yX6_frameOfExaminer (sw_ws yX6_frameOfExaminer cX6_frameOfExaminer 2 (some .char)) { frames := 7, cells := 1, slots := 6, locals := 116 } (va_Pc [.ref (sw_ad g 0), .int a1] (sw_Pr g M)) (va_Qi (fun r M1 => Q r ∧ M1 = M) (sw_Po g) (sw_A g)) (sw_XC g (fun E M1 => X E ∧ M1 = M)) 1 6 (sw_A g) := by
  refine sw_xmet (by decide) (Nat.le_of_ble_eq_true rfl) ?_
  intro p e s m args below meth c ls hx hb hr hts hown hml hlocks hnt hW hl
  have hown : s.vm.findClass RX6 = some m.cls := hown
  have hl : lv_has ls 2 [(0, .ref (sw_ad g 0)), (1, .int a1)] := hl
  unfold wX6_frameOfExaminer at h
  refine lv_aload_n hx hb dX6_frameOfExaminer_0 rfl (lv_at hl 0 rfl) ?_
  refine lv_iload_n hx hb dX6_frameOfExaminer_1 rfl (lv_at hl 1 rfl) ?_
  refine sw_xkv (rest := []) (sw_xrunV (As := [.int a1]) (rest := []) hx hb hml hown hts (kX6_requireExaminer l hst g a1 M _ _ h) cv_X6_requireExaminer q_504 rfl rfl ⟨(Nat.le_of_ble_eq_true rfl), (Nat.le_of_ble_eq_true rfl)⟩ hW (Or.inl (Nat.le_of_ble_eq_true rfl)) sl_0 rfl rfl hl.1 rfl (Nat.le_of_ble_eq_true rfl) dX6_frameOfExaminer_2 ⟨(Nat.le_of_ble_eq_true rfl), (Nat.le_of_ble_eq_true rfl)⟩) hW (fun E9 ce9 q9 M9 H9 locs9 hX9 hW9 f1 f2 f3 => sw_xout hnt hlocks hX9 hW9 f1 f2 f3 (Nat.le_of_ble_eq_true rfl) (Nat.le_of_ble_eq_true rfl)) (fun  M2 H locs h hW => ?_)
  obtain ⟨h, eM2⟩ := h
  rw [eM2] at hW
  refine lv_aload_n hx hb dX6_frameOfExaminer_5 rfl (lv_at hl 0 rfl) ?_
  refine sw_gr (j := 0) (r := (sw_st 0)) hx hb hts hown hW rfl qf_6 (Or.inl (Nat.le_of_ble_eq_true rfl)) sl_0 rfl (Nat.le_of_ble_eq_true rfl) q_150 dX6_frameOfExaminer_6 ?_
  refine sw_gr (j := 7) (r := (sw_st 0 + 3)) hx hb hts hown hW rfl qf_5 (sw_st_lt0 (Nat.le_of_ble_eq_true rfl)) (sw_lay_so 0) rfl (Nat.le_of_ble_eq_true rfl) q_73 dX6_frameOfExaminer_9 ?_
  refine lv_iload_n hx hb dX6_frameOfExaminer_12 rfl (lv_at hl 1 rfl) ?_
  have b1 := h.1
  have h := h.2
  refine sw_ca (n := 6) hx hb hW (sw_st_lt (Nat.le_of_ble_eq_true rfl) (Nat.le_of_ble_eq_true rfl)) (sw_lay_s 0 3 (Nat.le_of_ble_eq_true rfl)) b1 dX6_frameOfExaminer_13 ?_
  refine vx_ret ?_
  exact sw_ri hx hb hr hlocks hW h.1 ⟨h.2, rfl⟩ dX6_frameOfExaminer_14

theorem cv_X6_load : sw_cV yX6_load RX6 cX6_load 2 (some .int) 1 := ⟨q_634, q_635, q_2, q_636, by decide +kernel⟩
def wX6_load (a1 : Int32) (M : sM) (Q : Int32 → Prop) (X : String → Prop) : Prop :=
  wX6_requireExaminer a1 M (wX5_loadOf 0 a1 M (fun r1 => Q r1)) X
set_option maxRecDepth 20000 in
theorem kX6_load (l : Launch) (hst : l.stackTraces = false) (g : sG) (a1 : Int32) (M : sM) (Q : Int32 → Prop) (X : String → Prop) (h : wX6_load a1 M Q X) : vx_Met l yX6_load (sw_ws yX6_load cX6_load 2 (some .int)) { frames := 7, cells := 1, slots := 6, locals := 116 } (va_Pc [.ref (sw_ad g 0), .int a1] (sw_Pr g M)) (va_Qi (fun r M1 => Q r ∧ M1 = M) (sw_Po g) (sw_A g)) (sw_XC g (fun E M1 => X E ∧ M1 = M)) 1 6 (sw_A g) := by
  refine sw_xmet (by decide) (Nat.le_of_ble_eq_true rfl) ?_
  intro p e s m args below meth c ls hx hb hr hts hown hml hlocks hnt hW hl
  have hown : s.vm.findClass RX6 = some m.cls := hown
  have hl : lv_has ls 2 [(0, .ref (sw_ad g 0)), (1, .int a1)] := hl
  unfold wX6_load at h
  refine lv_aload_n hx hb dX6_load_0 rfl (lv_at hl 0 rfl) ?_
  refine lv_iload_n hx hb dX6_load_1 rfl (lv_at hl 1 rfl) ?_
  refine sw_xkv (rest := []) (sw_xrunV (As := [.int a1]) (rest := []) hx hb hml hown hts (kX6_requireExaminer l hst g a1 M _ _ h) cv_X6_requireExaminer q_504 rfl rfl ⟨(Nat.le_of_ble_eq_true rfl), (Nat.le_of_ble_eq_true rfl)⟩ hW (Or.inl (Nat.le_of_ble_eq_true rfl)) sl_0 rfl rfl hl.1 rfl (Nat.le_of_ble_eq_true rfl) dX6_load_2 ⟨(Nat.le_of_ble_eq_true rfl), (Nat.le_of_ble_eq_true rfl)⟩) hW (fun E9 ce9 q9 M9 H9 locs9 hX9 hW9 f1 f2 f3 => sw_xout hnt hlocks hX9 hW9 f1 f2 f3 (Nat.le_of_ble_eq_true rfl) (Nat.le_of_ble_eq_true rfl)) (fun  M3 H locs h hW => ?_)
  obtain ⟨h, eM3⟩ := h
  rw [eM3] at hW
  refine lv_aload_n hx hb dX6_load_5 rfl (lv_at hl 0 rfl) ?_
  refine sw_gr (j := 0) (r := (sw_st 0)) hx hb hts hown hW rfl qf_6 (Or.inl (Nat.le_of_ble_eq_true rfl)) sl_0 rfl (Nat.le_of_ble_eq_true rfl) q_150 dX6_load_6 ?_
  refine lv_iload_n hx hb dX6_load_9 rfl (lv_at hl 1 rfl) ?_
  refine sw_ki (rest := []) (sw_runV (As := [.int a1]) (rest := []) hx hb hml hown hts (kX5_loadOf l g 0 (Nat.le_of_ble_eq_true rfl) a1 M _ h) cv_X5_loadOf q_637 rfl rfl ⟨(Nat.le_of_ble_eq_true rfl), (Nat.le_of_ble_eq_true rfl)⟩ hW (sw_st_lt0 (Nat.le_of_ble_eq_true rfl)) (sw_lay_so 0) rfl rfl hl.1 rfl (Nat.le_of_ble_eq_true rfl) dX6_load_10 ⟨(Nat.le_of_ble_eq_true rfl), (Nat.le_of_ble_eq_true rfl)⟩) hW (fun r1 M2 H locs h hW => ?_)
  obtain ⟨h, eM2⟩ := h
  rw [eM2] at hW
  refine vx_ret ?_
  exact sw_ri hx hb hr hlocks hW rfl ⟨h, rfl⟩ dX6_load_13

theorem cv_X6_requirePair : sw_cV yX6_requirePair RX6 cX6_requirePair 3 none 2 := ⟨q_502, q_1161, q_2, q_503, by decide +kernel⟩
def wX6_requirePair (a1 : Int32) (a2 : Int32) (M : sM) (Q : Prop) (X : String → Prop) : Prop :=
  wX6_requireExaminer a1 M (wX6_requireDoor a2 M (Q) X) X
set_option maxRecDepth 20000 in
theorem kX6_requirePair (l : Launch) (hst : l.stackTraces = false) (g : sG) (a1 : Int32) (a2 : Int32) (M : sM) (Q : Prop) (X : String → Prop) (h : wX6_requirePair a1 a2 M Q X) : vx_Met l yX6_requirePair (sw_ws yX6_requirePair cX6_requirePair 3 none) { frames := 7, cells := 2, slots := 12, locals := 116 } (va_Pc [.ref (sw_ad g 0), .int a1, .int a2] (sw_Pr g M)) (va_Qv (fun M1 => Q ∧ M1 = M) (sw_Po g) (sw_A g)) (sw_XC g (fun E M1 => X E ∧ M1 = M)) 2 12 (sw_A g) := by
  refine sw_xmet (by decide) (Nat.le_of_ble_eq_true rfl) ?_
  intro p e s m args below meth c ls hx hb hr hts hown hml hlocks hnt hW hl
  have hown : s.vm.findClass RX6 = some m.cls := hown
  have hl : lv_has ls 3 [(0, .ref (sw_ad g 0)), (1, .int a1), (2, .int a2)] := hl
  unfold wX6_requirePair at h
  refine lv_aload_n hx hb dX6_requirePair_0 rfl (lv_at hl 0 rfl) ?_
  refine lv_iload_n hx hb dX6_requirePair_1 rfl (lv_at hl 1 rfl) ?_
  refine sw_xkv (rest := []) (sw_xrunV (As := [.int a1]) (rest := []) hx hb hml hown hts (kX6_requireExaminer l hst g a1 M _ _ h) cv_X6_requireExaminer q_504 rfl rfl ⟨(Nat.le_of_ble_eq_true rfl), (Nat.le_of_ble_eq_true rfl)⟩ hW (Or.inl (Nat.le_of_ble_eq_true rfl)) sl_0 rfl rfl hl.1 rfl (Nat.le_of_ble_eq_true rfl) dX6_requirePair_2 ⟨(Nat.le_of_ble_eq_true rfl), (Nat.le_of_ble_eq_true rfl)⟩) hW (fun E9 ce9 q9 M9 H9 locs9 hX9 hW9 f1 f2 f3 => sw_xout hnt hlocks hX9 hW9 f1 f2 f3 (Nat.le_of_ble_eq_true rfl) (Nat.le_of_ble_eq_true rfl)) (fun  M2 H locs h hW => ?_)
  obtain ⟨h, eM2⟩ := h
  rw [eM2] at hW
  refine lv_aload_n hx hb dX6_requirePair_5 rfl (lv_at hl 0 rfl) ?_
  refine lv_iload_n hx hb dX6_requirePair_6 rfl (lv_at hl 2 rfl) ?_
  refine sw_xkv (rest := []) (sw_xrunV (As := [.int a2]) (rest := []) hx hb hml hown hts (kX6_requireDoor l hst g a2 M _ _ h) cv_X6_requireDoor q_508 rfl rfl ⟨(Nat.le_of_ble_eq_true rfl), (Nat.le_of_ble_eq_true rfl)⟩ hW (Or.inl (Nat.le_of_ble_eq_true rfl)) sl_0 rfl rfl hl.1 rfl (Nat.le_of_ble_eq_true rfl) dX6_requirePair_7 ⟨(Nat.le_of_ble_eq_true rfl), (Nat.le_of_ble_eq_true rfl)⟩) hW (fun E9 ce9 q9 M9 H9 locs9 hX9 hW9 f1 f2 f3 => sw_xout hnt hlocks hX9 hW9 f1 f2 f3 (Nat.le_of_ble_eq_true rfl) (Nat.le_of_ble_eq_true rfl)) (fun  M1 H locs h hW => ?_)
  obtain ⟨h, eM1⟩ := h
  rw [eM1] at hW
  refine vx_ret ?_
  exact sw_rv hx hb hr hlocks hW ⟨h, rfl⟩ dX6_requirePair_10

theorem cv_X6_isNeutral : sw_cV yX6_isNeutral RX6 cX6_isNeutral 3 (some .boolean) 2 := ⟨q_620, q_621, q_2, q_622, by decide +kernel⟩
def wX6_isNeutral (a1 : Int32) (a2 : Int32) (M : sM) (Q : Int32 → Prop) (X : String → Prop) : Prop :=
  wX6_requirePair a1 a2 M (wX5_neutral 0 a1 a2 M (fun r1 => narrow .boolean (.int r1) = .int r1 ∧ (Q r1))) X
set_option maxRecDepth 20000 in
theorem kX6_isNeutral (l : Launch) (hst : l.stackTraces = false) (g : sG) (a1 : Int32) (a2 : Int32) (M : sM) (Q : Int32 → Prop) (X : String → Prop) (h : wX6_isNeutral a1 a2 M Q X) : vx_Met l yX6_isNeutral (sw_ws yX6_isNeutral cX6_isNeutral 3 (some .boolean)) { frames := 8, cells := 2, slots := 12, locals := 138 } (va_Pc [.ref (sw_ad g 0), .int a1, .int a2] (sw_Pr g M)) (va_Qi (fun r M1 => Q r ∧ M1 = M) (sw_Po g) (sw_A g)) (sw_XC g (fun E M1 => X E ∧ M1 = M)) 2 12 (sw_A g) := by
  refine sw_xmet (by decide) (Nat.le_of_ble_eq_true rfl) ?_
  intro p e s m args below meth c ls hx hb hr hts hown hml hlocks hnt hW hl
  have hown : s.vm.findClass RX6 = some m.cls := hown
  have hl : lv_has ls 3 [(0, .ref (sw_ad g 0)), (1, .int a1), (2, .int a2)] := hl
  unfold wX6_isNeutral at h
  refine lv_aload_n hx hb dX6_isNeutral_0 rfl (lv_at hl 0 rfl) ?_
  refine lv_iload_n hx hb dX6_isNeutral_1 rfl (lv_at hl 1 rfl) ?_
  refine lv_iload_n hx hb dX6_isNeutral_2 rfl (lv_at hl 2 rfl) ?_
  refine sw_xkv (rest := []) (sw_xrunV (As := [.int a1, .int a2]) (rest := []) hx hb hml hown hts (kX6_requirePair l hst g a1 a2 M _ _ h) cv_X6_requirePair q_501 rfl rfl ⟨(Nat.le_of_ble_eq_true rfl), (Nat.le_of_ble_eq_true rfl)⟩ hW (Or.inl (Nat.le_of_ble_eq_true rfl)) sl_0 rfl rfl hl.1 rfl (Nat.le_of_ble_eq_true rfl) dX6_isNeutral_3 ⟨(Nat.le_of_ble_eq_true rfl), (Nat.le_of_ble_eq_true rfl)⟩) hW (fun E9 ce9 q9 M9 H9 locs9 hX9 hW9 f1 f2 f3 => sw_xout hnt hlocks hX9 hW9 f1 f2 f3 (Nat.le_of_ble_eq_true rfl) (Nat.le_of_ble_eq_true rfl)) (fun  M3 H locs h hW => ?_)
  obtain ⟨h, eM3⟩ := h
  rw [eM3] at hW
  refine lv_aload_n hx hb dX6_isNeutral_6 rfl (lv_at hl 0 rfl) ?_
  refine sw_gr (j := 0) (r := (sw_st 0)) hx hb hts hown hW rfl qf_6 (Or.inl (Nat.le_of_ble_eq_true rfl)) sl_0 rfl (Nat.le_of_ble_eq_true rfl) q_150 dX6_isNeutral_7 ?_
  refine lv_iload_n hx hb dX6_isNeutral_10 rfl (lv_at hl 1 rfl) ?_
  refine lv_iload_n hx hb dX6_isNeutral_11 rfl (lv_at hl 2 rfl) ?_
  refine sw_ki (rest := []) (sw_runV (As := [.int a1, .int a2]) (rest := []) hx hb hml hown hts (kX5_neutral l g 0 (Nat.le_of_ble_eq_true rfl) a1 a2 M _ h) cv_X5_neutral q_623 rfl rfl ⟨(Nat.le_of_ble_eq_true rfl), (Nat.le_of_ble_eq_true rfl)⟩ hW (sw_st_lt0 (Nat.le_of_ble_eq_true rfl)) (sw_lay_so 0) rfl rfl hl.1 rfl (Nat.le_of_ble_eq_true rfl) dX6_isNeutral_12 ⟨(Nat.le_of_ble_eq_true rfl), (Nat.le_of_ble_eq_true rfl)⟩) hW (fun r1 M2 H locs h hW => ?_)
  obtain ⟨h, eM2⟩ := h
  rw [eM2] at hW
  refine vx_ret ?_
  exact sw_ri hx hb hr hlocks hW h.1 ⟨h.2, rfl⟩ dX6_isNeutral_15

theorem cv_X6_mayJudge : sw_cV yX6_mayJudge RX6 cX6_mayJudge 3 (some .boolean) 2 := ⟨q_627, q_628, q_2, q_629, by decide +kernel⟩
def wX6_mayJudge (a1 : Int32) (a2 : Int32) (M : sM) (Q : Int32 → Prop) (X : String → Prop) : Prop :=
  wX6_requirePair a1 a2 M (wX5_canJudge 0 a1 a2 M (fun r1 => narrow .boolean (.int r1) = .int r1 ∧ (Q r1))) X
set_option maxRecDepth 20000 in
theorem kX6_mayJudge (l : Launch) (hst : l.stackTraces = false) (g : sG) (a1 : Int32) (a2 : Int32) (M : sM) (Q : Int32 → Prop) (X : String → Prop) (h : wX6_mayJudge a1 a2 M Q X) : vx_Met l yX6_mayJudge (sw_ws yX6_mayJudge cX6_mayJudge 3 (some .boolean)) { frames := 8, cells := 2, slots := 12, locals := 138 } (va_Pc [.ref (sw_ad g 0), .int a1, .int a2] (sw_Pr g M)) (va_Qi (fun r M1 => Q r ∧ M1 = M) (sw_Po g) (sw_A g)) (sw_XC g (fun E M1 => X E ∧ M1 = M)) 2 12 (sw_A g) := by
  refine sw_xmet (by decide) (Nat.le_of_ble_eq_true rfl) ?_
  intro p e s m args below meth c ls hx hb hr hts hown hml hlocks hnt hW hl
  have hown : s.vm.findClass RX6 = some m.cls := hown
  have hl : lv_has ls 3 [(0, .ref (sw_ad g 0)), (1, .int a1), (2, .int a2)] := hl
  unfold wX6_mayJudge at h
  refine lv_aload_n hx hb dX6_mayJudge_0 rfl (lv_at hl 0 rfl) ?_
  refine lv_iload_n hx hb dX6_mayJudge_1 rfl (lv_at hl 1 rfl) ?_
  refine lv_iload_n hx hb dX6_mayJudge_2 rfl (lv_at hl 2 rfl) ?_
  refine sw_xkv (rest := []) (sw_xrunV (As := [.int a1, .int a2]) (rest := []) hx hb hml hown hts (kX6_requirePair l hst g a1 a2 M _ _ h) cv_X6_requirePair q_501 rfl rfl ⟨(Nat.le_of_ble_eq_true rfl), (Nat.le_of_ble_eq_true rfl)⟩ hW (Or.inl (Nat.le_of_ble_eq_true rfl)) sl_0 rfl rfl hl.1 rfl (Nat.le_of_ble_eq_true rfl) dX6_mayJudge_3 ⟨(Nat.le_of_ble_eq_true rfl), (Nat.le_of_ble_eq_true rfl)⟩) hW (fun E9 ce9 q9 M9 H9 locs9 hX9 hW9 f1 f2 f3 => sw_xout hnt hlocks hX9 hW9 f1 f2 f3 (Nat.le_of_ble_eq_true rfl) (Nat.le_of_ble_eq_true rfl)) (fun  M3 H locs h hW => ?_)
  obtain ⟨h, eM3⟩ := h
  rw [eM3] at hW
  refine lv_aload_n hx hb dX6_mayJudge_6 rfl (lv_at hl 0 rfl) ?_
  refine sw_gr (j := 0) (r := (sw_st 0)) hx hb hts hown hW rfl qf_6 (Or.inl (Nat.le_of_ble_eq_true rfl)) sl_0 rfl (Nat.le_of_ble_eq_true rfl) q_150 dX6_mayJudge_7 ?_
  refine lv_iload_n hx hb dX6_mayJudge_10 rfl (lv_at hl 1 rfl) ?_
  refine lv_iload_n hx hb dX6_mayJudge_11 rfl (lv_at hl 2 rfl) ?_
  refine sw_ki (rest := []) (sw_runV (As := [.int a1, .int a2]) (rest := []) hx hb hml hown hts (kX5_canJudge l g 0 (Nat.le_of_ble_eq_true rfl) a1 a2 M _ h) cv_X5_canJudge q_630 rfl rfl ⟨(Nat.le_of_ble_eq_true rfl), (Nat.le_of_ble_eq_true rfl)⟩ hW (sw_st_lt0 (Nat.le_of_ble_eq_true rfl)) (sw_lay_so 0) rfl rfl hl.1 rfl (Nat.le_of_ble_eq_true rfl) dX6_mayJudge_12 ⟨(Nat.le_of_ble_eq_true rfl), (Nat.le_of_ble_eq_true rfl)⟩) hW (fun r1 M2 H locs h hW => ?_)
  obtain ⟨h, eM2⟩ := h
  rw [eM2] at hW
  refine vx_ret ?_
  exact sw_ri hx hb hr hlocks hW h.1 ⟨h.2, rfl⟩ dX6_mayJudge_15

theorem cv_X6_isAssigned : sw_cV yX6_isAssigned RX6 cX6_isAssigned 3 (some .boolean) 2 := ⟨q_498, q_499, q_2, q_500, by decide +kernel⟩
def wX6_isAssigned (a1 : Int32) (a2 : Int32) (M : sM) (Q : Int32 → Prop) (X : String → Prop) : Prop :=
  wX6_requirePair a1 a2 M (wX5_assigned 0 a1 a2 M (fun r1 => narrow .boolean (.int r1) = .int r1 ∧ (Q r1))) X
set_option maxRecDepth 20000 in
theorem kX6_isAssigned (l : Launch) (hst : l.stackTraces = false) (g : sG) (a1 : Int32) (a2 : Int32) (M : sM) (Q : Int32 → Prop) (X : String → Prop) (h : wX6_isAssigned a1 a2 M Q X) : vx_Met l yX6_isAssigned (sw_ws yX6_isAssigned cX6_isAssigned 3 (some .boolean)) { frames := 8, cells := 2, slots := 12, locals := 138 } (va_Pc [.ref (sw_ad g 0), .int a1, .int a2] (sw_Pr g M)) (va_Qi (fun r M1 => Q r ∧ M1 = M) (sw_Po g) (sw_A g)) (sw_XC g (fun E M1 => X E ∧ M1 = M)) 2 12 (sw_A g) := by
  refine sw_xmet (by decide) (Nat.le_of_ble_eq_true rfl) ?_
  intro p e s m args below meth c ls hx hb hr hts hown hml hlocks hnt hW hl
  have hown : s.vm.findClass RX6 = some m.cls := hown
  have hl : lv_has ls 3 [(0, .ref (sw_ad g 0)), (1, .int a1), (2, .int a2)] := hl
  unfold wX6_isAssigned at h
  refine lv_aload_n hx hb dX6_isAssigned_0 rfl (lv_at hl 0 rfl) ?_
  refine lv_iload_n hx hb dX6_isAssigned_1 rfl (lv_at hl 1 rfl) ?_
  refine lv_iload_n hx hb dX6_isAssigned_2 rfl (lv_at hl 2 rfl) ?_
  refine sw_xkv (rest := []) (sw_xrunV (As := [.int a1, .int a2]) (rest := []) hx hb hml hown hts (kX6_requirePair l hst g a1 a2 M _ _ h) cv_X6_requirePair q_501 rfl rfl ⟨(Nat.le_of_ble_eq_true rfl), (Nat.le_of_ble_eq_true rfl)⟩ hW (Or.inl (Nat.le_of_ble_eq_true rfl)) sl_0 rfl rfl hl.1 rfl (Nat.le_of_ble_eq_true rfl) dX6_isAssigned_3 ⟨(Nat.le_of_ble_eq_true rfl), (Nat.le_of_ble_eq_true rfl)⟩) hW (fun E9 ce9 q9 M9 H9 locs9 hX9 hW9 f1 f2 f3 => sw_xout hnt hlocks hX9 hW9 f1 f2 f3 (Nat.le_of_ble_eq_true rfl) (Nat.le_of_ble_eq_true rfl)) (fun  M3 H locs h hW => ?_)
  obtain ⟨h, eM3⟩ := h
  rw [eM3] at hW
  refine lv_aload_n hx hb dX6_isAssigned_6 rfl (lv_at hl 0 rfl) ?_
  refine sw_gr (j := 0) (r := (sw_st 0)) hx hb hts hown hW rfl qf_6 (Or.inl (Nat.le_of_ble_eq_true rfl)) sl_0 rfl (Nat.le_of_ble_eq_true rfl) q_150 dX6_isAssigned_7 ?_
  refine lv_iload_n hx hb dX6_isAssigned_10 rfl (lv_at hl 1 rfl) ?_
  refine lv_iload_n hx hb dX6_isAssigned_11 rfl (lv_at hl 2 rfl) ?_
  refine sw_ki (rest := []) (sw_runV (As := [.int a1, .int a2]) (rest := []) hx hb hml hown hts (kX5_assigned l g 0 (Nat.le_of_ble_eq_true rfl) a1 a2 M _ h) cv_X5_assigned q_512 rfl rfl ⟨(Nat.le_of_ble_eq_true rfl), (Nat.le_of_ble_eq_true rfl)⟩ hW (sw_st_lt0 (Nat.le_of_ble_eq_true rfl)) (sw_lay_so 0) rfl rfl hl.1 rfl (Nat.le_of_ble_eq_true rfl) dX6_isAssigned_12 ⟨(Nat.le_of_ble_eq_true rfl), (Nat.le_of_ble_eq_true rfl)⟩) hW (fun r1 M2 H locs h hW => ?_)
  obtain ⟨h, eM2⟩ := h
  rw [eM2] at hW
  refine vx_ret ?_
  exact sw_ri hx hb hr hlocks hW h.1 ⟨h.2, rfl⟩ dX6_isAssigned_15

theorem cv_X6_gradeBy : sw_cV yX6_gradeBy RX6 cX6_gradeBy 3 (some .int) 2 := ⟨q_517, q_518, q_2, q_519, by decide +kernel⟩
def wX6_gradeBy (a1 : Int32) (a2 : Int32) (M : sM) (Q : Int32 → Prop) (X : String → Prop) : Prop :=
  wX6_requirePair a1 a2 M (vp_in a1 6 ∧ (vp_in a2 8 ∧ (wX6_requireThere (M (sw_st 0 + 11 + (a1).toNatClampNeg) (a2).toNatClampNeg) (fun r3 => Q r3) X))) X
set_option maxRecDepth 20000 in
theorem kX6_gradeBy (l : Launch) (hst : l.stackTraces = false) (g : sG) (a1 : Int32) (a2 : Int32) (M : sM) (Q : Int32 → Prop) (X : String → Prop) (h : wX6_gradeBy a1 a2 M Q X) : vx_Met l yX6_gradeBy (sw_ws yX6_gradeBy cX6_gradeBy 3 (some .int)) { frames := 8, cells := 3, slots := 18, locals := 138 } (va_Pc [.ref (sw_ad g 0), .int a1, .int a2] (sw_Pr g M)) (va_Qi (fun r M1 => Q r ∧ M1 = M) (sw_Po g) (sw_A g)) (sw_XC g (fun E M1 => X E ∧ M1 = M)) 3 18 (sw_A g) := by
  refine sw_xmet (by decide) (Nat.le_of_ble_eq_true rfl) ?_
  intro p e s m args below meth c ls hx hb hr hts hown hml hlocks hnt hW hl
  have hown : s.vm.findClass RX6 = some m.cls := hown
  have hl : lv_has ls 3 [(0, .ref (sw_ad g 0)), (1, .int a1), (2, .int a2)] := hl
  unfold wX6_gradeBy at h
  refine lv_aload_n hx hb dX6_gradeBy_0 rfl (lv_at hl 0 rfl) ?_
  refine lv_iload_n hx hb dX6_gradeBy_1 rfl (lv_at hl 1 rfl) ?_
  refine lv_iload_n hx hb dX6_gradeBy_2 rfl (lv_at hl 2 rfl) ?_
  refine sw_xkv (rest := []) (sw_xrunV (As := [.int a1, .int a2]) (rest := []) hx hb hml hown hts (kX6_requirePair l hst g a1 a2 M _ _ h) cv_X6_requirePair q_501 rfl rfl ⟨(Nat.le_of_ble_eq_true rfl), (Nat.le_of_ble_eq_true rfl)⟩ hW (Or.inl (Nat.le_of_ble_eq_true rfl)) sl_0 rfl rfl hl.1 rfl (Nat.le_of_ble_eq_true rfl) dX6_gradeBy_3 ⟨(Nat.le_of_ble_eq_true rfl), (Nat.le_of_ble_eq_true rfl)⟩) hW (fun E9 ce9 q9 M9 H9 locs9 hX9 hW9 f1 f2 f3 => sw_xout hnt hlocks hX9 hW9 f1 f2 f3 (Nat.le_of_ble_eq_true rfl) (Nat.le_of_ble_eq_true rfl)) (fun  M5 H locs h hW => ?_)
  obtain ⟨h, eM5⟩ := h
  rw [eM5] at hW
  refine lv_aload_n hx hb dX6_gradeBy_6 rfl (lv_at hl 0 rfl) ?_
  refine sw_gr (j := 0) (r := (sw_st 0)) hx hb hts hown hW rfl qf_6 (Or.inl (Nat.le_of_ble_eq_true rfl)) sl_0 rfl (Nat.le_of_ble_eq_true rfl) q_150 dX6_gradeBy_7 ?_
  refine sw_gr (j := 13) (r := (sw_st 0 + 10)) hx hb hts hown hW rfl qf_5 (sw_st_lt0 (Nat.le_of_ble_eq_true rfl)) (sw_lay_so 0) rfl (Nat.le_of_ble_eq_true rfl) q_85 dX6_gradeBy_10 ?_
  refine lv_iload_n hx hb dX6_gradeBy_13 rfl (lv_at hl 1 rfl) ?_
  have b1 := h.1
  have h := h.2
  refine sw_aaG (Nat.le_of_ble_eq_true rfl) hx hb hW b1 dX6_gradeBy_14 ?_
  refine lv_iload_n hx hb dX6_gradeBy_15 rfl (lv_at hl 2 rfl) ?_
  have b2 := h.1
  have h := h.2
  refine sw_ia (n := 8) hx hb hW (sw_g_lt (Nat.le_of_ble_eq_true rfl) (sw_vlt b1)) (sw_lay_g 0 (sw_vlt b1)) b2 dX6_gradeBy_16 ?_
  refine sw_xki (rest := []) (sw_xrunS (As := [.int (M (sw_st 0 + 11 + (a1).toNatClampNeg) (a2).toNatClampNeg)]) (rest := []) hx hb hml hown hts (kX6_requireThere l hst g (M (sw_st 0 + 11 + (a1).toNatClampNeg) (a2).toNatClampNeg) M _ _ h) cs_X6_requireThere q_520 rfl rfl ⟨(Nat.le_of_ble_eq_true rfl), (Nat.le_of_ble_eq_true rfl)⟩ hW rfl hl.1 rfl (Nat.le_of_ble_eq_true rfl) dX6_gradeBy_17 ⟨(Nat.le_of_ble_eq_true rfl), (Nat.le_of_ble_eq_true rfl)⟩) hW (fun E9 ce9 q9 M9 H9 locs9 hX9 hW9 f1 f2 f3 => sw_xout hnt hlocks hX9 hW9 f1 f2 f3 (Nat.le_of_ble_eq_true rfl) (Nat.le_of_ble_eq_true rfl)) (fun r3 M4 H locs h hW => ?_)
  obtain ⟨h, eM4⟩ := h
  rw [eM4] at hW
  refine vx_ret ?_
  exact sw_ri hx hb hr hlocks hW rfl ⟨h, rfl⟩ dX6_gradeBy_20

theorem cv_X6_planSize : sw_cV yX6_planSize RX6 cX6_planSize 1 (some .int) 0 := ⟨q_639, q_640, q_2, q_641, by decide +kernel⟩
def wX6_planSize  (M : sM) (Q : Int32 → sM → Prop) : Prop :=
  wX3_sizeByExchanges 0 M (fun r1 M2 => Q r1 M2)
set_option maxRecDepth 20000 in
theorem kX6_planSize (l : Launch) (g : sG)  (M : sM) (Q : Int32 → sM → Prop) (h : wX6_planSize  M Q) : Met l yX6_planSize (sw_ws yX6_planSize cX6_planSize 1 (some .int)) { frames := 5, cells := 0, slots := 0, locals := 111 } (va_Pc [.ref (sw_ad g 0)] (sw_Pr g M)) (va_Qi Q (sw_Po g) (sw_A g)) 0 0 (sw_A g) := by
  refine sw_met (by decide) (Nat.le_of_ble_eq_true rfl) ?_
  intro p e s m args below meth c ls hx hb hr hts hown hml hlocks hW hl
  have hown : s.vm.findClass RX6 = some m.cls := hown
  have hl : lv_has ls 1 [(0, .ref (sw_ad g 0))] := hl
  unfold wX6_planSize at h
  refine lv_aload_n hx hb dX6_planSize_0 rfl (lv_at hl 0 rfl) ?_
  refine sw_gr (j := 4) (r := 3) hx hb hts hown hW rfl qf_6 (Or.inl (Nat.le_of_ble_eq_true rfl)) sl_0 rfl (Nat.le_of_ble_eq_true rfl) q_154 dX6_planSize_1 ?_
  refine lv_aload_n hx hb dX6_planSize_4 rfl (lv_at hl 0 rfl) ?_
  refine sw_gr (j := 0) (r := (sw_st 0)) hx hb hts hown hW rfl qf_6 (Or.inl (Nat.le_of_ble_eq_true rfl)) sl_0 rfl (Nat.le_of_ble_eq_true rfl) q_150 dX6_planSize_5 ?_
  refine sw_ki (rest := []) (sw_runV (As := [.ref (sw_ad g (sw_st 0))]) (rest := []) hx hb hml hown hts (kX3_sizeByExchanges l g 0 (Nat.le_of_ble_eq_true rfl) M _ h) cv_X3_sizeByExchanges q_642 rfl rfl ⟨(Nat.le_of_ble_eq_true rfl), (Nat.le_of_ble_eq_true rfl)⟩ hW (Or.inl (Nat.le_of_ble_eq_true rfl)) sl_3 rfl rfl hl.1 rfl (Nat.le_of_ble_eq_true rfl) dX6_planSize_8 ⟨(Nat.le_of_ble_eq_true rfl), (Nat.le_of_ble_eq_true rfl)⟩) hW (fun r1 M2 H locs h hW => ?_)
  exact sw_ri hx hb hr hlocks hW rfl h dX6_planSize_11

theorem cv_X6_planSizeBySets : sw_cV yX6_planSizeBySets RX6 cX6_planSizeBySets 1 (some .int) 0 := ⟨q_647, q_648, q_2, q_649, by decide +kernel⟩
def wX6_planSizeBySets  (M : sM) (Q : Int32 → sM → Prop) : Prop :=
  wX3_sizeBySets 0 M (fun r1 M2 => Q r1 M2)
set_option maxRecDepth 20000 in
theorem kX6_planSizeBySets (l : Launch) (g : sG)  (M : sM) (Q : Int32 → sM → Prop) (h : wX6_planSizeBySets  M Q) : Met l yX6_planSizeBySets (sw_ws yX6_planSizeBySets cX6_planSizeBySets 1 (some .int)) { frames := 5, cells := 0, slots := 0, locals := 113 } (va_Pc [.ref (sw_ad g 0)] (sw_Pr g M)) (va_Qi Q (sw_Po g) (sw_A g)) 0 0 (sw_A g) := by
  refine sw_met (by decide) (Nat.le_of_ble_eq_true rfl) ?_
  intro p e s m args below meth c ls hx hb hr hts hown hml hlocks hW hl
  have hown : s.vm.findClass RX6 = some m.cls := hown
  have hl : lv_has ls 1 [(0, .ref (sw_ad g 0))] := hl
  unfold wX6_planSizeBySets at h
  refine lv_aload_n hx hb dX6_planSizeBySets_0 rfl (lv_at hl 0 rfl) ?_
  refine sw_gr (j := 4) (r := 3) hx hb hts hown hW rfl qf_6 (Or.inl (Nat.le_of_ble_eq_true rfl)) sl_0 rfl (Nat.le_of_ble_eq_true rfl) q_154 dX6_planSizeBySets_1 ?_
  refine lv_aload_n hx hb dX6_planSizeBySets_4 rfl (lv_at hl 0 rfl) ?_
  refine sw_gr (j := 0) (r := (sw_st 0)) hx hb hts hown hW rfl qf_6 (Or.inl (Nat.le_of_ble_eq_true rfl)) sl_0 rfl (Nat.le_of_ble_eq_true rfl) q_150 dX6_planSizeBySets_5 ?_
  refine sw_ki (rest := []) (sw_runV (As := [.ref (sw_ad g (sw_st 0))]) (rest := []) hx hb hml hown hts (kX3_sizeBySets l g 0 (Nat.le_of_ble_eq_true rfl) M _ h) cv_X3_sizeBySets q_650 rfl rfl ⟨(Nat.le_of_ble_eq_true rfl), (Nat.le_of_ble_eq_true rfl)⟩ hW (Or.inl (Nat.le_of_ble_eq_true rfl)) sl_3 rfl rfl hl.1 rfl (Nat.le_of_ble_eq_true rfl) dX6_planSizeBySets_8 ⟨(Nat.le_of_ble_eq_true rfl), (Nat.le_of_ble_eq_true rfl)⟩) hW (fun r1 M2 H locs h hW => ?_)
  exact sw_ri hx hb hr hlocks hW rfl h dX6_planSizeBySets_11

theorem cv_X6_plannedExaminer : sw_cV yX6_plannedExaminer RX6 cX6_plannedExaminer 2 (some .int) 1 := ⟨q_608, q_609, q_2, q_610, by decide +kernel⟩
def wX6_plannedExaminer (a1 : Int32) (M : sM) (Q : Int32 → sM → Prop) (X : String → sM → Prop) : Prop :=
  wX6_requireDoor a1 M (wX3_findBest 0 M (fun M1 => vp_in a1 8 ∧ (wX6_requireThere (M1 6 (a1).toNatClampNeg) (fun r3 => Q r3 M1) (fun E => X E M1)))) (fun E => X E M)
set_option maxRecDepth 20000 in
theorem kX6_plannedExaminer (l : Launch) (hst : l.stackTraces = false) (g : sG) (a1 : Int32) (M : sM) (Q : Int32 → sM → Prop) (X : String → sM → Prop) (h : wX6_plannedExaminer a1 M Q X) : vx_Met l yX6_plannedExaminer (sw_ws yX6_plannedExaminer cX6_plannedExaminer 2 (some .int)) { frames := 7, cells := 2, slots := 12, locals := 121 } (va_Pc [.ref (sw_ad g 0), .int a1] (sw_Pr g M)) (va_Qi Q (sw_Po g) (sw_A g)) (sw_XC g X) 2 12 (sw_A g) := by
  refine sw_xmet (by decide) (Nat.le_of_ble_eq_true rfl) ?_
  intro p e s m args below meth c ls hx hb hr hts hown hml hlocks hnt hW hl
  have hown : s.vm.findClass RX6 = some m.cls := hown
  have hl : lv_has ls 2 [(0, .ref (sw_ad g 0)), (1, .int a1)] := hl
  unfold wX6_plannedExaminer at h
  refine lv_aload_n hx hb dX6_plannedExaminer_0 rfl (lv_at hl 0 rfl) ?_
  refine lv_iload_n hx hb dX6_plannedExaminer_1 rfl (lv_at hl 1 rfl) ?_
  refine sw_xkv (rest := []) (sw_xrunV (As := [.int a1]) (rest := []) hx hb hml hown hts (kX6_requireDoor l hst g a1 M _ _ h) cv_X6_requireDoor q_508 rfl rfl ⟨(Nat.le_of_ble_eq_true rfl), (Nat.le_of_ble_eq_true rfl)⟩ hW (Or.inl (Nat.le_of_ble_eq_true rfl)) sl_0 rfl rfl hl.1 rfl (Nat.le_of_ble_eq_true rfl) dX6_plannedExaminer_2 ⟨(Nat.le_of_ble_eq_true rfl), (Nat.le_of_ble_eq_true rfl)⟩) hW (fun E9 ce9 q9 M9 H9 locs9 hX9 hW9 f1 f2 f3 => sw_xout hnt hlocks (by rw [hX9.2]; exact hX9.1) hW9 f1 f2 f3 (Nat.le_of_ble_eq_true rfl) (Nat.le_of_ble_eq_true rfl)) (fun  M5 H locs h hW => ?_)
  obtain ⟨h, eM5⟩ := h
  rw [eM5] at hW
  refine lv_aload_n hx hb dX6_plannedExaminer_5 rfl (lv_at hl 0 rfl) ?_
  refine sw_gr (j := 4) (r := 3) hx hb hts hown hW rfl qf_6 (Or.inl (Nat.le_of_ble_eq_true rfl)) sl_0 rfl (Nat.le_of_ble_eq_true rfl) q_154 dX6_plannedExaminer_6 ?_
  refine lv_aload_n hx hb dX6_plannedExaminer_9 rfl (lv_at hl 0 rfl) ?_
  refine sw_gr (j := 0) (r := (sw_st 0)) hx hb hts hown hW rfl qf_6 (Or.inl (Nat.le_of_ble_eq_true rfl)) sl_0 rfl (Nat.le_of_ble_eq_true rfl) q_150 dX6_plannedExaminer_10 ?_
  refine sw_kv (rest := []) (sw_runV (As := [.ref (sw_ad g (sw_st 0))]) (rest := []) hx hb hml hown hts (kX3_findBest l g 0 (Nat.le_of_ble_eq_true rfl) M _ h) cv_X3_findBest q_350 rfl rfl ⟨(Nat.le_of_ble_eq_true rfl), (Nat.le_of_ble_eq_true rfl)⟩ hW (Or.inl (Nat.le_of_ble_eq_true rfl)) sl_3 rfl rfl hl.1 rfl (Nat.le_of_ble_eq_true rfl) dX6_plannedExaminer_13 ⟨(Nat.le_of_ble_eq_true rfl), (Nat.le_of_ble_eq_true rfl)⟩) hW (fun  M1 H locs h hW => ?_)
  refine lv_aload_n hx hb dX6_plannedExaminer_16 rfl (lv_at hl 0 rfl) ?_
  refine sw_gr (j := 4) (r := 3) hx hb hts hown hW rfl qf_6 (Or.inl (Nat.le_of_ble_eq_true rfl)) sl_0 rfl (Nat.le_of_ble_eq_true rfl) q_154 dX6_plannedExaminer_17 ?_
  refine sw_gr (j := 3) (r := 6) hx hb hts hown hW rfl qf_3 (Or.inl (Nat.le_of_ble_eq_true rfl)) sl_3 rfl (Nat.le_of_ble_eq_true rfl) q_114 dX6_plannedExaminer_20 ?_
  refine lv_iload_n hx hb dX6_plannedExaminer_23 rfl (lv_at hl 1 rfl) ?_
  have b2 := h.1
  have h := h.2
  refine sw_ia (n := 8) hx hb hW (Or.inl (Nat.le_of_ble_eq_true rfl)) sl_6 b2 dX6_plannedExaminer_24 ?_
  refine sw_xki (rest := []) (sw_xrunS (As := [.int (M1 6 (a1).toNatClampNeg)]) (rest := []) hx hb hml hown hts (kX6_requireThere l hst g (M1 6 (a1).toNatClampNeg) M1 _ _ h) cs_X6_requireThere q_520 rfl rfl ⟨(Nat.le_of_ble_eq_true rfl), (Nat.le_of_ble_eq_true rfl)⟩ hW rfl hl.1 rfl (Nat.le_of_ble_eq_true rfl) dX6_plannedExaminer_25 ⟨(Nat.le_of_ble_eq_true rfl), (Nat.le_of_ble_eq_true rfl)⟩) hW (fun E9 ce9 q9 M9 H9 locs9 hX9 hW9 f1 f2 f3 => sw_xout hnt hlocks (by rw [hX9.2]; exact hX9.1) hW9 f1 f2 f3 (Nat.le_of_ble_eq_true rfl) (Nat.le_of_ble_eq_true rfl)) (fun r3 M4 H locs h hW => ?_)
  obtain ⟨h, eM4⟩ := h
  rw [eM4] at hW
  refine vx_ret ?_
  exact sw_ri hx hb hr hlocks hW rfl h dX6_plannedExaminer_28

theorem cv_X6_panelCount : sw_cV yX6_panelCount RX6 cX6_panelCount 2 (some .int) 1 := ⟨q_682, q_683, q_2, q_684, by decide +kernel⟩
def wX6_panelCount (a1 : Int32) (M : sM) (Q : Int32 → Prop) (X : String → Prop) : Prop :=
  wX6_requireDoor a1 M (wX2_countByTrying 0 a1 M (fun r1 => Q r1)) X
set_option maxRecDepth 20000 in
theorem kX6_panelCount (l : Launch) (hst : l.stackTraces = false) (g : sG) (a1 : Int32) (M : sM) (Q : Int32 → Prop) (X : String → Prop) (h : wX6_panelCount a1 M Q X) : vx_Met l yX6_panelCount (sw_ws yX6_panelCount cX6_panelCount 2 (some .int)) { frames := 7, cells := 1, slots := 6, locals := 116 } (va_Pc [.ref (sw_ad g 0), .int a1] (sw_Pr g M)) (va_Qi (fun r M1 => Q r ∧ M1 = M) (sw_Po g) (sw_A g)) (sw_XC g (fun E M1 => X E ∧ M1 = M)) 1 6 (sw_A g) := by
  refine sw_xmet (by decide) (Nat.le_of_ble_eq_true rfl) ?_
  intro p e s m args below meth c ls hx hb hr hts hown hml hlocks hnt hW hl
  have hown : s.vm.findClass RX6 = some m.cls := hown
  have hl : lv_has ls 2 [(0, .ref (sw_ad g 0)), (1, .int a1)] := hl
  unfold wX6_panelCount at h
  refine lv_aload_n hx hb dX6_panelCount_0 rfl (lv_at hl 0 rfl) ?_
  refine lv_iload_n hx hb dX6_panelCount_1 rfl (lv_at hl 1 rfl) ?_
  refine sw_xkv (rest := []) (sw_xrunV (As := [.int a1]) (rest := []) hx hb hml hown hts (kX6_requireDoor l hst g a1 M _ _ h) cv_X6_requireDoor q_508 rfl rfl ⟨(Nat.le_of_ble_eq_true rfl), (Nat.le_of_ble_eq_true rfl)⟩ hW (Or.inl (Nat.le_of_ble_eq_true rfl)) sl_0 rfl rfl hl.1 rfl (Nat.le_of_ble_eq_true rfl) dX6_panelCount_2 ⟨(Nat.le_of_ble_eq_true rfl), (Nat.le_of_ble_eq_true rfl)⟩) hW (fun E9 ce9 q9 M9 H9 locs9 hX9 hW9 f1 f2 f3 => sw_xout hnt hlocks hX9 hW9 f1 f2 f3 (Nat.le_of_ble_eq_true rfl) (Nat.le_of_ble_eq_true rfl)) (fun  M3 H locs h hW => ?_)
  obtain ⟨h, eM3⟩ := h
  rw [eM3] at hW
  refine lv_aload_n hx hb dX6_panelCount_5 rfl (lv_at hl 0 rfl) ?_
  refine sw_gr (j := 5) (r := 12) hx hb hts hown hW rfl qf_6 (Or.inl (Nat.le_of_ble_eq_true rfl)) sl_0 rfl (Nat.le_of_ble_eq_true rfl) q_155 dX6_panelCount_6 ?_
  refine lv_aload_n hx hb dX6_panelCount_9 rfl (lv_at hl 0 rfl) ?_
  refine sw_gr (j := 0) (r := (sw_st 0)) hx hb hts hown hW rfl qf_6 (Or.inl (Nat.le_of_ble_eq_true rfl)) sl_0 rfl (Nat.le_of_ble_eq_true rfl) q_150 dX6_panelCount_10 ?_
  refine lv_iload_n hx hb dX6_panelCount_13 rfl (lv_at hl 1 rfl) ?_
  refine sw_ki (rest := []) (sw_runV (As := [.ref (sw_ad g (sw_st 0)), .int a1]) (rest := []) hx hb hml hown hts (kX2_countByTrying l g 0 (Nat.le_of_ble_eq_true rfl) a1 M _ h) cv_X2_countByTrying q_685 rfl rfl ⟨(Nat.le_of_ble_eq_true rfl), (Nat.le_of_ble_eq_true rfl)⟩ hW (Or.inl (Nat.le_of_ble_eq_true rfl)) sl_12 rfl rfl hl.1 rfl (Nat.le_of_ble_eq_true rfl) dX6_panelCount_14 ⟨(Nat.le_of_ble_eq_true rfl), (Nat.le_of_ble_eq_true rfl)⟩) hW (fun r1 M2 H locs h hW => ?_)
  obtain ⟨h, eM2⟩ := h
  rw [eM2] at hW
  refine vx_ret ?_
  exact sw_ri hx hb hr hlocks hW rfl ⟨h, rfl⟩ dX6_panelCount_17

theorem cv_X6_panelCountByFrames : sw_cV yX6_panelCountByFrames RX6 cX6_panelCountByFrames 2 (some .int) 1 := ⟨q_692, q_693, q_2, q_694, by decide +kernel⟩
def wX6_panelCountByFrames (a1 : Int32) (M : sM) (Q : Int32 → sM → Prop) (X : String → sM → Prop) : Prop :=
  wX6_requireDoor a1 M (wX2_countByFrames 0 a1 M (fun r1 M2 => Q r1 M2)) (fun E => X E M)
set_option maxRecDepth 20000 in
theorem kX6_panelCountByFrames (l : Launch) (hst : l.stackTraces = false) (g : sG) (a1 : Int32) (M : sM) (Q : Int32 → sM → Prop) (X : String → sM → Prop) (h : wX6_panelCountByFrames a1 M Q X) : vx_Met l yX6_panelCountByFrames (sw_ws yX6_panelCountByFrames cX6_panelCountByFrames 2 (some .int)) { frames := 7, cells := 1, slots := 6, locals := 116 } (va_Pc [.ref (sw_ad g 0), .int a1] (sw_Pr g M)) (va_Qi Q (sw_Po g) (sw_A g)) (sw_XC g X) 1 6 (sw_A g) := by
  refine sw_xmet (by decide) (Nat.le_of_ble_eq_true rfl) ?_
  intro p e s m args below meth c ls hx hb hr hts hown hml hlocks hnt hW hl
  have hown : s.vm.findClass RX6 = some m.cls := hown
  have hl : lv_has ls 2 [(0, .ref (sw_ad g 0)), (1, .int a1)] := hl
  unfold wX6_panelCountByFrames at h
  refine lv_aload_n hx hb dX6_panelCountByFrames_0 rfl (lv_at hl 0 rfl) ?_
  refine lv_iload_n hx hb dX6_panelCountByFrames_1 rfl (lv_at hl 1 rfl) ?_
  refine sw_xkv (rest := []) (sw_xrunV (As := [.int a1]) (rest := []) hx hb hml hown hts (kX6_requireDoor l hst g a1 M _ _ h) cv_X6_requireDoor q_508 rfl rfl ⟨(Nat.le_of_ble_eq_true rfl), (Nat.le_of_ble_eq_true rfl)⟩ hW (Or.inl (Nat.le_of_ble_eq_true rfl)) sl_0 rfl rfl hl.1 rfl (Nat.le_of_ble_eq_true rfl) dX6_panelCountByFrames_2 ⟨(Nat.le_of_ble_eq_true rfl), (Nat.le_of_ble_eq_true rfl)⟩) hW (fun E9 ce9 q9 M9 H9 locs9 hX9 hW9 f1 f2 f3 => sw_xout hnt hlocks (by rw [hX9.2]; exact hX9.1) hW9 f1 f2 f3 (Nat.le_of_ble_eq_true rfl) (Nat.le_of_ble_eq_true rfl)) (fun  M3 H locs h hW => ?_)
  obtain ⟨h, eM3⟩ := h
  rw [eM3] at hW
  refine lv_aload_n hx hb dX6_panelCountByFrames_5 rfl (lv_at hl 0 rfl) ?_
  refine sw_gr (j := 5) (r := 12) hx hb hts hown hW rfl qf_6 (Or.inl (Nat.le_of_ble_eq_true rfl)) sl_0 rfl (Nat.le_of_ble_eq_true rfl) q_155 dX6_panelCountByFrames_6 ?_
  refine lv_aload_n hx hb dX6_panelCountByFrames_9 rfl (lv_at hl 0 rfl) ?_
  refine sw_gr (j := 0) (r := (sw_st 0)) hx hb hts hown hW rfl qf_6 (Or.inl (Nat.le_of_ble_eq_true rfl)) sl_0 rfl (Nat.le_of_ble_eq_true rfl) q_150 dX6_panelCountByFrames_10 ?_
  refine lv_iload_n hx hb dX6_panelCountByFrames_13 rfl (lv_at hl 1 rfl) ?_
  refine sw_ki (rest := []) (sw_runV (As := [.ref (sw_ad g (sw_st 0)), .int a1]) (rest := []) hx hb hml hown hts (kX2_countByFrames l g 0 (Nat.le_of_ble_eq_true rfl) a1 M _ h) cv_X2_countByFrames q_695 rfl rfl ⟨(Nat.le_of_ble_eq_true rfl), (Nat.le_of_ble_eq_true rfl)⟩ hW (Or.inl (Nat.le_of_ble_eq_true rfl)) sl_12 rfl rfl hl.1 rfl (Nat.le_of_ble_eq_true rfl) dX6_panelCountByFrames_14 ⟨(Nat.le_of_ble_eq_true rfl), (Nat.le_of_ble_eq_true rfl)⟩) hW (fun r1 M2 H locs h hW => ?_)
  refine vx_ret ?_
  exact sw_ri hx hb hr hlocks hW rfl h dX6_panelCountByFrames_17

theorem cv_X6_panelMember : sw_cV yX6_panelMember RX6 cX6_panelMember 3 (some .int) 2 := ⟨q_672, q_673, q_2, q_674, by decide +kernel⟩
def wX6_panelMember (a1 : Int32) (a2 : Int32) (M : sM) (Q : Int32 → Prop) (X : String → Prop) : Prop :=
  wX6_requireDoor a1 M ((a2 < 0 → (X "java/lang/IllegalArgumentException")) ∧ (¬ a2 < 0 → ((a2 < (3 : Int32) → (wX2_firstFor 0 a1 M (fun r3 => wX6_memberAt r3 a2 (fun r4 => wX6_requireThere r4 (fun r5 => Q r5) X)))) ∧ (¬ a2 < (3 : Int32) → (X "java/lang/IllegalArgumentException"))))) X
set_option maxRecDepth 20000 in
theorem kX6_panelMember (l : Launch) (hst : l.stackTraces = false) (g : sG) (a1 : Int32) (a2 : Int32) (M : sM) (Q : Int32 → Prop) (X : String → Prop) (h : wX6_panelMember a1 a2 M Q X) : vx_Met l yX6_panelMember (sw_ws yX6_panelMember cX6_panelMember 3 (some .int)) { frames := 7, cells := 2, slots := 12, locals := 116 } (va_Pc [.ref (sw_ad g 0), .int a1, .int a2] (sw_Pr g M)) (va_Qi (fun r M1 => Q r ∧ M1 = M) (sw_Po g) (sw_A g)) (sw_XC g (fun E M1 => X E ∧ M1 = M)) 2 12 (sw_A g) := by
  refine sw_xmet (by decide) (Nat.le_of_ble_eq_true rfl) ?_
  intro p e s m args below meth c ls hx hb hr hts hown hml hlocks hnt hW hl
  have hown : s.vm.findClass RX6 = some m.cls := hown
  have hl : lv_has ls 3 [(0, .ref (sw_ad g 0)), (1, .int a1), (2, .int a2)] := hl
  unfold wX6_panelMember at h
  refine lv_aload_n hx hb dX6_panelMember_0 rfl (lv_at hl 0 rfl) ?_
  refine lv_iload_n hx hb dX6_panelMember_1 rfl (lv_at hl 1 rfl) ?_
  refine sw_xkv (rest := []) (sw_xrunV (As := [.int a1]) (rest := []) hx hb hml hown hts (kX6_requireDoor l hst g a1 M _ _ h) cv_X6_requireDoor q_508 rfl rfl ⟨(Nat.le_of_ble_eq_true rfl), (Nat.le_of_ble_eq_true rfl)⟩ hW (Or.inl (Nat.le_of_ble_eq_true rfl)) sl_0 rfl rfl hl.1 rfl (Nat.le_of_ble_eq_true rfl) dX6_panelMember_2 ⟨(Nat.le_of_ble_eq_true rfl), (Nat.le_of_ble_eq_true rfl)⟩) hW (fun E9 ce9 q9 M9 H9 locs9 hX9 hW9 f1 f2 f3 => sw_xout hnt hlocks hX9 hW9 f1 f2 f3 (Nat.le_of_ble_eq_true rfl) (Nat.le_of_ble_eq_true rfl)) (fun  M9 H locs h hW => ?_)
  obtain ⟨h, eM9⟩ := h
  rw [eM9] at hW
  refine lv_iload_n hx hb dX6_panelMember_5 rfl (lv_at hl 2 rfl) ?_
  refine lv_if_lt (tgt := 14) hx hb dX6_panelMember_6 (by decide) (fun k1 => ?_) (fun k1 => ?_)
  · have h := h.1 k1
    exact sw_throw hx hb hst hown hts th_201 hW (hl.1.trans hml.symm) dX6_panelMember_14 dX6_panelMember_17 dX6_panelMember_18 dX6_panelMember_21 hnt (Nat.le_of_ble_eq_true rfl) (Nat.le_of_ble_eq_true rfl) (Nat.le_of_ble_eq_true rfl) (Nat.le_of_ble_eq_true rfl) hlocks ⟨h, rfl⟩ (Nat.le_of_ble_eq_true rfl) (Nat.le_of_ble_eq_true rfl)
  · have h := h.2 k1
    refine lv_iload_n hx hb dX6_panelMember_9 rfl (lv_at hl 2 rfl) ?_
    refine lv_iconst (v := 3) hx hb dX6_panelMember_10 (by decide) ?_
    refine lv_icmp_lt (tgt := 22) hx hb dX6_panelMember_11 (by decide) (fun k2 => ?_) (fun k2 => ?_)
    · have h := h.1 k2
      refine lv_aload_n hx hb dX6_panelMember_22 rfl (lv_at hl 0 rfl) ?_
      refine sw_gr (j := 5) (r := 12) hx hb hts hown hW rfl qf_6 (Or.inl (Nat.le_of_ble_eq_true rfl)) sl_0 rfl (Nat.le_of_ble_eq_true rfl) q_155 dX6_panelMember_23 ?_
      refine lv_aload_n hx hb dX6_panelMember_26 rfl (lv_at hl 0 rfl) ?_
      refine sw_gr (j := 0) (r := (sw_st 0)) hx hb hts hown hW rfl qf_6 (Or.inl (Nat.le_of_ble_eq_true rfl)) sl_0 rfl (Nat.le_of_ble_eq_true rfl) q_150 dX6_panelMember_27 ?_
      refine lv_iload_n hx hb dX6_panelMember_30 rfl (lv_at hl 1 rfl) ?_
      refine sw_ki (rest := []) (sw_runV (As := [.ref (sw_ad g (sw_st 0)), .int a1]) (rest := []) hx hb hml hown hts (kX2_firstFor l g 0 (Nat.le_of_ble_eq_true rfl) a1 M _ h) cv_X2_firstFor q_675 rfl rfl ⟨(Nat.le_of_ble_eq_true rfl), (Nat.le_of_ble_eq_true rfl)⟩ hW (Or.inl (Nat.le_of_ble_eq_true rfl)) sl_12 rfl rfl hl.1 rfl (Nat.le_of_ble_eq_true rfl) dX6_panelMember_31 ⟨(Nat.le_of_ble_eq_true rfl), (Nat.le_of_ble_eq_true rfl)⟩) hW (fun r3 M8 H locs h hW => ?_)
      obtain ⟨h, eM8⟩ := h
      rw [eM8] at hW
      refine lv_iload_n hx hb dX6_panelMember_34 rfl (lv_at hl 2 rfl) ?_
      refine sw_ki (rest := []) (sw_runS (As := [.int r3, .int a2]) (rest := []) hx hb hml hown hts (kX6_memberAt l g r3 a2 M _ h) cs_X6_memberAt q_676 rfl rfl ⟨(Nat.le_of_ble_eq_true rfl), (Nat.le_of_ble_eq_true rfl)⟩ hW rfl hl.1 rfl (Nat.le_of_ble_eq_true rfl) dX6_panelMember_35 ⟨(Nat.le_of_ble_eq_true rfl), (Nat.le_of_ble_eq_true rfl)⟩) hW (fun r4 M7 H locs h hW => ?_)
      obtain ⟨h, eM7⟩ := h
      rw [eM7] at hW
      refine sw_xki (rest := []) (sw_xrunS (As := [.int r4]) (rest := []) hx hb hml hown hts (kX6_requireThere l hst g r4 M _ _ h) cs_X6_requireThere q_520 rfl rfl ⟨(Nat.le_of_ble_eq_true rfl), (Nat.le_of_ble_eq_true rfl)⟩ hW rfl hl.1 rfl (Nat.le_of_ble_eq_true rfl) dX6_panelMember_38 ⟨(Nat.le_of_ble_eq_true rfl), (Nat.le_of_ble_eq_true rfl)⟩) hW (fun E9 ce9 q9 M9 H9 locs9 hX9 hW9 f1 f2 f3 => sw_xout hnt hlocks hX9 hW9 f1 f2 f3 (Nat.le_of_ble_eq_true rfl) (Nat.le_of_ble_eq_true rfl)) (fun r5 M6 H locs h hW => ?_)
      obtain ⟨h, eM6⟩ := h
      rw [eM6] at hW
      refine vx_ret ?_
      exact sw_ri hx hb hr hlocks hW rfl ⟨h, rfl⟩ dX6_panelMember_41
    · have h := h.2 k2
      exact sw_throw hx hb hst hown hts th_201 hW (hl.1.trans hml.symm) dX6_panelMember_14 dX6_panelMember_17 dX6_panelMember_18 dX6_panelMember_21 hnt (Nat.le_of_ble_eq_true rfl) (Nat.le_of_ble_eq_true rfl) (Nat.le_of_ble_eq_true rfl) (Nat.le_of_ble_eq_true rfl) hlocks ⟨h, rfl⟩ (Nat.le_of_ble_eq_true rfl) (Nat.le_of_ble_eq_true rfl)

theorem cv_X6_threshold : sw_cV yX6_threshold RX6 cX6_threshold 1 (some .int) 0 := ⟨q_527, q_528, q_2, q_529, by decide +kernel⟩
def wX6_threshold  (M : sM) (Q : Int32 → Prop) : Prop :=
  Q (M (sw_st 0) 14)
set_option maxRecDepth 20000 in
theorem kX6_threshold (l : Launch) (g : sG)  (M : sM) (Q : Int32 → Prop) (h : wX6_threshold  M Q) : Met l yX6_threshold (sw_ws yX6_threshold cX6_threshold 1 (some .int)) { frames := 0, cells := 0, slots := 0, locals := 0 } (va_Pc [.ref (sw_ad g 0)] (sw_Pr g M)) (va_Qi (fun r M1 => Q r ∧ M1 = M) (sw_Po g) (sw_A g)) 0 0 (sw_A g) := by
  refine sw_met (by decide) (Nat.le_of_ble_eq_true rfl) ?_
  intro p e s m args below meth c ls hx hb hr hts hown hml hlocks hW hl
  have hown : s.vm.findClass RX6 = some m.cls := hown
  have hl : lv_has ls 1 [(0, .ref (sw_ad g 0))] := hl
  unfold wX6_threshold at h
  refine lv_aload_n hx hb dX6_threshold_0 rfl (lv_at hl 0 rfl) ?_
  refine sw_gr (j := 0) (r := (sw_st 0)) hx hb hts hown hW rfl qf_6 (Or.inl (Nat.le_of_ble_eq_true rfl)) sl_0 rfl (Nat.le_of_ble_eq_true rfl) q_150 dX6_threshold_1 ?_
  refine sw_gi (j := 14) hx hb hts hown hW rfl qf_5 (sw_st_lt0 (Nat.le_of_ble_eq_true rfl)) (sw_lay_so 0) rfl (Nat.le_of_ble_eq_true rfl) q_88 dX6_threshold_4 ?_
  exact sw_ri hx hb hr hlocks hW rfl ⟨h, rfl⟩ dX6_threshold_7

theorem cv_X6_entryCount : sw_cV yX6_entryCount RX6 cX6_entryCount 1 (some .int) 0 := ⟨q_707, q_708, q_2, q_709, by decide +kernel⟩
def wX6_entryCount  (M : sM) (Q : Int32 → Prop) : Prop :=
  Q (M (sw_st 0) 15)
set_option maxRecDepth 20000 in
theorem kX6_entryCount (l : Launch) (g : sG)  (M : sM) (Q : Int32 → Prop) (h : wX6_entryCount  M Q) : Met l yX6_entryCount (sw_ws yX6_entryCount cX6_entryCount 1 (some .int)) { frames := 0, cells := 0, slots := 0, locals := 0 } (va_Pc [.ref (sw_ad g 0)] (sw_Pr g M)) (va_Qi (fun r M1 => Q r ∧ M1 = M) (sw_Po g) (sw_A g)) 0 0 (sw_A g) := by
  refine sw_met (by decide) (Nat.le_of_ble_eq_true rfl) ?_
  intro p e s m args below meth c ls hx hb hr hts hown hml hlocks hW hl
  have hown : s.vm.findClass RX6 = some m.cls := hown
  have hl : lv_has ls 1 [(0, .ref (sw_ad g 0))] := hl
  unfold wX6_entryCount at h
  refine lv_aload_n hx hb dX6_entryCount_0 rfl (lv_at hl 0 rfl) ?_
  refine sw_gr (j := 0) (r := (sw_st 0)) hx hb hts hown hW rfl qf_6 (Or.inl (Nat.le_of_ble_eq_true rfl)) sl_0 rfl (Nat.le_of_ble_eq_true rfl) q_150 dX6_entryCount_1 ?_
  refine sw_gi (j := 15) hx hb hts hown hW rfl qf_5 (sw_st_lt0 (Nat.le_of_ble_eq_true rfl)) (sw_lay_so 0) rfl (Nat.le_of_ble_eq_true rfl) q_90 dX6_entryCount_4 ?_
  exact sw_ri hx hb hr hlocks hW rfl ⟨h, rfl⟩ dX6_entryCount_7

theorem cv_X6_requireEntry : sw_cV yX6_requireEntry RX6 cX6_requireEntry 2 none 1 := ⟨q_717, q_1165, q_2, q_718, by decide +kernel⟩
def wX6_requireEntry (a1 : Int32) (M : sM) (Q : Prop) (X : String → Prop) : Prop :=
  wX5_hasEntry 0 a1 M (fun r1 => (r1 = 0 → (X "java/util/NoSuchElementException")) ∧ (¬ r1 = 0 → (Q)))
set_option maxRecDepth 20000 in
theorem kX6_requireEntry (l : Launch) (hst : l.stackTraces = false) (g : sG) (a1 : Int32) (M : sM) (Q : Prop) (X : String → Prop) (h : wX6_requireEntry a1 M Q X) : vx_Met l yX6_requireEntry (sw_ws yX6_requireEntry cX6_requireEntry 2 none) { frames := 6, cells := 1, slots := 6, locals := 95 } (va_Pc [.ref (sw_ad g 0), .int a1] (sw_Pr g M)) (va_Qv (fun M1 => Q ∧ M1 = M) (sw_Po g) (sw_A g)) (sw_XC g (fun E M1 => X E ∧ M1 = M)) 1 6 (sw_A g) := by
  refine sw_xmet (by decide) (Nat.le_of_ble_eq_true rfl) ?_
  intro p e s m args below meth c ls hx hb hr hts hown hml hlocks hnt hW hl
  have hown : s.vm.findClass RX6 = some m.cls := hown
  have hl : lv_has ls 2 [(0, .ref (sw_ad g 0)), (1, .int a1)] := hl
  unfold wX6_requireEntry at h
  refine lv_aload_n hx hb dX6_requireEntry_0 rfl (lv_at hl 0 rfl) ?_
  refine sw_gr (j := 0) (r := (sw_st 0)) hx hb hts hown hW rfl qf_6 (Or.inl (Nat.le_of_ble_eq_true rfl)) sl_0 rfl (Nat.le_of_ble_eq_true rfl) q_150 dX6_requireEntry_1 ?_
  refine lv_iload_n hx hb dX6_requireEntry_4 rfl (lv_at hl 1 rfl) ?_
  refine sw_ki (rest := []) (sw_runV (As := [.int a1]) (rest := []) hx hb hml hown hts (kX5_hasEntry l g 0 (Nat.le_of_ble_eq_true rfl) a1 M _ h) cv_X5_hasEntry q_719 rfl rfl ⟨(Nat.le_of_ble_eq_true rfl), (Nat.le_of_ble_eq_true rfl)⟩ hW (sw_st_lt0 (Nat.le_of_ble_eq_true rfl)) (sw_lay_so 0) rfl rfl hl.1 rfl (Nat.le_of_ble_eq_true rfl) dX6_requireEntry_5 ⟨(Nat.le_of_ble_eq_true rfl), (Nat.le_of_ble_eq_true rfl)⟩) hW (fun r1 M3 H locs h hW => ?_)
  obtain ⟨h, eM3⟩ := h
  rw [eM3] at hW
  refine lv_if_ne (tgt := 19) hx hb dX6_requireEntry_8 (by decide) (fun k2 => ?_) (fun k2 => ?_)
  · have h := h.2 k2
    refine W.widen (k := 1) (n := 6) (Nat.le_of_ble_eq_true rfl) (Nat.le_of_ble_eq_true rfl) ?_
    refine vx_ret ?_
    exact sw_rv hx hb hr hlocks hW ⟨h, rfl⟩ dX6_requireEntry_19
  · have h := h.1 k2
    exact sw_throw hx hb hst hown hts th_319 hW (hl.1.trans hml.symm) dX6_requireEntry_11 dX6_requireEntry_14 dX6_requireEntry_15 dX6_requireEntry_18 hnt (Nat.le_of_ble_eq_true rfl) (Nat.le_of_ble_eq_true rfl) (Nat.le_of_ble_eq_true rfl) (Nat.le_of_ble_eq_true rfl) hlocks ⟨h, rfl⟩ (Nat.le_of_ble_eq_true rfl) (Nat.le_of_ble_eq_true rfl)

theorem cv_X6_doorOf : sw_cV yX6_doorOf RX6 cX6_doorOf 2 (some .int) 1 := ⟨q_713, q_714, q_2, q_715, by decide +kernel⟩
def wX6_doorOf (a1 : Int32) (M : sM) (Q : Int32 → Prop) (X : String → Prop) : Prop :=
  wX6_requireEntry a1 M (vp_in (a1 - (1 : Int32)) 8 ∧ (Q (M (sw_st 0 + 9) ((a1 - (1 : Int32))).toNatClampNeg))) X
set_option maxRecDepth 20000 in
theorem kX6_doorOf (l : Launch) (hst : l.stackTraces = false) (g : sG) (a1 : Int32) (M : sM) (Q : Int32 → Prop) (X : String → Prop) (h : wX6_doorOf a1 M Q X) : vx_Met l yX6_doorOf (sw_ws yX6_doorOf cX6_doorOf 2 (some .int)) { frames := 7, cells := 1, slots := 6, locals := 116 } (va_Pc [.ref (sw_ad g 0), .int a1] (sw_Pr g M)) (va_Qi (fun r M1 => Q r ∧ M1 = M) (sw_Po g) (sw_A g)) (sw_XC g (fun E M1 => X E ∧ M1 = M)) 1 6 (sw_A g) := by
  refine sw_xmet (by decide) (Nat.le_of_ble_eq_true rfl) ?_
  intro p e s m args below meth c ls hx hb hr hts hown hml hlocks hnt hW hl
  have hown : s.vm.findClass RX6 = some m.cls := hown
  have hl : lv_has ls 2 [(0, .ref (sw_ad g 0)), (1, .int a1)] := hl
  unfold wX6_doorOf at h
  refine lv_aload_n hx hb dX6_doorOf_0 rfl (lv_at hl 0 rfl) ?_
  refine lv_iload_n hx hb dX6_doorOf_1 rfl (lv_at hl 1 rfl) ?_
  refine sw_xkv (rest := []) (sw_xrunV (As := [.int a1]) (rest := []) hx hb hml hown hts (kX6_requireEntry l hst g a1 M _ _ h) cv_X6_requireEntry q_716 rfl rfl ⟨(Nat.le_of_ble_eq_true rfl), (Nat.le_of_ble_eq_true rfl)⟩ hW (Or.inl (Nat.le_of_ble_eq_true rfl)) sl_0 rfl rfl hl.1 rfl (Nat.le_of_ble_eq_true rfl) dX6_doorOf_2 ⟨(Nat.le_of_ble_eq_true rfl), (Nat.le_of_ble_eq_true rfl)⟩) hW (fun E9 ce9 q9 M9 H9 locs9 hX9 hW9 f1 f2 f3 => sw_xout hnt hlocks hX9 hW9 f1 f2 f3 (Nat.le_of_ble_eq_true rfl) (Nat.le_of_ble_eq_true rfl)) (fun  M2 H locs h hW => ?_)
  obtain ⟨h, eM2⟩ := h
  rw [eM2] at hW
  refine lv_aload_n hx hb dX6_doorOf_5 rfl (lv_at hl 0 rfl) ?_
  refine sw_gr (j := 0) (r := (sw_st 0)) hx hb hts hown hW rfl qf_6 (Or.inl (Nat.le_of_ble_eq_true rfl)) sl_0 rfl (Nat.le_of_ble_eq_true rfl) q_150 dX6_doorOf_6 ?_
  refine sw_gr (j := 16) (r := (sw_st 0 + 9)) hx hb hts hown hW rfl qf_5 (sw_st_lt0 (Nat.le_of_ble_eq_true rfl)) (sw_lay_so 0) rfl (Nat.le_of_ble_eq_true rfl) q_92 dX6_doorOf_9 ?_
  refine lv_iload_n hx hb dX6_doorOf_12 rfl (lv_at hl 1 rfl) ?_
  refine lv_iconst (v := 1) hx hb dX6_doorOf_13 (by decide) ?_
  refine lv_isub hx hb dX6_doorOf_14 ?_
  have b1 := h.1
  have h := h.2
  refine sw_ia (n := 8) hx hb hW (sw_st_lt (Nat.le_of_ble_eq_true rfl) (Nat.le_of_ble_eq_true rfl)) (sw_lay_s 0 9 (Nat.le_of_ble_eq_true rfl)) b1 dX6_doorOf_15 ?_
  refine vx_ret ?_
  exact sw_ri hx hb hr hlocks hW rfl ⟨h, rfl⟩ dX6_doorOf_16

theorem cv_X6_isRevoked : sw_cV yX6_isRevoked RX6 cX6_isRevoked 2 (some .boolean) 1 := ⟨q_726, q_727, q_2, q_728, by decide +kernel⟩
def wX6_isRevoked (a1 : Int32) (M : sM) (Q : Int32 → Prop) (X : String → Prop) : Prop :=
  wX6_requireEntry a1 M (wX6_contains (M (sw_st 0) 2) a1 (fun r1 => narrow .boolean (.int r1) = .int r1 ∧ (Q r1))) X
set_option maxRecDepth 20000 in
theorem kX6_isRevoked (l : Launch) (hst : l.stackTraces = false) (g : sG) (a1 : Int32) (M : sM) (Q : Int32 → Prop) (X : String → Prop) (h : wX6_isRevoked a1 M Q X) : vx_Met l yX6_isRevoked (sw_ws yX6_isRevoked cX6_isRevoked 2 (some .boolean)) { frames := 7, cells := 1, slots := 6, locals := 116 } (va_Pc [.ref (sw_ad g 0), .int a1] (sw_Pr g M)) (va_Qi (fun r M1 => Q r ∧ M1 = M) (sw_Po g) (sw_A g)) (sw_XC g (fun E M1 => X E ∧ M1 = M)) 1 6 (sw_A g) := by
  refine sw_xmet (by decide) (Nat.le_of_ble_eq_true rfl) ?_
  intro p e s m args below meth c ls hx hb hr hts hown hml hlocks hnt hW hl
  have hown : s.vm.findClass RX6 = some m.cls := hown
  have hl : lv_has ls 2 [(0, .ref (sw_ad g 0)), (1, .int a1)] := hl
  unfold wX6_isRevoked at h
  refine lv_aload_n hx hb dX6_isRevoked_0 rfl (lv_at hl 0 rfl) ?_
  refine lv_iload_n hx hb dX6_isRevoked_1 rfl (lv_at hl 1 rfl) ?_
  refine sw_xkv (rest := []) (sw_xrunV (As := [.int a1]) (rest := []) hx hb hml hown hts (kX6_requireEntry l hst g a1 M _ _ h) cv_X6_requireEntry q_716 rfl rfl ⟨(Nat.le_of_ble_eq_true rfl), (Nat.le_of_ble_eq_true rfl)⟩ hW (Or.inl (Nat.le_of_ble_eq_true rfl)) sl_0 rfl rfl hl.1 rfl (Nat.le_of_ble_eq_true rfl) dX6_isRevoked_2 ⟨(Nat.le_of_ble_eq_true rfl), (Nat.le_of_ble_eq_true rfl)⟩) hW (fun E9 ce9 q9 M9 H9 locs9 hX9 hW9 f1 f2 f3 => sw_xout hnt hlocks hX9 hW9 f1 f2 f3 (Nat.le_of_ble_eq_true rfl) (Nat.le_of_ble_eq_true rfl)) (fun  M3 H locs h hW => ?_)
  obtain ⟨h, eM3⟩ := h
  rw [eM3] at hW
  refine lv_aload_n hx hb dX6_isRevoked_5 rfl (lv_at hl 0 rfl) ?_
  refine sw_gr (j := 0) (r := (sw_st 0)) hx hb hts hown hW rfl qf_6 (Or.inl (Nat.le_of_ble_eq_true rfl)) sl_0 rfl (Nat.le_of_ble_eq_true rfl) q_150 dX6_isRevoked_6 ?_
  refine sw_gi (j := 2) hx hb hts hown hW rfl qf_5 (sw_st_lt0 (Nat.le_of_ble_eq_true rfl)) (sw_lay_so 0) rfl (Nat.le_of_ble_eq_true rfl) q_55 dX6_isRevoked_9 ?_
  refine lv_iload_n hx hb dX6_isRevoked_12 rfl (lv_at hl 1 rfl) ?_
  refine sw_ki (rest := []) (sw_runS (As := [.int (M (sw_st 0) 2), .int a1]) (rest := []) hx hb hml hown hts (kX6_contains l g (M (sw_st 0) 2) a1 M _ h) cs_X6_contains q_569 rfl rfl ⟨(Nat.le_of_ble_eq_true rfl), (Nat.le_of_ble_eq_true rfl)⟩ hW rfl hl.1 rfl (Nat.le_of_ble_eq_true rfl) dX6_isRevoked_13 ⟨(Nat.le_of_ble_eq_true rfl), (Nat.le_of_ble_eq_true rfl)⟩) hW (fun r1 M2 H locs h hW => ?_)
  obtain ⟨h, eM2⟩ := h
  rw [eM2] at hW
  refine vx_ret ?_
  exact sw_ri hx hb hr hlocks hW h.1 ⟨h.2, rfl⟩ dX6_isRevoked_16

def lX6_assignments_4 (M : sM) (K4 : Int32 → Prop) : Nat → Int32 → Int32 → Prop
  | 0, _, _ => False
  | n4 + 1, x1_4, x2_4 => ((M (sw_st 0) 6) ≤ x2_4 → (K4 x1_4)) ∧ (¬ (M (sw_st 0) 6) ≤ x2_4 → (wX5_loadOf 0 x2_4 M (fun r2 => ∀ v3 : Int32, v3 = (x1_4 + r2) → (∀ v4 : Int32, v4 = x2_4 + (1 : Int32) → ((fun x1_4 x2_4 => lX6_assignments_4 M K4 n4 x1_4 x2_4) v3 v4)))))
theorem cv_X6_assignments : sw_cV yX6_assignments RX6 cX6_assignments 3 (some .int) 0 := ⟨q_750, q_751, q_2, q_752, by decide +kernel⟩
def wX6_assignments  (M : sM) (Q : Int32 → Prop) : Prop :=
  ∃ n4, lX6_assignments_4 M (fun x1_4k => Q x1_4k) n4 (0 : Int32) (0 : Int32)
set_option maxRecDepth 20000 in
theorem kX6_assignments (l : Launch) (g : sG)  (M : sM) (Q : Int32 → Prop) (h : wX6_assignments  M Q) : Met l yX6_assignments (sw_ws yX6_assignments cX6_assignments 3 (some .int)) { frames := 2, cells := 0, slots := 0, locals := 41 } (va_Pc [.ref (sw_ad g 0)] (sw_Pr g M)) (va_Qi (fun r M1 => Q r ∧ M1 = M) (sw_Po g) (sw_A g)) 0 0 (sw_A g) := by
  refine sw_met (by decide) (Nat.le_of_ble_eq_true rfl) ?_
  intro p e s m args below meth c ls hx hb hr hts hown hml hlocks hW hl
  have hown : s.vm.findClass RX6 = some m.cls := hown
  have hl : lv_has ls 3 [(0, .ref (sw_ad g 0))] := hl
  unfold wX6_assignments at h
  refine lv_iconst (v := 0) hx hb dX6_assignments_0 (by decide) ?_
  refine lv_istore_n (lv' := [(1, .int (0 : Int32)), (0, .ref (sw_ad g 0))]) hx hb dX6_assignments_1 rfl hl (Nat.le_of_ble_eq_true rfl) rfl (fun ls hl => ?_)
  refine lv_iconst (v := 0) hx hb dX6_assignments_2 (by decide) ?_
  refine lv_istore_n (lv' := [(2, .int (0 : Int32)), (1, .int (0 : Int32)), (0, .ref (sw_ad g 0))]) hx hb dX6_assignments_3 rfl hl (Nat.le_of_ble_eq_true rfl) rfl (fun ls hl => ?_)
  obtain ⟨n4, h⟩ := h
  refine sw_lp_ii (hd := 4) (Lf := fun x1_4 x2_4 => [(0, .ref (sw_ad g 0)), (1, .int x1_4), (2, .int x2_4)]) h hW (lv_sub hl [2, 1, 0] rfl) (fun _ _ h => h) (fun n4 ih4 x1_4 x2_4 H locs ls h hW hl => ?_)
  rw [lX6_assignments_4.eq_2] at h
  refine lv_iload_n hx hb dX6_assignments_4 rfl (lv_at hl 2 rfl) ?_
  refine lv_aload_n hx hb dX6_assignments_5 rfl (lv_at hl 0 rfl) ?_
  refine sw_gr (j := 0) (r := (sw_st 0)) hx hb hts hown hW rfl qf_6 (Or.inl (Nat.le_of_ble_eq_true rfl)) sl_0 rfl (Nat.le_of_ble_eq_true rfl) q_150 dX6_assignments_6 ?_
  refine sw_gi (j := 6) hx hb hts hown hW rfl qf_5 (sw_st_lt0 (Nat.le_of_ble_eq_true rfl)) (sw_lay_so 0) rfl (Nat.le_of_ble_eq_true rfl) q_69 dX6_assignments_9 ?_
  refine lv_icmp_ge (tgt := 32) hx hb dX6_assignments_12 (by decide) (fun k1 => ?_) (fun k1 => ?_)
  · have h := h.1 k1
    refine lv_iload_n hx hb dX6_assignments_32 rfl (lv_at hl 1 rfl) ?_
    exact sw_ri hx hb hr hlocks hW rfl ⟨h, rfl⟩ dX6_assignments_33
  · have h := h.2 k1
    refine lv_iload_n hx hb dX6_assignments_15 rfl (lv_at hl 1 rfl) ?_
    refine lv_aload_n hx hb dX6_assignments_16 rfl (lv_at hl 0 rfl) ?_
    refine sw_gr (j := 0) (r := (sw_st 0)) hx hb hts hown hW rfl qf_6 (Or.inl (Nat.le_of_ble_eq_true rfl)) sl_0 rfl (Nat.le_of_ble_eq_true rfl) q_150 dX6_assignments_17 ?_
    refine lv_iload_n hx hb dX6_assignments_20 rfl (lv_at hl 2 rfl) ?_
    refine sw_ki (rest := [.int x1_4]) (sw_runV (As := [.int x2_4]) (rest := [.int x1_4]) hx hb hml hown hts (kX5_loadOf l g 0 (Nat.le_of_ble_eq_true rfl) x2_4 M _ h) cv_X5_loadOf q_637 rfl rfl ⟨(Nat.le_of_ble_eq_true rfl), (Nat.le_of_ble_eq_true rfl)⟩ hW (sw_st_lt0 (Nat.le_of_ble_eq_true rfl)) (sw_lay_so 0) rfl rfl hl.1 rfl (Nat.le_of_ble_eq_true rfl) dX6_assignments_21 ⟨(Nat.le_of_ble_eq_true rfl), (Nat.le_of_ble_eq_true rfl)⟩) hW (fun r2 M5 H locs h hW => ?_)
    obtain ⟨h, eM5⟩ := h
    rw [eM5] at hW
    refine lv_iadd hx hb dX6_assignments_24 ?_
    refine lv_topi (fun v3 ev3 => ?_)
    have h := h v3 ev3
    refine lv_istore_n (lv' := [(1, .int v3), (0, .ref (sw_ad g 0)), (2, .int x2_4)]) hx hb dX6_assignments_25 rfl hl (Nat.le_of_ble_eq_true rfl) rfl (fun ls hl => ?_)
    obtain ⟨v4, ev4⟩ : ∃ z : Int32, z = x2_4 + (1 : Int32) := ⟨_, rfl⟩
    have h := h v4 ev4
    refine lv_iinc (v := v4) (lv' := [(2, .int v4), (1, .int v3), (0, .ref (sw_ad g 0))]) hx hb dX6_assignments_26 hl (k := 2) rfl (by rw [ev4]; rfl) (Nat.le_of_ble_eq_true rfl) rfl (fun ls hl => ?_)
    refine lv_goto (tgt := 4) hx hb dX6_assignments_29 (by decide) ?_
    exact ih4 _ _ _ _ _ h hW (lv_sub hl [2, 1, 0] rfl)

def lX6_assignmentsByDoors_4 (M : sM) (K4 : Int32 → Prop) : Nat → Int32 → Int32 → Prop
  | 0, _, _ => False
  | n4 + 1, x1_4, x2_4 => ((M (sw_st 0) 3) ≤ x2_4 → (K4 x1_4)) ∧ (¬ (M (sw_st 0) 3) ≤ x2_4 → (wX5_assignedCount 0 x2_4 M (fun r2 => ∀ v3 : Int32, v3 = (x1_4 + r2) → (∀ v4 : Int32, v4 = x2_4 + (1 : Int32) → ((fun x1_4 x2_4 => lX6_assignmentsByDoors_4 M K4 n4 x1_4 x2_4) v3 v4)))))
theorem cv_X6_assignmentsByDoors : sw_cV yX6_assignmentsByDoors RX6 cX6_assignmentsByDoors 3 (some .int) 0 := ⟨q_754, q_755, q_2, q_756, by decide +kernel⟩
def wX6_assignmentsByDoors  (M : sM) (Q : Int32 → Prop) : Prop :=
  ∃ n4, lX6_assignmentsByDoors_4 M (fun x1_4k => Q x1_4k) n4 (0 : Int32) (0 : Int32)
set_option maxRecDepth 20000 in
theorem kX6_assignmentsByDoors (l : Launch) (g : sG)  (M : sM) (Q : Int32 → Prop) (h : wX6_assignmentsByDoors  M Q) : Met l yX6_assignmentsByDoors (sw_ws yX6_assignmentsByDoors cX6_assignmentsByDoors 3 (some .int)) { frames := 2, cells := 0, slots := 0, locals := 45 } (va_Pc [.ref (sw_ad g 0)] (sw_Pr g M)) (va_Qi (fun r M1 => Q r ∧ M1 = M) (sw_Po g) (sw_A g)) 0 0 (sw_A g) := by
  refine sw_met (by decide) (Nat.le_of_ble_eq_true rfl) ?_
  intro p e s m args below meth c ls hx hb hr hts hown hml hlocks hW hl
  have hown : s.vm.findClass RX6 = some m.cls := hown
  have hl : lv_has ls 3 [(0, .ref (sw_ad g 0))] := hl
  unfold wX6_assignmentsByDoors at h
  refine lv_iconst (v := 0) hx hb dX6_assignmentsByDoors_0 (by decide) ?_
  refine lv_istore_n (lv' := [(1, .int (0 : Int32)), (0, .ref (sw_ad g 0))]) hx hb dX6_assignmentsByDoors_1 rfl hl (Nat.le_of_ble_eq_true rfl) rfl (fun ls hl => ?_)
  refine lv_iconst (v := 0) hx hb dX6_assignmentsByDoors_2 (by decide) ?_
  refine lv_istore_n (lv' := [(2, .int (0 : Int32)), (1, .int (0 : Int32)), (0, .ref (sw_ad g 0))]) hx hb dX6_assignmentsByDoors_3 rfl hl (Nat.le_of_ble_eq_true rfl) rfl (fun ls hl => ?_)
  obtain ⟨n4, h⟩ := h
  refine sw_lp_ii (hd := 4) (Lf := fun x1_4 x2_4 => [(0, .ref (sw_ad g 0)), (1, .int x1_4), (2, .int x2_4)]) h hW (lv_sub hl [2, 1, 0] rfl) (fun _ _ h => h) (fun n4 ih4 x1_4 x2_4 H locs ls h hW hl => ?_)
  rw [lX6_assignmentsByDoors_4.eq_2] at h
  refine lv_iload_n hx hb dX6_assignmentsByDoors_4 rfl (lv_at hl 2 rfl) ?_
  refine lv_aload_n hx hb dX6_assignmentsByDoors_5 rfl (lv_at hl 0 rfl) ?_
  refine sw_gr (j := 0) (r := (sw_st 0)) hx hb hts hown hW rfl qf_6 (Or.inl (Nat.le_of_ble_eq_true rfl)) sl_0 rfl (Nat.le_of_ble_eq_true rfl) q_150 dX6_assignmentsByDoors_6 ?_
  refine sw_gi (j := 3) hx hb hts hown hW rfl qf_5 (sw_st_lt0 (Nat.le_of_ble_eq_true rfl)) (sw_lay_so 0) rfl (Nat.le_of_ble_eq_true rfl) q_58 dX6_assignmentsByDoors_9 ?_
  refine lv_icmp_ge (tgt := 32) hx hb dX6_assignmentsByDoors_12 (by decide) (fun k1 => ?_) (fun k1 => ?_)
  · have h := h.1 k1
    refine lv_iload_n hx hb dX6_assignmentsByDoors_32 rfl (lv_at hl 1 rfl) ?_
    exact sw_ri hx hb hr hlocks hW rfl ⟨h, rfl⟩ dX6_assignmentsByDoors_33
  · have h := h.2 k1
    refine lv_iload_n hx hb dX6_assignmentsByDoors_15 rfl (lv_at hl 1 rfl) ?_
    refine lv_aload_n hx hb dX6_assignmentsByDoors_16 rfl (lv_at hl 0 rfl) ?_
    refine sw_gr (j := 0) (r := (sw_st 0)) hx hb hts hown hW rfl qf_6 (Or.inl (Nat.le_of_ble_eq_true rfl)) sl_0 rfl (Nat.le_of_ble_eq_true rfl) q_150 dX6_assignmentsByDoors_17 ?_
    refine lv_iload_n hx hb dX6_assignmentsByDoors_20 rfl (lv_at hl 2 rfl) ?_
    refine sw_ki (rest := [.int x1_4]) (sw_runV (As := [.int x2_4]) (rest := [.int x1_4]) hx hb hml hown hts (kX5_assignedCount l g 0 (Nat.le_of_ble_eq_true rfl) x2_4 M _ h) cv_X5_assignedCount q_536 rfl rfl ⟨(Nat.le_of_ble_eq_true rfl), (Nat.le_of_ble_eq_true rfl)⟩ hW (sw_st_lt0 (Nat.le_of_ble_eq_true rfl)) (sw_lay_so 0) rfl rfl hl.1 rfl (Nat.le_of_ble_eq_true rfl) dX6_assignmentsByDoors_21 ⟨(Nat.le_of_ble_eq_true rfl), (Nat.le_of_ble_eq_true rfl)⟩) hW (fun r2 M5 H locs h hW => ?_)
    obtain ⟨h, eM5⟩ := h
    rw [eM5] at hW
    refine lv_iadd hx hb dX6_assignmentsByDoors_24 ?_
    refine lv_topi (fun v3 ev3 => ?_)
    have h := h v3 ev3
    refine lv_istore_n (lv' := [(1, .int v3), (0, .ref (sw_ad g 0)), (2, .int x2_4)]) hx hb dX6_assignmentsByDoors_25 rfl hl (Nat.le_of_ble_eq_true rfl) rfl (fun ls hl => ?_)
    obtain ⟨v4, ev4⟩ : ∃ z : Int32, z = x2_4 + (1 : Int32) := ⟨_, rfl⟩
    have h := h v4 ev4
    refine lv_iinc (v := v4) (lv' := [(2, .int v4), (1, .int v3), (0, .ref (sw_ad g 0))]) hx hb dX6_assignmentsByDoors_26 hl (k := 2) rfl (by rw [ev4]; rfl) (Nat.le_of_ble_eq_true rfl) rfl (fun ls hl => ?_)
    refine lv_goto (tgt := 4) hx hb dX6_assignmentsByDoors_29 (by decide) ?_
    exact ih4 _ _ _ _ _ h hW (lv_sub hl [2, 1, 0] rfl)

def lX6_gradeTotal_4 (M : sM) (K4 : Int64 → Prop) : Nat → Int64 → Int32 → Prop
  | 0, _, _ => False
  | n4 + 1, x1_4, x3_4 => ((M (sw_st 0) 3) ≤ x3_4 → (K4 x1_4)) ∧ (¬ (M (sw_st 0) 3) ≤ x3_4 → (wX5_gradeSum 0 x3_4 M (fun r3 => ∀ v4 : Int64, v4 = (x1_4 + (r3).toInt64) → (∀ v5 : Int32, v5 = x3_4 + (1 : Int32) → ((fun x1_4 x3_4 => lX6_gradeTotal_4 M K4 n4 x1_4 x3_4) v4 v5)))))
theorem cv_X6_gradeTotal : sw_cV yX6_gradeTotal RX6 cX6_gradeTotal 4 (some .long) 0 := ⟨q_741, q_742, q_2, q_743, by decide +kernel⟩
def wX6_gradeTotal  (M : sM) (Q : Int64 → Prop) : Prop :=
  ∀ v1 : Int64, v1 = (0 : Int64) → (∃ n4, lX6_gradeTotal_4 M (fun x1_4k => Q x1_4k) n4 v1 (0 : Int32))
set_option maxRecDepth 20000 in
theorem kX6_gradeTotal (l : Launch) (g : sG)  (M : sM) (Q : Int64 → Prop) (h : wX6_gradeTotal  M Q) : Met l yX6_gradeTotal (sw_ws yX6_gradeTotal cX6_gradeTotal 4 (some .long)) { frames := 1, cells := 0, slots := 0, locals := 23 } (va_Pc [.ref (sw_ad g 0)] (sw_Pr g M)) (va_Ql (fun r M1 => Q r ∧ M1 = M) (sw_Po g) (sw_A g)) 0 0 (sw_A g) := by
  refine sw_met (by decide) (Nat.le_of_ble_eq_true rfl) ?_
  intro p e s m args below meth c ls hx hb hr hts hown hml hlocks hW hl
  have hown : s.vm.findClass RX6 = some m.cls := hown
  have hl : lv_has ls 4 [(0, .ref (sw_ad g 0))] := hl
  unfold wX6_gradeTotal at h
  refine lv_lconst (v := 0) hx hb dX6_gradeTotal_0 (by decide) ?_
  refine lv_topl (fun v1 ev1 => ?_)
  have h := h v1 ev1
  refine lv_lstore_n (lv' := [(1, .long v1), (0, .ref (sw_ad g 0))]) hx hb dX6_gradeTotal_1 rfl hl (Nat.le_of_ble_eq_true rfl) rfl (fun ls hl => ?_)
  refine lv_iconst (v := 0) hx hb dX6_gradeTotal_2 (by decide) ?_
  refine lv_istore_n (lv' := [(3, .int (0 : Int32)), (1, .long v1), (0, .ref (sw_ad g 0))]) hx hb dX6_gradeTotal_3 rfl hl (Nat.le_of_ble_eq_true rfl) rfl (fun ls hl => ?_)
  obtain ⟨n4, h⟩ := h
  refine sw_lp_li (hd := 4) (Lf := fun x1_4 x3_4 => [(0, .ref (sw_ad g 0)), (1, .long x1_4), (3, .int x3_4)]) h hW (lv_sub hl [2, 1, 0] rfl) (fun _ _ h => h) (fun n4 ih4 x1_4 x3_4 H locs ls h hW hl => ?_)
  rw [lX6_gradeTotal_4.eq_2] at h
  refine lv_iload_n hx hb dX6_gradeTotal_4 rfl (lv_at hl 2 rfl) ?_
  refine lv_aload_n hx hb dX6_gradeTotal_5 rfl (lv_at hl 0 rfl) ?_
  refine sw_gr (j := 0) (r := (sw_st 0)) hx hb hts hown hW rfl qf_6 (Or.inl (Nat.le_of_ble_eq_true rfl)) sl_0 rfl (Nat.le_of_ble_eq_true rfl) q_150 dX6_gradeTotal_6 ?_
  refine sw_gi (j := 3) hx hb hts hown hW rfl qf_5 (sw_st_lt0 (Nat.le_of_ble_eq_true rfl)) (sw_lay_so 0) rfl (Nat.le_of_ble_eq_true rfl) q_58 dX6_gradeTotal_9 ?_
  refine lv_icmp_ge (tgt := 33) hx hb dX6_gradeTotal_12 (by decide) (fun k2 => ?_) (fun k2 => ?_)
  · have h := h.1 k2
    refine lv_lload_n hx hb dX6_gradeTotal_33 rfl (lv_at hl 1 rfl) ?_
    exact sw_rl hx hb hr hlocks hW ⟨h, rfl⟩ dX6_gradeTotal_34
  · have h := h.2 k2
    refine lv_lload_n hx hb dX6_gradeTotal_15 rfl (lv_at hl 1 rfl) ?_
    refine lv_aload_n hx hb dX6_gradeTotal_16 rfl (lv_at hl 0 rfl) ?_
    refine sw_gr (j := 0) (r := (sw_st 0)) hx hb hts hown hW rfl qf_6 (Or.inl (Nat.le_of_ble_eq_true rfl)) sl_0 rfl (Nat.le_of_ble_eq_true rfl) q_150 dX6_gradeTotal_17 ?_
    refine lv_iload_n hx hb dX6_gradeTotal_20 rfl (lv_at hl 2 rfl) ?_
    refine sw_ki (rest := [.long x1_4]) (sw_runV (As := [.int x3_4]) (rest := [.long x1_4]) hx hb hml hown hts (kX5_gradeSum l g 0 (Nat.le_of_ble_eq_true rfl) x3_4 M _ h) cv_X5_gradeSum q_744 rfl rfl ⟨(Nat.le_of_ble_eq_true rfl), (Nat.le_of_ble_eq_true rfl)⟩ hW (sw_st_lt0 (Nat.le_of_ble_eq_true rfl)) (sw_lay_so 0) rfl rfl hl.1 rfl (Nat.le_of_ble_eq_true rfl) dX6_gradeTotal_21 ⟨(Nat.le_of_ble_eq_true rfl), (Nat.le_of_ble_eq_true rfl)⟩) hW (fun r3 M6 H locs h hW => ?_)
    obtain ⟨h, eM6⟩ := h
    rw [eM6] at hW
    refine lv_i2l hx hb dX6_gradeTotal_24 rfl ?_
    refine lv_ladd hx hb dX6_gradeTotal_25 ?_
    refine lv_topl (fun v4 ev4 => ?_)
    have h := h v4 ev4
    refine lv_lstore_n (lv' := [(1, .long v4), (0, .ref (sw_ad g 0)), (3, .int x3_4)]) hx hb dX6_gradeTotal_26 rfl hl (Nat.le_of_ble_eq_true rfl) rfl (fun ls hl => ?_)
    obtain ⟨v5, ev5⟩ : ∃ z : Int32, z = x3_4 + (1 : Int32) := ⟨_, rfl⟩
    have h := h v5 ev5
    refine lv_iinc (v := v5) (lv' := [(3, .int v5), (1, .long v4), (0, .ref (sw_ad g 0))]) hx hb dX6_gradeTotal_27 hl (k := 2) rfl (by rw [ev5]; rfl) (Nat.le_of_ble_eq_true rfl) rfl (fun ls hl => ?_)
    refine lv_goto (tgt := 4) hx hb dX6_gradeTotal_30 (by decide) ?_
    exact ih4 _ _ _ _ _ h hW (lv_sub hl [2, 1, 0] rfl)

def lX6_meanGrade_4 (M : sM) (K4 : Int32 → Prop) : Nat → Int32 → Int32 → Prop
  | 0, _, _ => False
  | n4 + 1, x1_4, x2_4 => ((M (sw_st 0) 3) ≤ x2_4 → (K4 x1_4)) ∧ (¬ (M (sw_st 0) 3) ≤ x2_4 → (wX5_gradeCount 0 x2_4 M (fun r10 => ∀ v11 : Int32, v11 = (x1_4 + r10) → (∀ v12 : Int32, v12 = x2_4 + (1 : Int32) → ((fun x1_4 x2_4 => lX6_meanGrade_4 M K4 n4 x1_4 x2_4) v11 v12)))))
theorem cv_X6_meanGrade : sw_cV yX6_meanGrade RX6 cX6_meanGrade 3 (some .double) 0 := ⟨q_730, q_731, q_2, q_732, by decide +kernel⟩
def wX6_meanGrade  (M : sM) (Q : UInt64 → Prop) (X : String → Prop) : Prop :=
  ∃ n4, lX6_meanGrade_4 M (fun x1_4k => (x1_4k = 0 → (X "java/lang/ArithmeticException")) ∧ (¬ x1_4k = 0 → (wX6_gradeTotal M (fun r2 => vf_n64 (FP.ddiv (FP.l2d r2) (FP.i2d x1_4k)) ∧ (Q (FP.ddiv (FP.l2d r2) (FP.i2d x1_4k))))))) n4 (0 : Int32) (0 : Int32)
set_option maxRecDepth 20000 in
theorem kX6_meanGrade (l : Launch) (hst : l.stackTraces = false) (g : sG)  (M : sM) (Q : UInt64 → Prop) (X : String → Prop) (h : wX6_meanGrade  M Q X) : vx_Met l yX6_meanGrade (sw_ws yX6_meanGrade cX6_meanGrade 3 (some .double)) { frames := 6, cells := 1, slots := 6, locals := 95 } (va_Pc [.ref (sw_ad g 0)] (sw_Pr g M)) (va_Qd (fun r M1 => Q r ∧ M1 = M) (sw_Po g) (sw_A g)) (sw_XC g (fun E M1 => X E ∧ M1 = M)) 1 6 (sw_A g) := by
  refine sw_xmet (by decide) (Nat.le_of_ble_eq_true rfl) ?_
  intro p e s m args below meth c ls hx hb hr hts hown hml hlocks hnt hW hl
  have hown : s.vm.findClass RX6 = some m.cls := hown
  have hl : lv_has ls 3 [(0, .ref (sw_ad g 0))] := hl
  unfold wX6_meanGrade at h
  refine lv_iconst (v := 0) hx hb dX6_meanGrade_0 (by decide) ?_
  refine lv_istore_n (lv' := [(1, .int (0 : Int32)), (0, .ref (sw_ad g 0))]) hx hb dX6_meanGrade_1 rfl hl (Nat.le_of_ble_eq_true rfl) rfl (fun ls hl => ?_)
  refine lv_iconst (v := 0) hx hb dX6_meanGrade_2 (by decide) ?_
  refine lv_istore_n (lv' := [(2, .int (0 : Int32)), (1, .int (0 : Int32)), (0, .ref (sw_ad g 0))]) hx hb dX6_meanGrade_3 rfl hl (Nat.le_of_ble_eq_true rfl) rfl (fun ls hl => ?_)
  obtain ⟨n4, h⟩ := h
  refine sw_lp_ii (hd := 4) (Lf := fun x1_4 x2_4 => [(0, .ref (sw_ad g 0)), (1, .int x1_4), (2, .int x2_4)]) h hW (lv_sub hl [2, 1, 0] rfl) (fun _ _ h => h) (fun n4 ih4 x1_4 x2_4 H locs ls h hW hl => ?_)
  rw [lX6_meanGrade_4.eq_2] at h
  refine lv_iload_n hx hb dX6_meanGrade_4 rfl (lv_at hl 2 rfl) ?_
  refine lv_aload_n hx hb dX6_meanGrade_5 rfl (lv_at hl 0 rfl) ?_
  refine sw_gr (j := 0) (r := (sw_st 0)) hx hb hts hown hW rfl qf_6 (Or.inl (Nat.le_of_ble_eq_true rfl)) sl_0 rfl (Nat.le_of_ble_eq_true rfl) q_150 dX6_meanGrade_6 ?_
  refine sw_gi (j := 3) hx hb hts hown hW rfl qf_5 (sw_st_lt0 (Nat.le_of_ble_eq_true rfl)) (sw_lay_so 0) rfl (Nat.le_of_ble_eq_true rfl) q_58 dX6_meanGrade_9 ?_
  refine lv_icmp_ge (tgt := 32) hx hb dX6_meanGrade_12 (by decide) (fun k5 => ?_) (fun k5 => ?_)
  · have h := h.1 k5
    refine lv_iload_n hx hb dX6_meanGrade_32 rfl (lv_at hl 1 rfl) ?_
    refine lv_if_ne (tgt := 44) hx hb dX6_meanGrade_33 (by decide) (fun k6 => ?_) (fun k6 => ?_)
    · have h := h.2 k6
      refine lv_aload_n hx hb dX6_meanGrade_44 rfl (lv_at hl 0 rfl) ?_
      refine sw_kl (rest := []) (sw_runV (As := []) (rest := []) hx hb hml hown hts (kX6_gradeTotal l g M _ h) cv_X6_gradeTotal q_740 rfl rfl ⟨(Nat.le_of_ble_eq_true rfl), (Nat.le_of_ble_eq_true rfl)⟩ hW (Or.inl (Nat.le_of_ble_eq_true rfl)) sl_0 rfl rfl hl.1 rfl (Nat.le_of_ble_eq_true rfl) dX6_meanGrade_45 ⟨(Nat.le_of_ble_eq_true rfl), (Nat.le_of_ble_eq_true rfl)⟩) hW (fun r7 M9 H locs h hW => ?_)
      obtain ⟨h, eM9⟩ := h
      rw [eM9] at hW
      refine lv_l2d hx hb dX6_meanGrade_48 ?_
      refine lv_iload_n hx hb dX6_meanGrade_49 rfl (lv_at hl 1 rfl) ?_
      refine lv_i2d hx hb dX6_meanGrade_50 ?_
      have z8 := h.1
      have h := h.2
      refine lv_ddiv hx hb dX6_meanGrade_51 z8 ?_
      refine W.widen (k := 1) (n := 6) (Nat.le_of_ble_eq_true rfl) (Nat.le_of_ble_eq_true rfl) ?_
      refine vx_ret ?_
      exact sw_rd hx hb hr hlocks hW ⟨h, rfl⟩ dX6_meanGrade_52
    · have h := h.1 k6
      exact sw_throw hx hb hst hown hts th_228 hW (hl.1.trans hml.symm) dX6_meanGrade_36 dX6_meanGrade_39 dX6_meanGrade_40 dX6_meanGrade_43 hnt (Nat.le_of_ble_eq_true rfl) (Nat.le_of_ble_eq_true rfl) (Nat.le_of_ble_eq_true rfl) (Nat.le_of_ble_eq_true rfl) hlocks ⟨h, rfl⟩ (Nat.le_of_ble_eq_true rfl) (Nat.le_of_ble_eq_true rfl)
  · have h := h.2 k5
    refine lv_iload_n hx hb dX6_meanGrade_15 rfl (lv_at hl 1 rfl) ?_
    refine lv_aload_n hx hb dX6_meanGrade_16 rfl (lv_at hl 0 rfl) ?_
    refine sw_gr (j := 0) (r := (sw_st 0)) hx hb hts hown hW rfl qf_6 (Or.inl (Nat.le_of_ble_eq_true rfl)) sl_0 rfl (Nat.le_of_ble_eq_true rfl) q_150 dX6_meanGrade_17 ?_
    refine lv_iload_n hx hb dX6_meanGrade_20 rfl (lv_at hl 2 rfl) ?_
    refine sw_ki (rest := [.int x1_4]) (sw_runV (As := [.int x2_4]) (rest := [.int x1_4]) hx hb hml hown hts (kX5_gradeCount l g 0 (Nat.le_of_ble_eq_true rfl) x2_4 M _ h) cv_X5_gradeCount q_543 rfl rfl ⟨(Nat.le_of_ble_eq_true rfl), (Nat.le_of_ble_eq_true rfl)⟩ hW (sw_st_lt0 (Nat.le_of_ble_eq_true rfl)) (sw_lay_so 0) rfl rfl hl.1 rfl (Nat.le_of_ble_eq_true rfl) dX6_meanGrade_21 ⟨(Nat.le_of_ble_eq_true rfl), (Nat.le_of_ble_eq_true rfl)⟩) hW (fun r10 M13 H locs h hW => ?_)
    obtain ⟨h, eM13⟩ := h
    rw [eM13] at hW
    refine lv_iadd hx hb dX6_meanGrade_24 ?_
    refine lv_topi (fun v11 ev11 => ?_)
    have h := h v11 ev11
    refine lv_istore_n (lv' := [(1, .int v11), (0, .ref (sw_ad g 0)), (2, .int x2_4)]) hx hb dX6_meanGrade_25 rfl hl (Nat.le_of_ble_eq_true rfl) rfl (fun ls hl => ?_)
    obtain ⟨v12, ev12⟩ : ∃ z : Int32, z = x2_4 + (1 : Int32) := ⟨_, rfl⟩
    have h := h v12 ev12
    refine lv_iinc (v := v12) (lv' := [(2, .int v12), (1, .int v11), (0, .ref (sw_ad g 0))]) hx hb dX6_meanGrade_26 hl (k := 2) rfl (by rw [ev12]; rfl) (Nat.le_of_ble_eq_true rfl) rfl (fun ls hl => ?_)
    refine lv_goto (tgt := 4) hx hb dX6_meanGrade_29 (by decide) ?_
    exact ih4 _ _ _ _ _ h hW (lv_sub hl [2, 1, 0] rfl)

def jX6_passShare_32 (M : sM) (x1_6 : Int32) (x3_6 : Int32) (N6 : Int32 → Int32 → Int32 → Prop) (x2_32 : Int32) : Prop :=
  wX5_hasPassed 0 x3_6 M (fun r7 => (r7 = 0 → (∀ v9 : Int32, v9 = x3_6 + (1 : Int32) → (N6 x1_6 x2_32 v9))) ∧ (¬ r7 = 0 → (∀ v10 : Int32, v10 = x1_6 + (1 : Int32) → (∀ v11 : Int32, v11 = x3_6 + (1 : Int32) → (N6 v10 x2_32 v11)))))
def lX6_passShare_6 (M : sM) (K6 : Int32 → Int32 → Prop) : Nat → Int32 → Int32 → Int32 → Prop
  | 0, _, _, _ => False
  | n6 + 1, x1_6, x2_6, x3_6 => ((M (sw_st 0) 3) ≤ x3_6 → (K6 x1_6 x2_6)) ∧ (¬ (M (sw_st 0) 3) ≤ x3_6 → (wX5_median 0 x3_6 M (fun r6 => (r6 = (-1 : Int32) → (jX6_passShare_32 M x1_6 x3_6 (fun x1_6 x2_6 x3_6 => lX6_passShare_6 M K6 n6 x1_6 x2_6 x3_6) x2_6)) ∧ (¬ r6 = (-1 : Int32) → (∀ v14 : Int32, v14 = x2_6 + (1 : Int32) → (jX6_passShare_32 M x1_6 x3_6 (fun x1_6 x2_6 x3_6 => lX6_passShare_6 M K6 n6 x1_6 x2_6 x3_6) v14))))))
theorem cv_X6_passShare : sw_cV yX6_passShare RX6 cX6_passShare 4 (some .float) 0 := ⟨q_746, q_747, q_2, q_748, by decide +kernel⟩
def wX6_passShare  (M : sM) (Q : UInt32 → Prop) (X : String → Prop) : Prop :=
  ∃ n6, lX6_passShare_6 M (fun x1_6k x2_6k => (x2_6k = 0 → (X "java/lang/ArithmeticException")) ∧ (¬ x2_6k = 0 → (vf_n32 (FP.fdiv (FP.i2f x1_6k) (FP.i2f x2_6k)) ∧ (Q (FP.fdiv (FP.i2f x1_6k) (FP.i2f x2_6k)))))) n6 (0 : Int32) (0 : Int32) (0 : Int32)
set_option maxRecDepth 20000 in
theorem kX6_passShare (l : Launch) (hst : l.stackTraces = false) (g : sG)  (M : sM) (Q : UInt32 → Prop) (X : String → Prop) (h : wX6_passShare  M Q X) : vx_Met l yX6_passShare (sw_ws yX6_passShare cX6_passShare 4 (some .float)) { frames := 6, cells := 1, slots := 6, locals := 95 } (va_Pc [.ref (sw_ad g 0)] (sw_Pr g M)) (va_Qf (fun r M1 => Q r ∧ M1 = M) (sw_Po g) (sw_A g)) (sw_XC g (fun E M1 => X E ∧ M1 = M)) 1 6 (sw_A g) := by
  refine sw_xmet (by decide) (Nat.le_of_ble_eq_true rfl) ?_
  intro p e s m args below meth c ls hx hb hr hts hown hml hlocks hnt hW hl
  have hown : s.vm.findClass RX6 = some m.cls := hown
  have hl : lv_has ls 4 [(0, .ref (sw_ad g 0))] := hl
  unfold wX6_passShare at h
  refine lv_iconst (v := 0) hx hb dX6_passShare_0 (by decide) ?_
  refine lv_istore_n (lv' := [(1, .int (0 : Int32)), (0, .ref (sw_ad g 0))]) hx hb dX6_passShare_1 rfl hl (Nat.le_of_ble_eq_true rfl) rfl (fun ls hl => ?_)
  refine lv_iconst (v := 0) hx hb dX6_passShare_2 (by decide) ?_
  refine lv_istore_n (lv' := [(2, .int (0 : Int32)), (1, .int (0 : Int32)), (0, .ref (sw_ad g 0))]) hx hb dX6_passShare_3 rfl hl (Nat.le_of_ble_eq_true rfl) rfl (fun ls hl => ?_)
  refine lv_iconst (v := 0) hx hb dX6_passShare_4 (by decide) ?_
  refine lv_istore_n (lv' := [(3, .int (0 : Int32)), (2, .int (0 : Int32)), (1, .int (0 : Int32)), (0, .ref (sw_ad g 0))]) hx hb dX6_passShare_5 rfl hl (Nat.le_of_ble_eq_true rfl) rfl (fun ls hl => ?_)
  obtain ⟨n6, h⟩ := h
  refine sw_lp_iii (hd := 6) (Lf := fun x1_6 x2_6 x3_6 => [(0, .ref (sw_ad g 0)), (1, .int x1_6), (2, .int x2_6), (3, .int x3_6)]) h hW (lv_sub hl [3, 2, 1, 0] rfl) (fun _ _ _ h => h) (fun n6 ih6 x1_6 x2_6 x3_6 H locs ls h hW hl => ?_)
  rw [lX6_passShare_6.eq_2] at h
  refine lv_iload_n hx hb dX6_passShare_6 rfl (lv_at hl 3 rfl) ?_
  refine lv_aload_n hx hb dX6_passShare_7 rfl (lv_at hl 0 rfl) ?_
  refine sw_gr (j := 0) (r := (sw_st 0)) hx hb hts hown hW rfl qf_6 (Or.inl (Nat.le_of_ble_eq_true rfl)) sl_0 rfl (Nat.le_of_ble_eq_true rfl) q_150 dX6_passShare_8 ?_
  refine sw_gi (j := 3) hx hb hts hown hW rfl qf_5 (sw_st_lt0 (Nat.le_of_ble_eq_true rfl)) (sw_lay_so 0) rfl (Nat.le_of_ble_eq_true rfl) q_58 dX6_passShare_11 ?_
  refine lv_icmp_ge (tgt := 52) hx hb dX6_passShare_14 (by decide) (fun k3 => ?_) (fun k3 => ?_)
  · have h := h.1 k3
    refine lv_iload_n hx hb dX6_passShare_52 rfl (lv_at hl 2 rfl) ?_
    refine lv_if_ne (tgt := 64) hx hb dX6_passShare_53 (by decide) (fun k4 => ?_) (fun k4 => ?_)
    · have h := h.2 k4
      refine lv_iload_n hx hb dX6_passShare_64 rfl (lv_at hl 1 rfl) ?_
      refine lv_i2f hx hb dX6_passShare_65 ?_
      refine lv_iload_n hx hb dX6_passShare_66 rfl (lv_at hl 2 rfl) ?_
      refine lv_i2f hx hb dX6_passShare_67 ?_
      have z5 := h.1
      have h := h.2
      refine lv_fdiv hx hb dX6_passShare_68 z5 ?_
      refine W.widen (k := 1) (n := 6) (Nat.le_of_ble_eq_true rfl) (Nat.le_of_ble_eq_true rfl) ?_
      refine vx_ret ?_
      exact sw_rf hx hb hr hlocks hW ⟨h, rfl⟩ dX6_passShare_69
    · have h := h.1 k4
      exact sw_throw hx hb hst hown hts th_228 hW (hl.1.trans hml.symm) dX6_passShare_56 dX6_passShare_59 dX6_passShare_60 dX6_passShare_63 hnt (Nat.le_of_ble_eq_true rfl) (Nat.le_of_ble_eq_true rfl) (Nat.le_of_ble_eq_true rfl) (Nat.le_of_ble_eq_true rfl) hlocks ⟨h, rfl⟩ (Nat.le_of_ble_eq_true rfl) (Nat.le_of_ble_eq_true rfl)
  · have h := h.2 k3
    refine lv_aload_n hx hb dX6_passShare_17 rfl (lv_at hl 0 rfl) ?_
    refine sw_gr (j := 0) (r := (sw_st 0)) hx hb hts hown hW rfl qf_6 (Or.inl (Nat.le_of_ble_eq_true rfl)) sl_0 rfl (Nat.le_of_ble_eq_true rfl) q_150 dX6_passShare_18 ?_
    refine lv_iload_n hx hb dX6_passShare_21 rfl (lv_at hl 3 rfl) ?_
    refine sw_ki (rest := []) (sw_runV (As := [.int x3_6]) (rest := []) hx hb hml hown hts (kX5_median l g 0 (Nat.le_of_ble_eq_true rfl) x3_6 M _ h) cv_X5_median q_550 rfl rfl ⟨(Nat.le_of_ble_eq_true rfl), (Nat.le_of_ble_eq_true rfl)⟩ hW (sw_st_lt0 (Nat.le_of_ble_eq_true rfl)) (sw_lay_so 0) rfl rfl hl.1 rfl (Nat.le_of_ble_eq_true rfl) dX6_passShare_22 ⟨(Nat.le_of_ble_eq_true rfl), (Nat.le_of_ble_eq_true rfl)⟩) hW (fun r6 M15 H locs h hW => ?_)
    obtain ⟨h, eM15⟩ := h
    rw [eM15] at hW
    refine lv_iconst (v := -1) hx hb dX6_passShare_25 (by decide) ?_
    refine sw_jn_i (g := g) (nL := 4) (M := M) (jp := 32) (J := fun x2_32 => jX6_passShare_32 M x1_6 x3_6 (fun x1_6 x2_6 x3_6 => lX6_passShare_6 M (fun x1_6k x2_6k => (x2_6k = 0 → (X "java/lang/ArithmeticException")) ∧ (¬ x2_6k = 0 → (vf_n32 (FP.fdiv (FP.i2f x1_6k) (FP.i2f x2_6k)) ∧ (Q (FP.fdiv (FP.i2f x1_6k) (FP.i2f x2_6k)))))) n6 x1_6 x2_6 x3_6) x2_32) (Lf := fun x2_32 => [(0, .ref (sw_ad g 0)), (1, .int x1_6), (2, .int x2_32), (3, .int x3_6)]) (Sf := fun x2_32 => []) (fun x2_32 H locs ls h hW hl => ?_) (fun hJ32 => ?_)
    · unfold jX6_passShare_32 at h
      refine lv_aload_n hx hb dX6_passShare_32 rfl (lv_at hl 0 rfl) ?_
      refine sw_gr (j := 0) (r := (sw_st 0)) hx hb hts hown hW rfl qf_6 (Or.inl (Nat.le_of_ble_eq_true rfl)) sl_0 rfl (Nat.le_of_ble_eq_true rfl) q_150 dX6_passShare_33 ?_
      refine lv_iload_n hx hb dX6_passShare_36 rfl (lv_at hl 3 rfl) ?_
      refine sw_ki (rest := []) (sw_runV (As := [.int x3_6]) (rest := []) hx hb hml hown hts (kX5_hasPassed l g 0 (Nat.le_of_ble_eq_true rfl) x3_6 M _ h) cv_X5_hasPassed q_557 rfl rfl ⟨(Nat.le_of_ble_eq_true rfl), (Nat.le_of_ble_eq_true rfl)⟩ hW (sw_st_lt0 (Nat.le_of_ble_eq_true rfl)) (sw_lay_so 0) rfl rfl hl.1 rfl (Nat.le_of_ble_eq_true rfl) dX6_passShare_37 ⟨(Nat.le_of_ble_eq_true rfl), (Nat.le_of_ble_eq_true rfl)⟩) hW (fun r7 M12 H locs h hW => ?_)
      obtain ⟨h, eM12⟩ := h
      rw [eM12] at hW
      refine lv_if_eq (tgt := 46) hx hb dX6_passShare_40 (by decide) (fun k8 => ?_) (fun k8 => ?_)
      · have h := h.1 k8
        obtain ⟨v9, ev9⟩ : ∃ z : Int32, z = x3_6 + (1 : Int32) := ⟨_, rfl⟩
        have h := h v9 ev9
        refine lv_iinc (v := v9) (lv' := [(3, .int v9), (0, .ref (sw_ad g 0)), (1, .int x1_6), (2, .int x2_32)]) hx hb dX6_passShare_46 hl (k := 3) rfl (by rw [ev9]; rfl) (Nat.le_of_ble_eq_true rfl) rfl (fun ls hl => ?_)
        refine lv_goto (tgt := 6) hx hb dX6_passShare_49 (by decide) ?_
        exact ih6 _ _ _ _ _ _ h hW (lv_sub hl [1, 2, 3, 0] rfl)
      · have h := h.2 k8
        obtain ⟨v10, ev10⟩ : ∃ z : Int32, z = x1_6 + (1 : Int32) := ⟨_, rfl⟩
        have h := h v10 ev10
        refine lv_iinc (v := v10) (lv' := [(1, .int v10), (0, .ref (sw_ad g 0)), (2, .int x2_32), (3, .int x3_6)]) hx hb dX6_passShare_43 hl (k := 1) rfl (by rw [ev10]; rfl) (Nat.le_of_ble_eq_true rfl) rfl (fun ls hl => ?_)
        obtain ⟨v11, ev11⟩ : ∃ z : Int32, z = x3_6 + (1 : Int32) := ⟨_, rfl⟩
        have h := h v11 ev11
        refine lv_iinc (v := v11) (lv' := [(3, .int v11), (1, .int v10), (0, .ref (sw_ad g 0)), (2, .int x2_32)]) hx hb dX6_passShare_46 hl (k := 3) rfl (by rw [ev11]; rfl) (Nat.le_of_ble_eq_true rfl) rfl (fun ls hl => ?_)
        refine lv_goto (tgt := 6) hx hb dX6_passShare_49 (by decide) ?_
        exact ih6 _ _ _ _ _ _ h hW (lv_sub hl [2, 1, 3, 0] rfl)
    · refine lv_icmp_eq (tgt := 32) hx hb dX6_passShare_26 (by decide) (fun k13 => ?_) (fun k13 => ?_)
      · have h := h.1 k13
        exact hJ32 _ _ _ _ h hW (lv_sub hl [0, 1, 2, 3] rfl)
      · have h := h.2 k13
        obtain ⟨v14, ev14⟩ : ∃ z : Int32, z = x2_6 + (1 : Int32) := ⟨_, rfl⟩
        have h := h v14 ev14
        refine lv_iinc (v := v14) (lv' := [(2, .int v14), (0, .ref (sw_ad g 0)), (1, .int x1_6), (3, .int x3_6)]) hx hb dX6_passShare_29 hl (k := 2) rfl (by rw [ev14]; rfl) (Nat.le_of_ble_eq_true rfl) rfl (fun ls hl => ?_)
        exact hJ32 _ _ _ _ h hW (lv_sub hl [1, 2, 0, 3] rfl)

def lX6_panelCountsAgree_2 (Q : Int32 → sM → Prop) (K2 : sM → Prop) : Nat → Int32 → sM → Prop
  | 0, _, _ => False
  | n2 + 1, x1_2, M_2 => ((M_2 (sw_st 0) 3) ≤ x1_2 → (K2 M_2)) ∧ (¬ (M_2 (sw_st 0) 3) ≤ x1_2 → (wX2_countByTrying 0 x1_2 M_2 (fun r2 => wX2_countByFrames 0 x1_2 M_2 (fun r3 M4 => (r2 = r3 → (∀ v6 : Int32, v6 = x1_2 + (1 : Int32) → ((fun x1_2 M_2 => lX6_panelCountsAgree_2 Q K2 n2 x1_2 M_2) v6 M4))) ∧ (¬ r2 = r3 → (Q (0 : Int32) M4))))))
theorem cv_X6_panelCountsAgree : sw_cV yX6_panelCountsAgree RX6 cX6_panelCountsAgree 2 (some .boolean) 0 := ⟨q_765, q_1166, q_2, q_766, by decide +kernel⟩
def wX6_panelCountsAgree  (M : sM) (Q : Int32 → sM → Prop) : Prop :=
  ∃ n2, lX6_panelCountsAgree_2 Q (fun M_2k => Q (1 : Int32) M_2k) n2 (0 : Int32) M
set_option maxRecDepth 20000 in
theorem kX6_panelCountsAgree (l : Launch) (g : sG)  (M : sM) (Q : Int32 → sM → Prop) (h : wX6_panelCountsAgree  M Q) : Met l yX6_panelCountsAgree (sw_ws yX6_panelCountsAgree cX6_panelCountsAgree 2 (some .boolean)) { frames := 4, cells := 0, slots := 0, locals := 94 } (va_Pc [.ref (sw_ad g 0)] (sw_Pr g M)) (va_Qi Q (sw_Po g) (sw_A g)) 0 0 (sw_A g) := by
  refine sw_met (by decide) (Nat.le_of_ble_eq_true rfl) ?_
  intro p e s m args below meth c ls hx hb hr hts hown hml hlocks hW hl
  have hown : s.vm.findClass RX6 = some m.cls := hown
  have hl : lv_has ls 2 [(0, .ref (sw_ad g 0))] := hl
  unfold wX6_panelCountsAgree at h
  refine lv_iconst (v := 0) hx hb dX6_panelCountsAgree_0 (by decide) ?_
  refine lv_istore_n (lv' := [(1, .int (0 : Int32)), (0, .ref (sw_ad g 0))]) hx hb dX6_panelCountsAgree_1 rfl hl (Nat.le_of_ble_eq_true rfl) rfl (fun ls hl => ?_)
  obtain ⟨n2, h⟩ := h
  refine sw_lp_iM (hd := 2) (Lf := fun x1_2 M_2 => [(0, .ref (sw_ad g 0)), (1, .int x1_2)]) h hW (lv_sub hl [1, 0] rfl) (fun _ _ h => h) (fun n2 ih2 x1_2 M_2 H locs ls h hW hl => ?_)
  rw [lX6_panelCountsAgree_2.eq_2] at h
  refine lv_iload_n hx hb dX6_panelCountsAgree_2 rfl (lv_at hl 1 rfl) ?_
  refine lv_aload_n hx hb dX6_panelCountsAgree_3 rfl (lv_at hl 0 rfl) ?_
  refine sw_gr (j := 0) (r := (sw_st 0)) hx hb hts hown hW rfl qf_6 (Or.inl (Nat.le_of_ble_eq_true rfl)) sl_0 rfl (Nat.le_of_ble_eq_true rfl) q_150 dX6_panelCountsAgree_4 ?_
  refine sw_gi (j := 3) hx hb hts hown hW rfl qf_5 (sw_st_lt0 (Nat.le_of_ble_eq_true rfl)) (sw_lay_so 0) rfl (Nat.le_of_ble_eq_true rfl) q_58 dX6_panelCountsAgree_7 ?_
  refine lv_icmp_ge (tgt := 48) hx hb dX6_panelCountsAgree_10 (by decide) (fun k1 => ?_) (fun k1 => ?_)
  · have h := h.1 k1
    refine lv_iconst (v := 1) hx hb dX6_panelCountsAgree_48 (by decide) ?_
    exact sw_ri hx hb hr hlocks hW (by decide) h dX6_panelCountsAgree_49
  · have h := h.2 k1
    refine lv_aload_n hx hb dX6_panelCountsAgree_13 rfl (lv_at hl 0 rfl) ?_
    refine sw_gr (j := 5) (r := 12) hx hb hts hown hW rfl qf_6 (Or.inl (Nat.le_of_ble_eq_true rfl)) sl_0 rfl (Nat.le_of_ble_eq_true rfl) q_155 dX6_panelCountsAgree_14 ?_
    refine lv_aload_n hx hb dX6_panelCountsAgree_17 rfl (lv_at hl 0 rfl) ?_
    refine sw_gr (j := 0) (r := (sw_st 0)) hx hb hts hown hW rfl qf_6 (Or.inl (Nat.le_of_ble_eq_true rfl)) sl_0 rfl (Nat.le_of_ble_eq_true rfl) q_150 dX6_panelCountsAgree_18 ?_
    refine lv_iload_n hx hb dX6_panelCountsAgree_21 rfl (lv_at hl 1 rfl) ?_
    refine sw_ki (rest := []) (sw_runV (As := [.ref (sw_ad g (sw_st 0)), .int x1_2]) (rest := []) hx hb hml hown hts (kX2_countByTrying l g 0 (Nat.le_of_ble_eq_true rfl) x1_2 M_2 _ h) cv_X2_countByTrying q_685 rfl rfl ⟨(Nat.le_of_ble_eq_true rfl), (Nat.le_of_ble_eq_true rfl)⟩ hW (Or.inl (Nat.le_of_ble_eq_true rfl)) sl_12 rfl rfl hl.1 rfl (Nat.le_of_ble_eq_true rfl) dX6_panelCountsAgree_22 ⟨(Nat.le_of_ble_eq_true rfl), (Nat.le_of_ble_eq_true rfl)⟩) hW (fun r2 M7 H locs h hW => ?_)
    obtain ⟨h, eM7⟩ := h
    rw [eM7] at hW
    refine lv_aload_n hx hb dX6_panelCountsAgree_25 rfl (lv_at hl 0 rfl) ?_
    refine sw_gr (j := 5) (r := 12) hx hb hts hown hW rfl qf_6 (Or.inl (Nat.le_of_ble_eq_true rfl)) sl_0 rfl (Nat.le_of_ble_eq_true rfl) q_155 dX6_panelCountsAgree_26 ?_
    refine lv_aload_n hx hb dX6_panelCountsAgree_29 rfl (lv_at hl 0 rfl) ?_
    refine sw_gr (j := 0) (r := (sw_st 0)) hx hb hts hown hW rfl qf_6 (Or.inl (Nat.le_of_ble_eq_true rfl)) sl_0 rfl (Nat.le_of_ble_eq_true rfl) q_150 dX6_panelCountsAgree_30 ?_
    refine lv_iload_n hx hb dX6_panelCountsAgree_33 rfl (lv_at hl 1 rfl) ?_
    refine sw_ki (rest := [.int r2]) (sw_runV (As := [.ref (sw_ad g (sw_st 0)), .int x1_2]) (rest := [.int r2]) hx hb hml hown hts (kX2_countByFrames l g 0 (Nat.le_of_ble_eq_true rfl) x1_2 M_2 _ h) cv_X2_countByFrames q_695 rfl rfl ⟨(Nat.le_of_ble_eq_true rfl), (Nat.le_of_ble_eq_true rfl)⟩ hW (Or.inl (Nat.le_of_ble_eq_true rfl)) sl_12 rfl rfl hl.1 rfl (Nat.le_of_ble_eq_true rfl) dX6_panelCountsAgree_34 ⟨(Nat.le_of_ble_eq_true rfl), (Nat.le_of_ble_eq_true rfl)⟩) hW (fun r3 M4 H locs h hW => ?_)
    refine lv_icmp_eq (tgt := 42) hx hb dX6_panelCountsAgree_37 (by decide) (fun k5 => ?_) (fun k5 => ?_)
    · have h := h.1 k5
      obtain ⟨v6, ev6⟩ : ∃ z : Int32, z = x1_2 + (1 : Int32) := ⟨_, rfl⟩
      have h := h v6 ev6
      refine lv_iinc (v := v6) (lv' := [(1, .int v6), (0, .ref (sw_ad g 0))]) hx hb dX6_panelCountsAgree_42 hl (k := 1) rfl (by rw [ev6]; rfl) (Nat.le_of_ble_eq_true rfl) rfl (fun ls hl => ?_)
      refine lv_goto (tgt := 2) hx hb dX6_panelCountsAgree_45 (by decide) ?_
      exact ih2 _ _ _ _ _ h hW (lv_sub hl [1, 0] rfl)
    · have h := h.2 k5
      refine lv_iconst (v := 0) hx hb dX6_panelCountsAgree_40 (by decide) ?_
      exact sw_ri hx hb hr hlocks hW (by decide) h dX6_panelCountsAgree_41

def lX6_framesDiffer_15 (M : sM) (x1_2 : Int32) (Q : Int32 → Prop) (K15 : Prop) : Nat → Int32 → Prop
  | 0, _ => False
  | n15 + 1, x2_15 => ((M (sw_st 0) 3) ≤ x2_15 → (K15)) ∧ (¬ (M (sw_st 0) 3) ≤ x2_15 → (wX5_assigned 0 x1_2 x2_15 M (fun r5 => (r5 = 0 → (∀ v7 : Int32, v7 = x2_15 + (1 : Int32) → ((fun x2_15 => lX6_framesDiffer_15 M x1_2 Q K15 n15 x2_15) v7))) ∧ (¬ r5 = 0 → (vp_in x1_2 6 ∧ (vp_in x2_15 8 ∧ (((M (sw_st 0 + 3) (x1_2).toNatClampNeg) = (M (sw_st 0 + 1) (x2_15).toNatClampNeg) → (Q (0 : Int32))) ∧ (¬ (M (sw_st 0 + 3) (x1_2).toNatClampNeg) = (M (sw_st 0 + 1) (x2_15).toNatClampNeg) → (∀ v11 : Int32, v11 = x2_15 + (1 : Int32) → ((fun x2_15 => lX6_framesDiffer_15 M x1_2 Q K15 n15 x2_15) v11))))))))))
def lX6_framesDiffer_2 (M : sM) (Q : Int32 → Prop) (K2 : Prop) : Nat → Int32 → Prop
  | 0, _ => False
  | n2 + 1, x1_2 => ((M (sw_st 0) 6) ≤ x1_2 → (K2)) ∧ (¬ (M (sw_st 0) 6) ≤ x1_2 → (∃ n15, lX6_framesDiffer_15 M x1_2 Q (∀ v2 : Int32, v2 = x1_2 + (1 : Int32) → ((fun x1_2 => lX6_framesDiffer_2 M Q K2 n2 x1_2) v2)) n15 (0 : Int32)))
theorem cv_X6_framesDiffer : sw_cV yX6_framesDiffer RX6 cX6_framesDiffer 3 (some .boolean) 0 := ⟨q_768, q_1167, q_2, q_769, by decide +kernel⟩
def wX6_framesDiffer  (M : sM) (Q : Int32 → Prop) : Prop :=
  ∃ n2, lX6_framesDiffer_2 M Q (Q (1 : Int32)) n2 (0 : Int32)
set_option maxRecDepth 20000 in
theorem kX6_framesDiffer (l : Launch) (g : sG)  (M : sM) (Q : Int32 → Prop) (h : wX6_framesDiffer  M Q) : Met l yX6_framesDiffer (sw_ws yX6_framesDiffer cX6_framesDiffer 3 (some .boolean)) { frames := 1, cells := 0, slots := 0, locals := 22 } (va_Pc [.ref (sw_ad g 0)] (sw_Pr g M)) (va_Qi (fun r M1 => Q r ∧ M1 = M) (sw_Po g) (sw_A g)) 0 0 (sw_A g) := by
  refine sw_met (by decide) (Nat.le_of_ble_eq_true rfl) ?_
  intro p e s m args below meth c ls hx hb hr hts hown hml hlocks hW hl
  have hown : s.vm.findClass RX6 = some m.cls := hown
  have hl : lv_has ls 3 [(0, .ref (sw_ad g 0))] := hl
  unfold wX6_framesDiffer at h
  refine lv_iconst (v := 0) hx hb dX6_framesDiffer_0 (by decide) ?_
  refine lv_istore_n (lv' := [(1, .int (0 : Int32)), (0, .ref (sw_ad g 0))]) hx hb dX6_framesDiffer_1 rfl hl (Nat.le_of_ble_eq_true rfl) rfl (fun ls hl => ?_)
  obtain ⟨n2, h⟩ := h
  refine sw_lp_i (hd := 2) (Lf := fun x1_2 => [(0, .ref (sw_ad g 0)), (1, .int x1_2)]) h hW (lv_sub hl [1, 0] rfl) (fun _ h => h) (fun n2 ih2 x1_2 H locs ls h hW hl => ?_)
  rw [lX6_framesDiffer_2.eq_2] at h
  refine lv_iload_n hx hb dX6_framesDiffer_2 rfl (lv_at hl 1 rfl) ?_
  refine lv_aload_n hx hb dX6_framesDiffer_3 rfl (lv_at hl 0 rfl) ?_
  refine sw_gr (j := 0) (r := (sw_st 0)) hx hb hts hown hW rfl qf_6 (Or.inl (Nat.le_of_ble_eq_true rfl)) sl_0 rfl (Nat.le_of_ble_eq_true rfl) q_150 dX6_framesDiffer_4 ?_
  refine sw_gi (j := 6) hx hb hts hown hW rfl qf_5 (sw_st_lt0 (Nat.le_of_ble_eq_true rfl)) (sw_lay_so 0) rfl (Nat.le_of_ble_eq_true rfl) q_69 dX6_framesDiffer_7 ?_
  refine lv_icmp_ge (tgt := 73) hx hb dX6_framesDiffer_10 (by decide) (fun k1 => ?_) (fun k1 => ?_)
  · have h := h.1 k1
    refine lv_iconst (v := 1) hx hb dX6_framesDiffer_73 (by decide) ?_
    exact sw_ri hx hb hr hlocks hW (by decide) ⟨h, rfl⟩ dX6_framesDiffer_74
  · have h := h.2 k1
    refine lv_iconst (v := 0) hx hb dX6_framesDiffer_13 (by decide) ?_
    refine lv_istore_n (lv' := [(2, .int (0 : Int32)), (0, .ref (sw_ad g 0)), (1, .int x1_2)]) hx hb dX6_framesDiffer_14 rfl hl (Nat.le_of_ble_eq_true rfl) rfl (fun ls hl => ?_)
    obtain ⟨n15, h⟩ := h
    refine sw_lp_i (hd := 15) (Lf := fun x2_15 => [(0, .ref (sw_ad g 0)), (1, .int x1_2), (2, .int x2_15)]) h hW (lv_sub hl [1, 2, 0] rfl) (fun _ h => h) (fun n15 ih15 x2_15 H locs ls h hW hl => ?_)
    rw [lX6_framesDiffer_15.eq_2] at h
    refine lv_iload_n hx hb dX6_framesDiffer_15 rfl (lv_at hl 2 rfl) ?_
    refine lv_aload_n hx hb dX6_framesDiffer_16 rfl (lv_at hl 0 rfl) ?_
    refine sw_gr (j := 0) (r := (sw_st 0)) hx hb hts hown hW rfl qf_6 (Or.inl (Nat.le_of_ble_eq_true rfl)) sl_0 rfl (Nat.le_of_ble_eq_true rfl) q_150 dX6_framesDiffer_17 ?_
    refine sw_gi (j := 3) hx hb hts hown hW rfl qf_5 (sw_st_lt0 (Nat.le_of_ble_eq_true rfl)) (sw_lay_so 0) rfl (Nat.le_of_ble_eq_true rfl) q_58 dX6_framesDiffer_20 ?_
    refine lv_icmp_ge (tgt := 67) hx hb dX6_framesDiffer_23 (by decide) (fun k3 => ?_) (fun k3 => ?_)
    · have h := h.1 k3
      obtain ⟨v4, ev4⟩ : ∃ z : Int32, z = x1_2 + (1 : Int32) := ⟨_, rfl⟩
      have h := h v4 ev4
      refine lv_iinc (v := v4) (lv' := [(1, .int v4), (0, .ref (sw_ad g 0)), (2, .int x2_15)]) hx hb dX6_framesDiffer_67 hl (k := 1) rfl (by rw [ev4]; rfl) (Nat.le_of_ble_eq_true rfl) rfl (fun ls hl => ?_)
      refine lv_goto (tgt := 2) hx hb dX6_framesDiffer_70 (by decide) ?_
      exact ih2 _ _ _ _ h hW (lv_sub hl [1, 0] rfl)
    · have h := h.2 k3
      refine lv_aload_n hx hb dX6_framesDiffer_26 rfl (lv_at hl 0 rfl) ?_
      refine sw_gr (j := 0) (r := (sw_st 0)) hx hb hts hown hW rfl qf_6 (Or.inl (Nat.le_of_ble_eq_true rfl)) sl_0 rfl (Nat.le_of_ble_eq_true rfl) q_150 dX6_framesDiffer_27 ?_
      refine lv_iload_n hx hb dX6_framesDiffer_30 rfl (lv_at hl 1 rfl) ?_
      refine lv_iload_n hx hb dX6_framesDiffer_31 rfl (lv_at hl 2 rfl) ?_
      refine sw_ki (rest := []) (sw_runV (As := [.int x1_2, .int x2_15]) (rest := []) hx hb hml hown hts (kX5_assigned l g 0 (Nat.le_of_ble_eq_true rfl) x1_2 x2_15 M _ h) cv_X5_assigned q_512 rfl rfl ⟨(Nat.le_of_ble_eq_true rfl), (Nat.le_of_ble_eq_true rfl)⟩ hW (sw_st_lt0 (Nat.le_of_ble_eq_true rfl)) (sw_lay_so 0) rfl rfl hl.1 rfl (Nat.le_of_ble_eq_true rfl) dX6_framesDiffer_32 ⟨(Nat.le_of_ble_eq_true rfl), (Nat.le_of_ble_eq_true rfl)⟩) hW (fun r5 M12 H locs h hW => ?_)
      obtain ⟨h, eM12⟩ := h
      rw [eM12] at hW
      refine lv_if_eq (tgt := 61) hx hb dX6_framesDiffer_35 (by decide) (fun k6 => ?_) (fun k6 => ?_)
      · have h := h.1 k6
        obtain ⟨v7, ev7⟩ : ∃ z : Int32, z = x2_15 + (1 : Int32) := ⟨_, rfl⟩
        have h := h v7 ev7
        refine lv_iinc (v := v7) (lv' := [(2, .int v7), (0, .ref (sw_ad g 0)), (1, .int x1_2)]) hx hb dX6_framesDiffer_61 hl (k := 2) rfl (by rw [ev7]; rfl) (Nat.le_of_ble_eq_true rfl) rfl (fun ls hl => ?_)
        refine lv_goto (tgt := 15) hx hb dX6_framesDiffer_64 (by decide) ?_
        exact ih15 _ _ _ _ h hW (lv_sub hl [1, 2, 0] rfl)
      · have h := h.2 k6
        refine lv_aload_n hx hb dX6_framesDiffer_38 rfl (lv_at hl 0 rfl) ?_
        refine sw_gr (j := 0) (r := (sw_st 0)) hx hb hts hown hW rfl qf_6 (Or.inl (Nat.le_of_ble_eq_true rfl)) sl_0 rfl (Nat.le_of_ble_eq_true rfl) q_150 dX6_framesDiffer_39 ?_
        refine sw_gr (j := 7) (r := (sw_st 0 + 3)) hx hb hts hown hW rfl qf_5 (sw_st_lt0 (Nat.le_of_ble_eq_true rfl)) (sw_lay_so 0) rfl (Nat.le_of_ble_eq_true rfl) q_73 dX6_framesDiffer_42 ?_
        refine lv_iload_n hx hb dX6_framesDiffer_45 rfl (lv_at hl 1 rfl) ?_
        have b8 := h.1
        have h := h.2
        refine sw_ca (n := 6) hx hb hW (sw_st_lt (Nat.le_of_ble_eq_true rfl) (Nat.le_of_ble_eq_true rfl)) (sw_lay_s 0 3 (Nat.le_of_ble_eq_true rfl)) b8 dX6_framesDiffer_46 ?_
        refine lv_aload_n hx hb dX6_framesDiffer_47 rfl (lv_at hl 0 rfl) ?_
        refine sw_gr (j := 0) (r := (sw_st 0)) hx hb hts hown hW rfl qf_6 (Or.inl (Nat.le_of_ble_eq_true rfl)) sl_0 rfl (Nat.le_of_ble_eq_true rfl) q_150 dX6_framesDiffer_48 ?_
        refine sw_gr (j := 4) (r := (sw_st 0 + 1)) hx hb hts hown hW rfl qf_5 (sw_st_lt0 (Nat.le_of_ble_eq_true rfl)) (sw_lay_so 0) rfl (Nat.le_of_ble_eq_true rfl) q_61 dX6_framesDiffer_51 ?_
        refine lv_iload_n hx hb dX6_framesDiffer_54 rfl (lv_at hl 2 rfl) ?_
        have b9 := h.1
        have h := h.2
        refine sw_ca (n := 8) hx hb hW (sw_st_lt (Nat.le_of_ble_eq_true rfl) (Nat.le_of_ble_eq_true rfl)) (sw_lay_s 0 1 (Nat.le_of_ble_eq_true rfl)) b9 dX6_framesDiffer_55 ?_
        refine lv_icmp_ne (tgt := 61) hx hb dX6_framesDiffer_56 (by decide) (fun k10 => ?_) (fun k10 => ?_)
        · have h := h.2 k10
          obtain ⟨v11, ev11⟩ : ∃ z : Int32, z = x2_15 + (1 : Int32) := ⟨_, rfl⟩
          have h := h v11 ev11
          refine lv_iinc (v := v11) (lv' := [(2, .int v11), (0, .ref (sw_ad g 0)), (1, .int x1_2)]) hx hb dX6_framesDiffer_61 hl (k := 2) rfl (by rw [ev11]; rfl) (Nat.le_of_ble_eq_true rfl) rfl (fun ls hl => ?_)
          refine lv_goto (tgt := 15) hx hb dX6_framesDiffer_64 (by decide) ?_
          exact ih15 _ _ _ _ h hW (lv_sub hl [1, 2, 0] rfl)
        · have h := h.1 k10
          refine lv_iconst (v := 0) hx hb dX6_framesDiffer_59 (by decide) ?_
          exact sw_ri hx hb hr hlocks hW (by decide) ⟨h, rfl⟩ dX6_framesDiffer_60

theorem cv_X6_isConsistent : sw_cV yX6_isConsistent RX6 cX6_isConsistent 1 (some .boolean) 0 := ⟨q_759, q_760, q_2, q_761, by decide +kernel⟩
def wX6_isConsistent  (M : sM) (Q : Int32 → sM → Prop) : Prop :=
  wX6_assignments M (fun r1 => wX6_assignmentsByDoors M (fun r2 => (r1 = r2 → (wX3_sizeByExchanges 0 M (fun r4 M5 => wX3_sizeBySets 0 M5 (fun r6 M7 => (r4 = r6 → (wX6_panelCountsAgree M7 (fun r9 M10 => (r9 = 0 → (Q (0 : Int32) M10)) ∧ (¬ r9 = 0 → (wX6_framesDiffer M10 (fun r12 => (r12 = 0 → (Q (0 : Int32) M10)) ∧ (¬ r12 = 0 → (Q (1 : Int32) M10)))))))) ∧ (¬ r4 = r6 → (Q (0 : Int32) M7)))))) ∧ (¬ r1 = r2 → (Q (0 : Int32) M))))
set_option maxRecDepth 20000 in
theorem kX6_isConsistent (l : Launch) (g : sG)  (M : sM) (Q : Int32 → sM → Prop) (h : wX6_isConsistent  M Q) : Met l yX6_isConsistent (sw_ws yX6_isConsistent cX6_isConsistent 1 (some .boolean)) { frames := 5, cells := 0, slots := 0, locals := 115 } (va_Pc [.ref (sw_ad g 0)] (sw_Pr g M)) (va_Qi Q (sw_Po g) (sw_A g)) 0 0 (sw_A g) := by
  refine sw_met (by decide) (Nat.le_of_ble_eq_true rfl) ?_
  intro p e s m args below meth c ls hx hb hr hts hown hml hlocks hW hl
  have hown : s.vm.findClass RX6 = some m.cls := hown
  have hl : lv_has ls 1 [(0, .ref (sw_ad g 0))] := hl
  unfold wX6_isConsistent at h
  refine lv_aload_n hx hb dX6_isConsistent_0 rfl (lv_at hl 0 rfl) ?_
  refine sw_ki (rest := []) (sw_runV (As := []) (rest := []) hx hb hml hown hts (kX6_assignments l g M _ h) cv_X6_assignments q_762 rfl rfl ⟨(Nat.le_of_ble_eq_true rfl), (Nat.le_of_ble_eq_true rfl)⟩ hW (Or.inl (Nat.le_of_ble_eq_true rfl)) sl_0 rfl rfl hl.1 rfl (Nat.le_of_ble_eq_true rfl) dX6_isConsistent_1 ⟨(Nat.le_of_ble_eq_true rfl), (Nat.le_of_ble_eq_true rfl)⟩) hW (fun r1 M16 H locs h hW => ?_)
  obtain ⟨h, eM16⟩ := h
  rw [eM16] at hW
  refine lv_aload_n hx hb dX6_isConsistent_4 rfl (lv_at hl 0 rfl) ?_
  refine sw_ki (rest := [.int r1]) (sw_runV (As := []) (rest := [.int r1]) hx hb hml hown hts (kX6_assignmentsByDoors l g M _ h) cv_X6_assignmentsByDoors q_763 rfl rfl ⟨(Nat.le_of_ble_eq_true rfl), (Nat.le_of_ble_eq_true rfl)⟩ hW (Or.inl (Nat.le_of_ble_eq_true rfl)) sl_0 rfl rfl hl.1 rfl (Nat.le_of_ble_eq_true rfl) dX6_isConsistent_5 ⟨(Nat.le_of_ble_eq_true rfl), (Nat.le_of_ble_eq_true rfl)⟩) hW (fun r2 M15 H locs h hW => ?_)
  obtain ⟨h, eM15⟩ := h
  rw [eM15] at hW
  refine lv_icmp_ne (tgt := 54) hx hb dX6_isConsistent_8 (by decide) (fun k3 => ?_) (fun k3 => ?_)
  · have h := h.2 k3
    refine lv_iconst (v := 0) hx hb dX6_isConsistent_54 (by decide) ?_
    exact sw_ri hx hb hr hlocks hW (by decide) h dX6_isConsistent_55
  · have h := h.1 k3
    refine lv_aload_n hx hb dX6_isConsistent_11 rfl (lv_at hl 0 rfl) ?_
    refine sw_gr (j := 4) (r := 3) hx hb hts hown hW rfl qf_6 (Or.inl (Nat.le_of_ble_eq_true rfl)) sl_0 rfl (Nat.le_of_ble_eq_true rfl) q_154 dX6_isConsistent_12 ?_
    refine lv_aload_n hx hb dX6_isConsistent_15 rfl (lv_at hl 0 rfl) ?_
    refine sw_gr (j := 0) (r := (sw_st 0)) hx hb hts hown hW rfl qf_6 (Or.inl (Nat.le_of_ble_eq_true rfl)) sl_0 rfl (Nat.le_of_ble_eq_true rfl) q_150 dX6_isConsistent_16 ?_
    refine sw_ki (rest := []) (sw_runV (As := [.ref (sw_ad g (sw_st 0))]) (rest := []) hx hb hml hown hts (kX3_sizeByExchanges l g 0 (Nat.le_of_ble_eq_true rfl) M _ h) cv_X3_sizeByExchanges q_642 rfl rfl ⟨(Nat.le_of_ble_eq_true rfl), (Nat.le_of_ble_eq_true rfl)⟩ hW (Or.inl (Nat.le_of_ble_eq_true rfl)) sl_3 rfl rfl hl.1 rfl (Nat.le_of_ble_eq_true rfl) dX6_isConsistent_19 ⟨(Nat.le_of_ble_eq_true rfl), (Nat.le_of_ble_eq_true rfl)⟩) hW (fun r4 M5 H locs h hW => ?_)
    refine lv_aload_n hx hb dX6_isConsistent_22 rfl (lv_at hl 0 rfl) ?_
    refine sw_gr (j := 4) (r := 3) hx hb hts hown hW rfl qf_6 (Or.inl (Nat.le_of_ble_eq_true rfl)) sl_0 rfl (Nat.le_of_ble_eq_true rfl) q_154 dX6_isConsistent_23 ?_
    refine lv_aload_n hx hb dX6_isConsistent_26 rfl (lv_at hl 0 rfl) ?_
    refine sw_gr (j := 0) (r := (sw_st 0)) hx hb hts hown hW rfl qf_6 (Or.inl (Nat.le_of_ble_eq_true rfl)) sl_0 rfl (Nat.le_of_ble_eq_true rfl) q_150 dX6_isConsistent_27 ?_
    refine sw_ki (rest := [.int r4]) (sw_runV (As := [.ref (sw_ad g (sw_st 0))]) (rest := [.int r4]) hx hb hml hown hts (kX3_sizeBySets l g 0 (Nat.le_of_ble_eq_true rfl) M5 _ h) cv_X3_sizeBySets q_650 rfl rfl ⟨(Nat.le_of_ble_eq_true rfl), (Nat.le_of_ble_eq_true rfl)⟩ hW (Or.inl (Nat.le_of_ble_eq_true rfl)) sl_3 rfl rfl hl.1 rfl (Nat.le_of_ble_eq_true rfl) dX6_isConsistent_30 ⟨(Nat.le_of_ble_eq_true rfl), (Nat.le_of_ble_eq_true rfl)⟩) hW (fun r6 M7 H locs h hW => ?_)
    refine lv_icmp_ne (tgt := 54) hx hb dX6_isConsistent_33 (by decide) (fun k8 => ?_) (fun k8 => ?_)
    · have h := h.2 k8
      refine lv_iconst (v := 0) hx hb dX6_isConsistent_54 (by decide) ?_
      exact sw_ri hx hb hr hlocks hW (by decide) h dX6_isConsistent_55
    · have h := h.1 k8
      refine lv_aload_n hx hb dX6_isConsistent_36 rfl (lv_at hl 0 rfl) ?_
      refine sw_ki (rest := []) (sw_runV (As := []) (rest := []) hx hb hml hown hts (kX6_panelCountsAgree l g M7 _ h) cv_X6_panelCountsAgree q_764 rfl rfl ⟨(Nat.le_of_ble_eq_true rfl), (Nat.le_of_ble_eq_true rfl)⟩ hW (Or.inl (Nat.le_of_ble_eq_true rfl)) sl_0 rfl rfl hl.1 rfl (Nat.le_of_ble_eq_true rfl) dX6_isConsistent_37 ⟨(Nat.le_of_ble_eq_true rfl), (Nat.le_of_ble_eq_true rfl)⟩) hW (fun r9 M10 H locs h hW => ?_)
      refine lv_if_eq (tgt := 54) hx hb dX6_isConsistent_40 (by decide) (fun k11 => ?_) (fun k11 => ?_)
      · have h := h.1 k11
        refine lv_iconst (v := 0) hx hb dX6_isConsistent_54 (by decide) ?_
        exact sw_ri hx hb hr hlocks hW (by decide) h dX6_isConsistent_55
      · have h := h.2 k11
        refine lv_aload_n hx hb dX6_isConsistent_43 rfl (lv_at hl 0 rfl) ?_
        refine sw_ki (rest := []) (sw_runV (As := []) (rest := []) hx hb hml hown hts (kX6_framesDiffer l g M10 _ h) cv_X6_framesDiffer q_767 rfl rfl ⟨(Nat.le_of_ble_eq_true rfl), (Nat.le_of_ble_eq_true rfl)⟩ hW (Or.inl (Nat.le_of_ble_eq_true rfl)) sl_0 rfl rfl hl.1 rfl (Nat.le_of_ble_eq_true rfl) dX6_isConsistent_44 ⟨(Nat.le_of_ble_eq_true rfl), (Nat.le_of_ble_eq_true rfl)⟩) hW (fun r12 M14 H locs h hW => ?_)
        obtain ⟨h, eM14⟩ := h
        rw [eM14] at hW
        refine lv_if_eq (tgt := 54) hx hb dX6_isConsistent_47 (by decide) (fun k13 => ?_) (fun k13 => ?_)
        · have h := h.1 k13
          refine lv_iconst (v := 0) hx hb dX6_isConsistent_54 (by decide) ?_
          exact sw_ri hx hb hr hlocks hW (by decide) h dX6_isConsistent_55
        · have h := h.2 k13
          refine lv_iconst (v := 1) hx hb dX6_isConsistent_50 (by decide) ?_
          refine lv_goto (tgt := 55) hx hb dX6_isConsistent_51 (by decide) ?_
          exact sw_ri hx hb hr hlocks hW (by decide) h dX6_isConsistent_55

theorem cv_X6_append : sw_cV yX6_append RX6 cX6_append 2 (some .int) 1 := ⟨q_1084, q_1085, q_2, q_1086, by decide +kernel⟩
def wX6_append (a1 : Int32) (M : sM) (Q : Int32 → sM → Prop) (X : String → sM → Prop) : Prop :=
  wX4_isFull M (fun r1 => (r1 = 0 → (wX4_extend a1 M (fun M3 => Q (M3 14 1) M3))) ∧ (¬ r1 = 0 → (X "java/lang/IllegalStateException" M)))
set_option maxRecDepth 20000 in
theorem kX6_append (l : Launch) (hst : l.stackTraces = false) (g : sG) (a1 : Int32) (M : sM) (Q : Int32 → sM → Prop) (X : String → sM → Prop) (h : wX6_append a1 M Q X) : vx_Met l yX6_append (sw_ws yX6_append cX6_append 2 (some .int)) { frames := 6, cells := 1, slots := 6, locals := 95 } (va_Pc [.ref (sw_ad g 0), .int a1] (sw_Pr g M)) (va_Qi Q (sw_Po g) (sw_A g)) (sw_XC g X) 1 6 (sw_A g) := by
  refine sw_xmet (by decide) (Nat.le_of_ble_eq_true rfl) ?_
  intro p e s m args below meth c ls hx hb hr hts hown hml hlocks hnt hW hl
  have hown : s.vm.findClass RX6 = some m.cls := hown
  have hl : lv_has ls 2 [(0, .ref (sw_ad g 0)), (1, .int a1)] := hl
  unfold wX6_append at h
  refine lv_aload_n hx hb dX6_append_0 rfl (lv_at hl 0 rfl) ?_
  refine sw_gr (j := 6) (r := 14) hx hb hts hown hW rfl qf_6 (Or.inl (Nat.le_of_ble_eq_true rfl)) sl_0 rfl (Nat.le_of_ble_eq_true rfl) q_156 dX6_append_1 ?_
  refine sw_ki (rest := []) (sw_runV (As := []) (rest := []) hx hb hml hown hts (kX4_isFull l g M _ h) cv_X4_isFull q_1087 rfl rfl ⟨(Nat.le_of_ble_eq_true rfl), (Nat.le_of_ble_eq_true rfl)⟩ hW (Or.inl (Nat.le_of_ble_eq_true rfl)) sl_14 rfl rfl hl.1 rfl (Nat.le_of_ble_eq_true rfl) dX6_append_4 ⟨(Nat.le_of_ble_eq_true rfl), (Nat.le_of_ble_eq_true rfl)⟩) hW (fun r1 M4 H locs h hW => ?_)
  obtain ⟨h, eM4⟩ := h
  rw [eM4] at hW
  refine lv_if_eq (tgt := 18) hx hb dX6_append_7 (by decide) (fun k2 => ?_) (fun k2 => ?_)
  · have h := h.1 k2
    refine lv_aload_n hx hb dX6_append_18 rfl (lv_at hl 0 rfl) ?_
    refine sw_gr (j := 6) (r := 14) hx hb hts hown hW rfl qf_6 (Or.inl (Nat.le_of_ble_eq_true rfl)) sl_0 rfl (Nat.le_of_ble_eq_true rfl) q_156 dX6_append_19 ?_
    refine lv_iload_n hx hb dX6_append_22 rfl (lv_at hl 1 rfl) ?_
    refine sw_kv (rest := []) (sw_runV (As := [.int a1]) (rest := []) hx hb hml hown hts (kX4_extend l g a1 M _ h) cv_X4_extend q_1091 rfl rfl ⟨(Nat.le_of_ble_eq_true rfl), (Nat.le_of_ble_eq_true rfl)⟩ hW (Or.inl (Nat.le_of_ble_eq_true rfl)) sl_14 rfl rfl hl.1 rfl (Nat.le_of_ble_eq_true rfl) dX6_append_23 ⟨(Nat.le_of_ble_eq_true rfl), (Nat.le_of_ble_eq_true rfl)⟩) hW (fun  M3 H locs h hW => ?_)
    refine lv_aload_n hx hb dX6_append_26 rfl (lv_at hl 0 rfl) ?_
    refine sw_gr (j := 6) (r := 14) hx hb hts hown hW rfl qf_6 (Or.inl (Nat.le_of_ble_eq_true rfl)) sl_0 rfl (Nat.le_of_ble_eq_true rfl) q_156 dX6_append_27 ?_
    refine sw_gi (j := 1) hx hb hts hown hW rfl qf_4 (Or.inl (Nat.le_of_ble_eq_true rfl)) sl_14 rfl (Nat.le_of_ble_eq_true rfl) q_134 dX6_append_30 ?_
    refine W.widen (k := 1) (n := 6) (Nat.le_of_ble_eq_true rfl) (Nat.le_of_ble_eq_true rfl) ?_
    refine vx_ret ?_
    exact sw_ri hx hb hr hlocks hW rfl h dX6_append_33
  · have h := h.2 k2
    exact sw_throw hx hb hst hown hts th_252 hW (hl.1.trans hml.symm) dX6_append_10 dX6_append_13 dX6_append_14 dX6_append_17 hnt (Nat.le_of_ble_eq_true rfl) (Nat.le_of_ble_eq_true rfl) (Nat.le_of_ble_eq_true rfl) (Nat.le_of_ble_eq_true rfl) hlocks h (Nat.le_of_ble_eq_true rfl) (Nat.le_of_ble_eq_true rfl)

theorem cv_X6_perform : sw_cV yX6_perform RX6 cX6_perform 6 (some .int) 2 := ⟨q_1137, q_1173, q_2, q_1138, by decide +kernel⟩
def wX6_perform (a1 : Int32) (w2 : Nat) (M : sM) (Q : Int32 → sM → Prop) : Prop :=
  ∀ v1 : Int32, v1 = (M (18 + w2) ((0 : Int32)).toNatClampNeg) → (∀ v2 : Int32, v2 = (M (18 + w2) ((1 : Int32)).toNatClampNeg) → (∀ v3 : Int32, v3 = (M (18 + w2) ((2 : Int32)).toNatClampNeg) → ((a1 = (0 : Int32) → (∀ v25 : Int32, v25 = ((v1).toUInt32 % 65536).toInt32 → (wX5_tryNewDoor 0 v25 v2 M (fun r26 M27 => Q r26 M27)))) ∧ (¬ a1 = (0 : Int32) → ((a1 = (1 : Int32) → (∀ v22 : Int32, v22 = ((v1).toUInt32 % 65536).toInt32 → (wX5_tryNewExaminer 0 v22 v2 v3 (M (18 + w2) ((3 : Int32)).toNatClampNeg) M (fun r23 M24 => Q r23 M24)))) ∧ (¬ a1 = (1 : Int32) → ((a1 = (2 : Int32) → (wX5_tryConflict 0 v1 v2 M (fun r20 M21 => Q r20 M21))) ∧ (¬ a1 = (2 : Int32) → ((a1 = (3 : Int32) → (wX5_tryAssignment 0 v1 v2 M (fun r18 M19 => Q r18 M19))) ∧ (¬ a1 = (3 : Int32) → ((a1 = (4 : Int32) → (wX3_findBest 0 M (fun M15 => wX5_putPlan 0 M15 (fun r16 M17 => Q r16 M17)))) ∧ (¬ a1 = (4 : Int32) → ((a1 = (5 : Int32) → (wX5_tryGrade 0 v1 v2 v3 M (fun r13 M14 => Q r13 M14))) ∧ (¬ a1 = (5 : Int32) → ((a1 = (6 : Int32) → (wX5_tryThreshold 0 v1 M (fun r11 M12 => Q r11 M12))) ∧ (¬ a1 = (6 : Int32) → ((a1 = (7 : Int32) → (wX2_tryAppeal 0 v1 M (fun r9 M10 => Q r9 M10))) ∧ (¬ a1 = (7 : Int32) → ((a1 = (8 : Int32) → (wX5_tryAward 0 v1 M (fun r7 M8 => Q r7 M8))) ∧ (¬ a1 = (8 : Int32) → (wX5_tryRevocation 0 v1 M (fun r4 M5 => Q r4 M5))))))))))))))))))))))
set_option maxRecDepth 20000 in
theorem kX6_perform (l : Launch) (g : sG) (a1 : Int32) (w2 : Nat) (hw2 : w2 < 13) (M : sM) (Q : Int32 → sM → Prop) (h : wX6_perform a1 w2 M Q) : Met l yX6_perform (sw_ws yX6_perform cX6_perform 6 (some .int)) { frames := 5, cells := 0, slots := 0, locals := 121 } (va_Pc [.ref (sw_ad g 0), .int a1, .ref (sw_ad g (18 + w2))] (sw_Pr g M)) (va_Qi Q (sw_Po g) (sw_A g)) 0 0 (sw_A g) := by
  refine sw_met (by decide) (Nat.le_of_ble_eq_true rfl) ?_
  intro p e s m args below meth c ls hx hb hr hts hown hml hlocks hW hl
  have hown : s.vm.findClass RX6 = some m.cls := hown
  have hl : lv_has ls 6 [(0, .ref (sw_ad g 0)), (1, .int a1), (2, .ref (sw_ad g (18 + w2)))] := hl
  unfold wX6_perform at h
  refine lv_aload_n hx hb dX6_perform_0 rfl (lv_at hl 2 rfl) ?_
  refine lv_iconst (v := 0) hx hb dX6_perform_1 (by decide) ?_
  refine sw_ia (n := 4) hx hb hW (sw_o_lt hw2) (sw_lay_o hw2) (vp_in_iff.mpr (by decide)) dX6_perform_2 ?_
  refine lv_topi (fun v1 ev1 => ?_)
  have h := h v1 ev1
  refine lv_istore_n (lv' := [(3, .int v1), (0, .ref (sw_ad g 0)), (1, .int a1), (2, .ref (sw_ad g (18 + w2)))]) hx hb dX6_perform_3 rfl hl (Nat.le_of_ble_eq_true rfl) rfl (fun ls hl => ?_)
  refine lv_aload_n hx hb dX6_perform_4 rfl (lv_at hl 3 rfl) ?_
  refine lv_iconst (v := 1) hx hb dX6_perform_5 (by decide) ?_
  refine sw_ia (n := 4) hx hb hW (sw_o_lt hw2) (sw_lay_o hw2) (vp_in_iff.mpr (by decide)) dX6_perform_6 ?_
  refine lv_topi (fun v2 ev2 => ?_)
  have h := h v2 ev2
  refine lv_istore (lv' := [(4, .int v2), (3, .int v1), (0, .ref (sw_ad g 0)), (1, .int a1), (2, .ref (sw_ad g (18 + w2)))]) hx hb dX6_perform_7 hl (Nat.le_of_ble_eq_true rfl) rfl (fun ls hl => ?_)
  refine lv_aload_n hx hb dX6_perform_9 rfl (lv_at hl 4 rfl) ?_
  refine lv_iconst (v := 2) hx hb dX6_perform_10 (by decide) ?_
  refine sw_ia (n := 4) hx hb hW (sw_o_lt hw2) (sw_lay_o hw2) (vp_in_iff.mpr (by decide)) dX6_perform_11 ?_
  refine lv_topi (fun v3 ev3 => ?_)
  have h := h v3 ev3
  refine lv_istore (lv' := [(5, .int v3), (4, .int v2), (3, .int v1), (0, .ref (sw_ad g 0)), (1, .int a1), (2, .ref (sw_ad g (18 + w2)))]) hx hb dX6_perform_12 hl (Nat.le_of_ble_eq_true rfl) rfl (fun ls hl => ?_)
  refine lv_iload_n hx hb dX6_perform_14 rfl (lv_at hl 4 rfl) ?_
  by_cases k6_0 : a1 = (0 : Int32)
  · have h := h.1 k6_0
    refine lv_tableIn (tgt := 64) hx hb dX6_perform_15 (by rw [k6_0]; decide) (by rw [k6_0]; decide) (by rw [k6_0]; rfl) (by decide) ?_
    refine lv_aload_n hx hb dX6_perform_64 rfl (lv_at hl 3 rfl) ?_
    refine sw_gr (j := 0) (r := (sw_st 0)) hx hb hts hown hW rfl qf_6 (Or.inl (Nat.le_of_ble_eq_true rfl)) sl_0 rfl (Nat.le_of_ble_eq_true rfl) q_150 dX6_perform_65 ?_
    refine lv_iload_n hx hb dX6_perform_68 rfl (lv_at hl 2 rfl) ?_
    refine lv_i2c hx hb dX6_perform_69 rfl ?_
    refine lv_topi (fun v25 ev25 => ?_)
    have h := h v25 ev25
    refine lv_iload hx hb dX6_perform_70 (lv_at hl 1 rfl) ?_
    refine sw_ki (rest := []) (sw_runV (As := [.int v25, .int v2]) (rest := []) hx hb hml hown hts (kX5_tryNewDoor l g 0 (Nat.le_of_ble_eq_true rfl) v25 v2 M _ h) cv_X5_tryNewDoor q_180 rfl rfl ⟨(Nat.le_of_ble_eq_true rfl), (Nat.le_of_ble_eq_true rfl)⟩ hW (sw_st_lt0 (Nat.le_of_ble_eq_true rfl)) (sw_lay_so 0) rfl rfl hl.1 rfl (Nat.le_of_ble_eq_true rfl) dX6_perform_72 ⟨(Nat.le_of_ble_eq_true rfl), (Nat.le_of_ble_eq_true rfl)⟩) hW (fun r26 M27 H locs h hW => ?_)
    exact sw_ri hx hb hr hlocks hW rfl h dX6_perform_75
  · have h := h.2 k6_0
    by_cases k6_1 : a1 = (1 : Int32)
    · have h := h.1 k6_1
      refine lv_tableIn (tgt := 76) hx hb dX6_perform_15 (by rw [k6_1]; decide) (by rw [k6_1]; decide) (by rw [k6_1]; rfl) (by decide) ?_
      refine lv_aload_n hx hb dX6_perform_76 rfl (lv_at hl 3 rfl) ?_
      refine sw_gr (j := 0) (r := (sw_st 0)) hx hb hts hown hW rfl qf_6 (Or.inl (Nat.le_of_ble_eq_true rfl)) sl_0 rfl (Nat.le_of_ble_eq_true rfl) q_150 dX6_perform_77 ?_
      refine lv_iload_n hx hb dX6_perform_80 rfl (lv_at hl 2 rfl) ?_
      refine lv_i2c hx hb dX6_perform_81 rfl ?_
      refine lv_topi (fun v22 ev22 => ?_)
      have h := h v22 ev22
      refine lv_iload hx hb dX6_perform_82 (lv_at hl 1 rfl) ?_
      refine lv_iload hx hb dX6_perform_84 (lv_at hl 0 rfl) ?_
      refine lv_aload_n hx hb dX6_perform_86 rfl (lv_at hl 5 rfl) ?_
      refine lv_iconst (v := 3) hx hb dX6_perform_87 (by decide) ?_
      refine sw_ia (n := 4) hx hb hW (sw_o_lt hw2) (sw_lay_o hw2) (vp_in_iff.mpr (by decide)) dX6_perform_88 ?_
      refine sw_ki (rest := []) (sw_runV (As := [.int v22, .int v2, .int v3, .int (M (18 + w2) ((3 : Int32)).toNatClampNeg)]) (rest := []) hx hb hml hown hts (kX5_tryNewExaminer l g 0 (Nat.le_of_ble_eq_true rfl) v22 v2 v3 (M (18 + w2) ((3 : Int32)).toNatClampNeg) M _ h) cv_X5_tryNewExaminer q_269 rfl rfl ⟨(Nat.le_of_ble_eq_true rfl), (Nat.le_of_ble_eq_true rfl)⟩ hW (sw_st_lt0 (Nat.le_of_ble_eq_true rfl)) (sw_lay_so 0) rfl rfl hl.1 rfl (Nat.le_of_ble_eq_true rfl) dX6_perform_89 ⟨(Nat.le_of_ble_eq_true rfl), (Nat.le_of_ble_eq_true rfl)⟩) hW (fun r23 M24 H locs h hW => ?_)
      exact sw_ri hx hb hr hlocks hW rfl h dX6_perform_92
    · have h := h.2 k6_1
      by_cases k6_2 : a1 = (2 : Int32)
      · have h := h.1 k6_2
        refine lv_tableIn (tgt := 93) hx hb dX6_perform_15 (by rw [k6_2]; decide) (by rw [k6_2]; decide) (by rw [k6_2]; rfl) (by decide) ?_
        refine lv_aload_n hx hb dX6_perform_93 rfl (lv_at hl 3 rfl) ?_
        refine sw_gr (j := 0) (r := (sw_st 0)) hx hb hts hown hW rfl qf_6 (Or.inl (Nat.le_of_ble_eq_true rfl)) sl_0 rfl (Nat.le_of_ble_eq_true rfl) q_150 dX6_perform_94 ?_
        refine lv_iload_n hx hb dX6_perform_97 rfl (lv_at hl 2 rfl) ?_
        refine lv_iload hx hb dX6_perform_98 (lv_at hl 1 rfl) ?_
        refine sw_ki (rest := []) (sw_runV (As := [.int v1, .int v2]) (rest := []) hx hb hml hown hts (kX5_tryConflict l g 0 (Nat.le_of_ble_eq_true rfl) v1 v2 M _ h) cv_X5_tryConflict q_390 rfl rfl ⟨(Nat.le_of_ble_eq_true rfl), (Nat.le_of_ble_eq_true rfl)⟩ hW (sw_st_lt0 (Nat.le_of_ble_eq_true rfl)) (sw_lay_so 0) rfl rfl hl.1 rfl (Nat.le_of_ble_eq_true rfl) dX6_perform_100 ⟨(Nat.le_of_ble_eq_true rfl), (Nat.le_of_ble_eq_true rfl)⟩) hW (fun r20 M21 H locs h hW => ?_)
        exact sw_ri hx hb hr hlocks hW rfl h dX6_perform_103
      · have h := h.2 k6_2
        by_cases k6_3 : a1 = (3 : Int32)
        · have h := h.1 k6_3
          refine lv_tableIn (tgt := 104) hx hb dX6_perform_15 (by rw [k6_3]; decide) (by rw [k6_3]; decide) (by rw [k6_3]; rfl) (by decide) ?_
          refine lv_aload_n hx hb dX6_perform_104 rfl (lv_at hl 3 rfl) ?_
          refine sw_gr (j := 0) (r := (sw_st 0)) hx hb hts hown hW rfl qf_6 (Or.inl (Nat.le_of_ble_eq_true rfl)) sl_0 rfl (Nat.le_of_ble_eq_true rfl) q_150 dX6_perform_105 ?_
          refine lv_iload_n hx hb dX6_perform_108 rfl (lv_at hl 2 rfl) ?_
          refine lv_iload hx hb dX6_perform_109 (lv_at hl 1 rfl) ?_
          refine sw_ki (rest := []) (sw_runV (As := [.int v1, .int v2]) (rest := []) hx hb hml hown hts (kX5_tryAssignment l g 0 (Nat.le_of_ble_eq_true rfl) v1 v2 M _ h) cv_X5_tryAssignment q_298 rfl rfl ⟨(Nat.le_of_ble_eq_true rfl), (Nat.le_of_ble_eq_true rfl)⟩ hW (sw_st_lt0 (Nat.le_of_ble_eq_true rfl)) (sw_lay_so 0) rfl rfl hl.1 rfl (Nat.le_of_ble_eq_true rfl) dX6_perform_111 ⟨(Nat.le_of_ble_eq_true rfl), (Nat.le_of_ble_eq_true rfl)⟩) hW (fun r18 M19 H locs h hW => ?_)
          exact sw_ri hx hb hr hlocks hW rfl h dX6_perform_114
        · have h := h.2 k6_3
          by_cases k6_4 : a1 = (4 : Int32)
          · have h := h.1 k6_4
            refine lv_tableIn (tgt := 115) hx hb dX6_perform_15 (by rw [k6_4]; decide) (by rw [k6_4]; decide) (by rw [k6_4]; rfl) (by decide) ?_
            refine lv_aload_n hx hb dX6_perform_115 rfl (lv_at hl 3 rfl) ?_
            refine sw_gr (j := 4) (r := 3) hx hb hts hown hW rfl qf_6 (Or.inl (Nat.le_of_ble_eq_true rfl)) sl_0 rfl (Nat.le_of_ble_eq_true rfl) q_154 dX6_perform_116 ?_
            refine lv_aload_n hx hb dX6_perform_119 rfl (lv_at hl 3 rfl) ?_
            refine sw_gr (j := 0) (r := (sw_st 0)) hx hb hts hown hW rfl qf_6 (Or.inl (Nat.le_of_ble_eq_true rfl)) sl_0 rfl (Nat.le_of_ble_eq_true rfl) q_150 dX6_perform_120 ?_
            refine sw_kv (rest := []) (sw_runV (As := [.ref (sw_ad g (sw_st 0))]) (rest := []) hx hb hml hown hts (kX3_findBest l g 0 (Nat.le_of_ble_eq_true rfl) M _ h) cv_X3_findBest q_350 rfl rfl ⟨(Nat.le_of_ble_eq_true rfl), (Nat.le_of_ble_eq_true rfl)⟩ hW (Or.inl (Nat.le_of_ble_eq_true rfl)) sl_3 rfl rfl hl.1 rfl (Nat.le_of_ble_eq_true rfl) dX6_perform_123 ⟨(Nat.le_of_ble_eq_true rfl), (Nat.le_of_ble_eq_true rfl)⟩) hW (fun  M15 H locs h hW => ?_)
            refine lv_aload_n hx hb dX6_perform_126 rfl (lv_at hl 3 rfl) ?_
            refine sw_gr (j := 0) (r := (sw_st 0)) hx hb hts hown hW rfl qf_6 (Or.inl (Nat.le_of_ble_eq_true rfl)) sl_0 rfl (Nat.le_of_ble_eq_true rfl) q_150 dX6_perform_127 ?_
            refine lv_aload_n hx hb dX6_perform_130 rfl (lv_at hl 3 rfl) ?_
            refine sw_gr (j := 4) (r := 3) hx hb hts hown hW rfl qf_6 (Or.inl (Nat.le_of_ble_eq_true rfl)) sl_0 rfl (Nat.le_of_ble_eq_true rfl) q_154 dX6_perform_131 ?_
            refine sw_gr (j := 3) (r := 6) hx hb hts hown hW rfl qf_3 (Or.inl (Nat.le_of_ble_eq_true rfl)) sl_3 rfl (Nat.le_of_ble_eq_true rfl) q_114 dX6_perform_134 ?_
            refine sw_ki (rest := []) (sw_runV (As := [.ref (sw_ad g 6)]) (rest := []) hx hb hml hown hts (kX5_putPlan l g 0 (Nat.le_of_ble_eq_true rfl) M15 _ h) cv_X5_putPlan q_380 rfl rfl ⟨(Nat.le_of_ble_eq_true rfl), (Nat.le_of_ble_eq_true rfl)⟩ hW (sw_st_lt0 (Nat.le_of_ble_eq_true rfl)) (sw_lay_so 0) rfl rfl hl.1 rfl (Nat.le_of_ble_eq_true rfl) dX6_perform_137 ⟨(Nat.le_of_ble_eq_true rfl), (Nat.le_of_ble_eq_true rfl)⟩) hW (fun r16 M17 H locs h hW => ?_)
            exact sw_ri hx hb hr hlocks hW rfl h dX6_perform_140
          · have h := h.2 k6_4
            by_cases k6_5 : a1 = (5 : Int32)
            · have h := h.1 k6_5
              refine lv_tableIn (tgt := 141) hx hb dX6_perform_15 (by rw [k6_5]; decide) (by rw [k6_5]; decide) (by rw [k6_5]; rfl) (by decide) ?_
              refine lv_aload_n hx hb dX6_perform_141 rfl (lv_at hl 3 rfl) ?_
              refine sw_gr (j := 0) (r := (sw_st 0)) hx hb hts hown hW rfl qf_6 (Or.inl (Nat.le_of_ble_eq_true rfl)) sl_0 rfl (Nat.le_of_ble_eq_true rfl) q_150 dX6_perform_142 ?_
              refine lv_iload_n hx hb dX6_perform_145 rfl (lv_at hl 2 rfl) ?_
              refine lv_iload hx hb dX6_perform_146 (lv_at hl 1 rfl) ?_
              refine lv_iload hx hb dX6_perform_148 (lv_at hl 0 rfl) ?_
              refine sw_ki (rest := []) (sw_runV (As := [.int v1, .int v2, .int v3]) (rest := []) hx hb hml hown hts (kX5_tryGrade l g 0 (Nat.le_of_ble_eq_true rfl) v1 v2 v3 M _ h) cv_X5_tryGrade q_404 rfl rfl ⟨(Nat.le_of_ble_eq_true rfl), (Nat.le_of_ble_eq_true rfl)⟩ hW (sw_st_lt0 (Nat.le_of_ble_eq_true rfl)) (sw_lay_so 0) rfl rfl hl.1 rfl (Nat.le_of_ble_eq_true rfl) dX6_perform_150 ⟨(Nat.le_of_ble_eq_true rfl), (Nat.le_of_ble_eq_true rfl)⟩) hW (fun r13 M14 H locs h hW => ?_)
              exact sw_ri hx hb hr hlocks hW rfl h dX6_perform_153
            · have h := h.2 k6_5
              by_cases k6_6 : a1 = (6 : Int32)
              · have h := h.1 k6_6
                refine lv_tableIn (tgt := 154) hx hb dX6_perform_15 (by rw [k6_6]; decide) (by rw [k6_6]; decide) (by rw [k6_6]; rfl) (by decide) ?_
                refine lv_aload_n hx hb dX6_perform_154 rfl (lv_at hl 3 rfl) ?_
                refine sw_gr (j := 0) (r := (sw_st 0)) hx hb hts hown hW rfl qf_6 (Or.inl (Nat.le_of_ble_eq_true rfl)) sl_0 rfl (Nat.le_of_ble_eq_true rfl) q_150 dX6_perform_155 ?_
                refine lv_iload_n hx hb dX6_perform_158 rfl (lv_at hl 2 rfl) ?_
                refine sw_ki (rest := []) (sw_runV (As := [.int v1]) (rest := []) hx hb hml hown hts (kX5_tryThreshold l g 0 (Nat.le_of_ble_eq_true rfl) v1 M _ h) cv_X5_tryThreshold q_418 rfl rfl ⟨(Nat.le_of_ble_eq_true rfl), (Nat.le_of_ble_eq_true rfl)⟩ hW (sw_st_lt0 (Nat.le_of_ble_eq_true rfl)) (sw_lay_so 0) rfl rfl hl.1 rfl (Nat.le_of_ble_eq_true rfl) dX6_perform_159 ⟨(Nat.le_of_ble_eq_true rfl), (Nat.le_of_ble_eq_true rfl)⟩) hW (fun r11 M12 H locs h hW => ?_)
                exact sw_ri hx hb hr hlocks hW rfl h dX6_perform_162
              · have h := h.2 k6_6
                by_cases k6_7 : a1 = (7 : Int32)
                · have h := h.1 k6_7
                  refine lv_tableIn (tgt := 163) hx hb dX6_perform_15 (by rw [k6_7]; decide) (by rw [k6_7]; decide) (by rw [k6_7]; rfl) (by decide) ?_
                  refine lv_aload_n hx hb dX6_perform_163 rfl (lv_at hl 3 rfl) ?_
                  refine sw_gr (j := 5) (r := 12) hx hb hts hown hW rfl qf_6 (Or.inl (Nat.le_of_ble_eq_true rfl)) sl_0 rfl (Nat.le_of_ble_eq_true rfl) q_155 dX6_perform_164 ?_
                  refine lv_aload_n hx hb dX6_perform_167 rfl (lv_at hl 3 rfl) ?_
                  refine sw_gr (j := 0) (r := (sw_st 0)) hx hb hts hown hW rfl qf_6 (Or.inl (Nat.le_of_ble_eq_true rfl)) sl_0 rfl (Nat.le_of_ble_eq_true rfl) q_150 dX6_perform_168 ?_
                  refine lv_iload_n hx hb dX6_perform_171 rfl (lv_at hl 2 rfl) ?_
                  refine sw_ki (rest := []) (sw_runV (As := [.ref (sw_ad g (sw_st 0)), .int v1]) (rest := []) hx hb hml hown hts (kX2_tryAppeal l g 0 (Nat.le_of_ble_eq_true rfl) v1 M _ h) cv_X2_tryAppeal q_428 rfl rfl ⟨(Nat.le_of_ble_eq_true rfl), (Nat.le_of_ble_eq_true rfl)⟩ hW (Or.inl (Nat.le_of_ble_eq_true rfl)) sl_12 rfl rfl hl.1 rfl (Nat.le_of_ble_eq_true rfl) dX6_perform_172 ⟨(Nat.le_of_ble_eq_true rfl), (Nat.le_of_ble_eq_true rfl)⟩) hW (fun r9 M10 H locs h hW => ?_)
                  exact sw_ri hx hb hr hlocks hW rfl h dX6_perform_175
                · have h := h.2 k6_7
                  by_cases k6_8 : a1 = (8 : Int32)
                  · have h := h.1 k6_8
                    refine lv_tableIn (tgt := 176) hx hb dX6_perform_15 (by rw [k6_8]; decide) (by rw [k6_8]; decide) (by rw [k6_8]; rfl) (by decide) ?_
                    refine lv_aload_n hx hb dX6_perform_176 rfl (lv_at hl 3 rfl) ?_
                    refine sw_gr (j := 0) (r := (sw_st 0)) hx hb hts hown hW rfl qf_6 (Or.inl (Nat.le_of_ble_eq_true rfl)) sl_0 rfl (Nat.le_of_ble_eq_true rfl) q_150 dX6_perform_177 ?_
                    refine lv_iload_n hx hb dX6_perform_180 rfl (lv_at hl 2 rfl) ?_
                    refine sw_ki (rest := []) (sw_runV (As := [.int v1]) (rest := []) hx hb hml hown hts (kX5_tryAward l g 0 (Nat.le_of_ble_eq_true rfl) v1 M _ h) cv_X5_tryAward q_467 rfl rfl ⟨(Nat.le_of_ble_eq_true rfl), (Nat.le_of_ble_eq_true rfl)⟩ hW (sw_st_lt0 (Nat.le_of_ble_eq_true rfl)) (sw_lay_so 0) rfl rfl hl.1 rfl (Nat.le_of_ble_eq_true rfl) dX6_perform_181 ⟨(Nat.le_of_ble_eq_true rfl), (Nat.le_of_ble_eq_true rfl)⟩) hW (fun r7 M8 H locs h hW => ?_)
                    exact sw_ri hx hb hr hlocks hW rfl h dX6_perform_184
                  · have h := h.2 k6_8
                    refine sw_tdef (tgt := 185) hx hb dX6_perform_15 (by intro hz; exfalso; have e0 := lv_neT k6_0 (by decide : ((0) : Int32).toInt = 0); have e1 := lv_neT k6_1 (by decide : ((1) : Int32).toInt = 1); have e2 := lv_neT k6_2 (by decide : ((2) : Int32).toInt = 2); have e3 := lv_neT k6_3 (by decide : ((3) : Int32).toInt = 3); have e4 := lv_neT k6_4 (by decide : ((4) : Int32).toInt = 4); have e5 := lv_neT k6_5 (by decide : ((5) : Int32).toInt = 5); have e6 := lv_neT k6_6 (by decide : ((6) : Int32).toInt = 6); have e7 := lv_neT k6_7 (by decide : ((7) : Int32).toInt = 7); have e8 := lv_neT k6_8 (by decide : ((8) : Int32).toInt = 8); omega) (by decide) ?_
                    refine lv_aload_n hx hb dX6_perform_185 rfl (lv_at hl 3 rfl) ?_
                    refine sw_gr (j := 0) (r := (sw_st 0)) hx hb hts hown hW rfl qf_6 (Or.inl (Nat.le_of_ble_eq_true rfl)) sl_0 rfl (Nat.le_of_ble_eq_true rfl) q_150 dX6_perform_186 ?_
                    refine lv_iload_n hx hb dX6_perform_189 rfl (lv_at hl 2 rfl) ?_
                    refine sw_ki (rest := []) (sw_runV (As := [.int v1]) (rest := []) hx hb hml hown hts (kX5_tryRevocation l g 0 (Nat.le_of_ble_eq_true rfl) v1 M _ h) cv_X5_tryRevocation q_1073 rfl rfl ⟨(Nat.le_of_ble_eq_true rfl), (Nat.le_of_ble_eq_true rfl)⟩ hW (sw_st_lt0 (Nat.le_of_ble_eq_true rfl)) (sw_lay_so 0) rfl rfl hl.1 rfl (Nat.le_of_ble_eq_true rfl) dX6_perform_190 ⟨(Nat.le_of_ble_eq_true rfl), (Nat.le_of_ble_eq_true rfl)⟩) hW (fun r4 M5 H locs h hW => ?_)
                    exact sw_ri hx hb hr hlocks hW rfl h dX6_perform_193

def lX6_run_46 (X : String → sM → Prop) (K46 : sM → Prop) : Nat → Int32 → sM → Prop
  | 0, _, _ => False
  | n46 + 1, x2_46, M_46 => ((M_46 14 2) ≤ x2_46 → (K46 M_46)) ∧ (¬ (M_46 14 2) ≤ x2_46 → (vp_in x2_46 13 ∧ (vp_in x2_46 13 ∧ (wX6_perform (M_46 16 (x2_46).toNatClampNeg) ((x2_46).toNatClampNeg) M_46 (fun r11 M12 => (0 ≤ r11 → (∀ v14 : Int32, v14 = x2_46 + (1 : Int32) → ((fun x2_46 M_46 => lX6_run_46 X K46 n46 x2_46 M_46) v14 M12))) ∧ (¬ 0 ≤ r11 → (wX0_takeBack 0 M12 (fun M15 => ∀ M16 : sM, M16 = sw_ms M15 0 9 x2_46 → (X "java/lang/UnsupportedOperationException" M16)))))))))
theorem cv_X6_run : sw_cV yX6_run RX6 cX6_run 3 (some .int) 0 := ⟨q_1098, q_1099, q_2, q_1100, by decide +kernel⟩
def wX6_run  (M : sM) (Q : Int32 → sM → Prop) (X : String → sM → Prop) : Prop :=
  wX4_parse M (fun r1 M2 => wX4_empty M2 (fun M3 => (r1 = (-1 : Int32) → (wX0_prepare 0 M3 (fun M5 => ∃ n46, lX6_run_46 X (fun M_46k => wX0_commit M_46k (fun M6 => Q (M6 14 2) M6)) n46 (0 : Int32) M5))) ∧ (¬ r1 = (-1 : Int32) → (∀ M17 : sM, M17 = sw_ms M3 0 8 r1 → (X "java/lang/IllegalArgumentException" M17)))))
set_option maxRecDepth 20000 in
theorem kX6_run (l : Launch) (hst : l.stackTraces = false) (g : sG)  (M : sM) (Q : Int32 → sM → Prop) (X : String → sM → Prop) (h : wX6_run  M Q X) : vx_Met l yX6_run (sw_ws yX6_run cX6_run 3 (some .int)) { frames := 7, cells := 1, slots := 6, locals := 177 } (va_Pc [.ref (sw_ad g 0)] (sw_Pr g M)) (va_Qi Q (sw_Po g) (sw_A g)) (sw_XC g X) 1 6 (sw_A g) := by
  refine sw_xmet (by decide) (Nat.le_of_ble_eq_true rfl) ?_
  intro p e s m args below meth c ls hx hb hr hts hown hml hlocks hnt hW hl
  have hown : s.vm.findClass RX6 = some m.cls := hown
  have hl : lv_has ls 3 [(0, .ref (sw_ad g 0))] := hl
  unfold wX6_run at h
  refine lv_aload_n hx hb dX6_run_0 rfl (lv_at hl 0 rfl) ?_
  refine sw_gr (j := 6) (r := 14) hx hb hts hown hW rfl qf_6 (Or.inl (Nat.le_of_ble_eq_true rfl)) sl_0 rfl (Nat.le_of_ble_eq_true rfl) q_156 dX6_run_1 ?_
  refine sw_ki (rest := []) (sw_runV (As := []) (rest := []) hx hb hml hown hts (kX4_parse l g M _ h) cv_X4_parse q_1101 rfl rfl ⟨(Nat.le_of_ble_eq_true rfl), (Nat.le_of_ble_eq_true rfl)⟩ hW (Or.inl (Nat.le_of_ble_eq_true rfl)) sl_14 rfl rfl hl.1 rfl (Nat.le_of_ble_eq_true rfl) dX6_run_4 ⟨(Nat.le_of_ble_eq_true rfl), (Nat.le_of_ble_eq_true rfl)⟩) hW (fun r1 M2 H locs h hW => ?_)
  refine lv_istore_n (lv' := [(1, .int r1), (0, .ref (sw_ad g 0))]) hx hb dX6_run_7 rfl hl (Nat.le_of_ble_eq_true rfl) rfl (fun ls hl => ?_)
  refine lv_aload_n hx hb dX6_run_8 rfl (lv_at hl 1 rfl) ?_
  refine sw_gr (j := 6) (r := 14) hx hb hts hown hW rfl qf_6 (Or.inl (Nat.le_of_ble_eq_true rfl)) sl_0 rfl (Nat.le_of_ble_eq_true rfl) q_156 dX6_run_9 ?_
  refine sw_kv (rest := []) (sw_runV (As := []) (rest := []) hx hb hml hown hts (kX4_empty l g M2 _ h) cv_X4_empty q_1132 rfl rfl ⟨(Nat.le_of_ble_eq_true rfl), (Nat.le_of_ble_eq_true rfl)⟩ hW (Or.inl (Nat.le_of_ble_eq_true rfl)) sl_14 rfl rfl hl.1 rfl (Nat.le_of_ble_eq_true rfl) dX6_run_12 ⟨(Nat.le_of_ble_eq_true rfl), (Nat.le_of_ble_eq_true rfl)⟩) hW (fun  M3 H locs h hW => ?_)
  refine lv_iload_n hx hb dX6_run_15 rfl (lv_at hl 0 rfl) ?_
  refine lv_iconst (v := -1) hx hb dX6_run_16 (by decide) ?_
  refine lv_icmp_eq (tgt := 33) hx hb dX6_run_17 (by decide) (fun k4 => ?_) (fun k4 => ?_)
  · have h := h.1 k4
    refine lv_aload_n hx hb dX6_run_33 rfl (lv_at hl 1 rfl) ?_
    refine sw_gr (j := 3) (r := 1) hx hb hts hown hW rfl qf_6 (Or.inl (Nat.le_of_ble_eq_true rfl)) sl_0 rfl (Nat.le_of_ble_eq_true rfl) q_153 dX6_run_34 ?_
    refine lv_aload_n hx hb dX6_run_37 rfl (lv_at hl 1 rfl) ?_
    refine sw_gr (j := 0) (r := (sw_st 0)) hx hb hts hown hW rfl qf_6 (Or.inl (Nat.le_of_ble_eq_true rfl)) sl_0 rfl (Nat.le_of_ble_eq_true rfl) q_150 dX6_run_38 ?_
    refine sw_kv (rest := []) (sw_runV (As := [.ref (sw_ad g (sw_st 0))]) (rest := []) hx hb hml hown hts (kX0_prepare l g 0 (Nat.le_of_ble_eq_true rfl) M3 _ h) cv_X0_prepare q_172 rfl rfl ⟨(Nat.le_of_ble_eq_true rfl), (Nat.le_of_ble_eq_true rfl)⟩ hW (Or.inl (Nat.le_of_ble_eq_true rfl)) sl_1 rfl rfl hl.1 rfl (Nat.le_of_ble_eq_true rfl) dX6_run_41 ⟨(Nat.le_of_ble_eq_true rfl), (Nat.le_of_ble_eq_true rfl)⟩) hW (fun  M5 H locs h hW => ?_)
    refine lv_iconst (v := 0) hx hb dX6_run_44 (by decide) ?_
    refine lv_istore_n (lv' := [(2, .int (0 : Int32)), (1, .int r1), (0, .ref (sw_ad g 0))]) hx hb dX6_run_45 rfl hl (Nat.le_of_ble_eq_true rfl) rfl (fun ls hl => ?_)
    obtain ⟨n46, h⟩ := h
    refine sw_lp_iM (hd := 46) (Lf := fun x2_46 M_46 => [(0, .ref (sw_ad g 0)), (2, .int x2_46)]) h hW (lv_sub hl [2, 0] rfl) (fun _ _ h => h) (fun n46 ih46 x2_46 M_46 H locs ls h hW hl => ?_)
    rw [lX6_run_46.eq_2] at h
    refine lv_iload_n hx hb dX6_run_46 rfl (lv_at hl 1 rfl) ?_
    refine lv_aload_n hx hb dX6_run_47 rfl (lv_at hl 0 rfl) ?_
    refine sw_gr (j := 6) (r := 14) hx hb hts hown hW rfl qf_6 (Or.inl (Nat.le_of_ble_eq_true rfl)) sl_0 rfl (Nat.le_of_ble_eq_true rfl) q_156 dX6_run_48 ?_
    refine sw_gi (j := 2) hx hb hts hown hW rfl qf_4 (Or.inl (Nat.le_of_ble_eq_true rfl)) sl_14 rfl (Nat.le_of_ble_eq_true rfl) q_136 dX6_run_51 ?_
    refine lv_icmp_ge (tgt := 112) hx hb dX6_run_54 (by decide) (fun k7 => ?_) (fun k7 => ?_)
    · have h := h.1 k7
      refine lv_aload_n hx hb dX6_run_112 rfl (lv_at hl 0 rfl) ?_
      refine sw_gr (j := 3) (r := 1) hx hb hts hown hW rfl qf_6 (Or.inl (Nat.le_of_ble_eq_true rfl)) sl_0 rfl (Nat.le_of_ble_eq_true rfl) q_153 dX6_run_113 ?_
      refine sw_kv (rest := []) (sw_runV (As := []) (rest := []) hx hb hml hown hts (kX0_commit l g M_46 _ h) cv_X0_commit q_256 rfl rfl ⟨(Nat.le_of_ble_eq_true rfl), (Nat.le_of_ble_eq_true rfl)⟩ hW (Or.inl (Nat.le_of_ble_eq_true rfl)) sl_1 rfl rfl hl.1 rfl (Nat.le_of_ble_eq_true rfl) dX6_run_116 ⟨(Nat.le_of_ble_eq_true rfl), (Nat.le_of_ble_eq_true rfl)⟩) hW (fun  M8 H locs h hW => ?_)
      refine lv_aload_n hx hb dX6_run_119 rfl (lv_at hl 0 rfl) ?_
      refine sw_gr (j := 6) (r := 14) hx hb hts hown hW rfl qf_6 (Or.inl (Nat.le_of_ble_eq_true rfl)) sl_0 rfl (Nat.le_of_ble_eq_true rfl) q_156 dX6_run_120 ?_
      refine sw_gi (j := 2) hx hb hts hown hW rfl qf_4 (Or.inl (Nat.le_of_ble_eq_true rfl)) sl_14 rfl (Nat.le_of_ble_eq_true rfl) q_136 dX6_run_123 ?_
      refine W.widen (k := 1) (n := 6) (Nat.le_of_ble_eq_true rfl) (Nat.le_of_ble_eq_true rfl) ?_
      refine vx_ret ?_
      exact sw_ri hx hb hr hlocks hW rfl h dX6_run_126
    · have h := h.2 k7
      refine lv_aload_n hx hb dX6_run_57 rfl (lv_at hl 0 rfl) ?_
      refine lv_aload_n hx hb dX6_run_58 rfl (lv_at hl 0 rfl) ?_
      refine sw_gr (j := 6) (r := 14) hx hb hts hown hW rfl qf_6 (Or.inl (Nat.le_of_ble_eq_true rfl)) sl_0 rfl (Nat.le_of_ble_eq_true rfl) q_156 dX6_run_59 ?_
      refine sw_gr (j := 3) (r := 16) hx hb hts hown hW rfl qf_4 (Or.inl (Nat.le_of_ble_eq_true rfl)) sl_14 rfl (Nat.le_of_ble_eq_true rfl) q_138 dX6_run_62 ?_
      refine lv_iload_n hx hb dX6_run_65 rfl (lv_at hl 1 rfl) ?_
      have b9 := h.1
      have h := h.2
      refine sw_ia (n := 13) hx hb hW (Or.inl (Nat.le_of_ble_eq_true rfl)) sl_16 b9 dX6_run_66 ?_
      refine lv_aload_n hx hb dX6_run_67 rfl (lv_at hl 0 rfl) ?_
      refine sw_gr (j := 6) (r := 14) hx hb hts hown hW rfl qf_6 (Or.inl (Nat.le_of_ble_eq_true rfl)) sl_0 rfl (Nat.le_of_ble_eq_true rfl) q_156 dX6_run_68 ?_
      refine sw_gr (j := 4) (r := 17) hx hb hts hown hW rfl qf_4 (Or.inl (Nat.le_of_ble_eq_true rfl)) sl_14 rfl (Nat.le_of_ble_eq_true rfl) q_140 dX6_run_71 ?_
      refine lv_iload_n hx hb dX6_run_74 rfl (lv_at hl 1 rfl) ?_
      have b10 := h.1
      have h := h.2
      refine sw_aaO hx hb hW b10 dX6_run_75 ?_
      refine sw_ki (rest := []) (sw_runV (As := [.int (M_46 16 (x2_46).toNatClampNeg), .ref (sw_ad g (18 + (x2_46).toNatClampNeg))]) (rest := []) hx hb hml hown hts (kX6_perform l g (M_46 16 (x2_46).toNatClampNeg) ((x2_46).toNatClampNeg) (sw_vlt b10) M_46 _ h) cv_X6_perform q_1136 rfl rfl ⟨(Nat.le_of_ble_eq_true rfl), (Nat.le_of_ble_eq_true rfl)⟩ hW (Or.inl (Nat.le_of_ble_eq_true rfl)) sl_0 rfl rfl hl.1 rfl (Nat.le_of_ble_eq_true rfl) dX6_run_76 ⟨(Nat.le_of_ble_eq_true rfl), (Nat.le_of_ble_eq_true rfl)⟩) hW (fun r11 M12 H locs h hW => ?_)
      refine lv_if_ge (tgt := 106) hx hb dX6_run_79 (by decide) (fun k13 => ?_) (fun k13 => ?_)
      · have h := h.1 k13
        obtain ⟨v14, ev14⟩ : ∃ z : Int32, z = x2_46 + (1 : Int32) := ⟨_, rfl⟩
        have h := h v14 ev14
        refine lv_iinc (v := v14) (lv' := [(2, .int v14), (0, .ref (sw_ad g 0))]) hx hb dX6_run_106 hl (k := 1) rfl (by rw [ev14]; rfl) (Nat.le_of_ble_eq_true rfl) rfl (fun ls hl => ?_)
        refine lv_goto (tgt := 46) hx hb dX6_run_109 (by decide) ?_
        exact ih46 _ _ _ _ _ h hW (lv_sub hl [1, 0] rfl)
      · have h := h.2 k13
        refine lv_aload_n hx hb dX6_run_82 rfl (lv_at hl 0 rfl) ?_
        refine sw_gr (j := 3) (r := 1) hx hb hts hown hW rfl qf_6 (Or.inl (Nat.le_of_ble_eq_true rfl)) sl_0 rfl (Nat.le_of_ble_eq_true rfl) q_153 dX6_run_83 ?_
        refine lv_aload_n hx hb dX6_run_86 rfl (lv_at hl 0 rfl) ?_
        refine sw_gr (j := 0) (r := (sw_st 0)) hx hb hts hown hW rfl qf_6 (Or.inl (Nat.le_of_ble_eq_true rfl)) sl_0 rfl (Nat.le_of_ble_eq_true rfl) q_150 dX6_run_87 ?_
        refine sw_kv (rest := []) (sw_runV (As := [.ref (sw_ad g (sw_st 0))]) (rest := []) hx hb hml hown hts (kX0_takeBack l g 0 (Nat.le_of_ble_eq_true rfl) M12 _ h) cv_X0_takeBack q_1139 rfl rfl ⟨(Nat.le_of_ble_eq_true rfl), (Nat.le_of_ble_eq_true rfl)⟩ hW (Or.inl (Nat.le_of_ble_eq_true rfl)) sl_1 rfl rfl hl.1 rfl (Nat.le_of_ble_eq_true rfl) dX6_run_90 ⟨(Nat.le_of_ble_eq_true rfl), (Nat.le_of_ble_eq_true rfl)⟩) hW (fun  M15 H locs h hW => ?_)
        refine lv_aload_n hx hb dX6_run_93 rfl (lv_at hl 0 rfl) ?_
        refine lv_iload_n hx hb dX6_run_94 rfl (lv_at hl 1 rfl) ?_
        refine sw_pi (j := 9) hx hb hts hown hW rfl qf_6 tyX6 tyX6_ok nmX6 (Or.inl (Nat.le_of_ble_eq_true rfl)) sl_0 rfl (Nat.le_of_ble_eq_true rfl) q_159 rfl rfl rfl dX6_run_95 (fun H locs hW => ?_)
        obtain ⟨M16, eM16⟩ : ∃ z : sM, z = sw_ms M15 0 9 x2_46 := ⟨_, rfl⟩
        rw [← eM16] at hW
        have h := h M16 eM16
        exact sw_throw hx hb hst hown hts th_284 hW (hl.1.trans hml.symm) dX6_run_98 dX6_run_101 dX6_run_102 dX6_run_105 hnt (Nat.le_of_ble_eq_true rfl) (Nat.le_of_ble_eq_true rfl) (Nat.le_of_ble_eq_true rfl) (Nat.le_of_ble_eq_true rfl) hlocks h (Nat.le_of_ble_eq_true rfl) (Nat.le_of_ble_eq_true rfl)
  · have h := h.2 k4
    refine lv_aload_n hx hb dX6_run_20 rfl (lv_at hl 1 rfl) ?_
    refine lv_iload_n hx hb dX6_run_21 rfl (lv_at hl 0 rfl) ?_
    refine sw_pi (j := 8) hx hb hts hown hW rfl qf_6 tyX6 tyX6_ok nmX6 (Or.inl (Nat.le_of_ble_eq_true rfl)) sl_0 rfl (Nat.le_of_ble_eq_true rfl) q_158 rfl rfl rfl dX6_run_22 (fun H locs hW => ?_)
    obtain ⟨M17, eM17⟩ : ∃ z : sM, z = sw_ms M3 0 8 r1 := ⟨_, rfl⟩
    rw [← eM17] at hW
    have h := h M17 eM17
    exact sw_throw hx hb hst hown hts th_201 hW (hl.1.trans hml.symm) dX6_run_25 dX6_run_28 dX6_run_29 dX6_run_32 hnt (Nat.le_of_ble_eq_true rfl) (Nat.le_of_ble_eq_true rfl) (Nat.le_of_ble_eq_true rfl) (Nat.le_of_ble_eq_true rfl) hlocks h (Nat.le_of_ble_eq_true rfl) (Nat.le_of_ble_eq_true rfl)

theorem cv_X6_writeDoor : sw_cV yX6_writeDoor RX6 cX6_writeDoor 2 (some .int) 1 := ⟨q_1003, q_1004, q_2, q_1005, by decide +kernel⟩
def wX6_writeDoor (a1 : Int32) (M : sM) (Q : Int32 → sM → Prop) (X : String → sM → Prop) : Prop :=
  wX6_requireDoor a1 M (wX1_showDoor 0 a1 M (fun M1 => Q (M1 31 1) M1)) (fun E => X E M)
set_option maxRecDepth 20000 in
theorem kX6_writeDoor (l : Launch) (hst : l.stackTraces = false) (g : sG) (a1 : Int32) (M : sM) (Q : Int32 → sM → Prop) (X : String → sM → Prop) (h : wX6_writeDoor a1 M Q X) : vx_Met l yX6_writeDoor (sw_ws yX6_writeDoor cX6_writeDoor 2 (some .int)) { frames := 7, cells := 1, slots := 6, locals := 116 } (va_Pc [.ref (sw_ad g 0), .int a1] (sw_Pr g M)) (va_Qi Q (sw_Po g) (sw_A g)) (sw_XC g X) 1 6 (sw_A g) := by
  refine sw_xmet (by decide) (Nat.le_of_ble_eq_true rfl) ?_
  intro p e s m args below meth c ls hx hb hr hts hown hml hlocks hnt hW hl
  have hown : s.vm.findClass RX6 = some m.cls := hown
  have hl : lv_has ls 2 [(0, .ref (sw_ad g 0)), (1, .int a1)] := hl
  unfold wX6_writeDoor at h
  refine lv_aload_n hx hb dX6_writeDoor_0 rfl (lv_at hl 0 rfl) ?_
  refine lv_iload_n hx hb dX6_writeDoor_1 rfl (lv_at hl 1 rfl) ?_
  refine sw_xkv (rest := []) (sw_xrunV (As := [.int a1]) (rest := []) hx hb hml hown hts (kX6_requireDoor l hst g a1 M _ _ h) cv_X6_requireDoor q_508 rfl rfl ⟨(Nat.le_of_ble_eq_true rfl), (Nat.le_of_ble_eq_true rfl)⟩ hW (Or.inl (Nat.le_of_ble_eq_true rfl)) sl_0 rfl rfl hl.1 rfl (Nat.le_of_ble_eq_true rfl) dX6_writeDoor_2 ⟨(Nat.le_of_ble_eq_true rfl), (Nat.le_of_ble_eq_true rfl)⟩) hW (fun E9 ce9 q9 M9 H9 locs9 hX9 hW9 f1 f2 f3 => sw_xout hnt hlocks (by rw [hX9.2]; exact hX9.1) hW9 f1 f2 f3 (Nat.le_of_ble_eq_true rfl) (Nat.le_of_ble_eq_true rfl)) (fun  M2 H locs h hW => ?_)
  obtain ⟨h, eM2⟩ := h
  rw [eM2] at hW
  refine lv_aload_n hx hb dX6_writeDoor_5 rfl (lv_at hl 0 rfl) ?_
  refine sw_gr (j := 7) (r := 31) hx hb hts hown hW rfl qf_6 (Or.inl (Nat.le_of_ble_eq_true rfl)) sl_0 rfl (Nat.le_of_ble_eq_true rfl) q_157 dX6_writeDoor_6 ?_
  refine lv_aload_n hx hb dX6_writeDoor_9 rfl (lv_at hl 0 rfl) ?_
  refine sw_gr (j := 0) (r := (sw_st 0)) hx hb hts hown hW rfl qf_6 (Or.inl (Nat.le_of_ble_eq_true rfl)) sl_0 rfl (Nat.le_of_ble_eq_true rfl) q_150 dX6_writeDoor_10 ?_
  refine lv_iload_n hx hb dX6_writeDoor_13 rfl (lv_at hl 1 rfl) ?_
  refine sw_kv (rest := []) (sw_runV (As := [.ref (sw_ad g (sw_st 0)), .int a1]) (rest := []) hx hb hml hown hts (kX1_showDoor l g 0 (Nat.le_of_ble_eq_true rfl) a1 M _ h) cv_X1_showDoor q_1006 rfl rfl ⟨(Nat.le_of_ble_eq_true rfl), (Nat.le_of_ble_eq_true rfl)⟩ hW (Or.inl (Nat.le_of_ble_eq_true rfl)) sl_31 rfl rfl hl.1 rfl (Nat.le_of_ble_eq_true rfl) dX6_writeDoor_14 ⟨(Nat.le_of_ble_eq_true rfl), (Nat.le_of_ble_eq_true rfl)⟩) hW (fun  M1 H locs h hW => ?_)
  refine lv_aload_n hx hb dX6_writeDoor_17 rfl (lv_at hl 0 rfl) ?_
  refine sw_gr (j := 7) (r := 31) hx hb hts hown hW rfl qf_6 (Or.inl (Nat.le_of_ble_eq_true rfl)) sl_0 rfl (Nat.le_of_ble_eq_true rfl) q_157 dX6_writeDoor_18 ?_
  refine sw_gi (j := 1) hx hb hts hown hW rfl qf_1 (Or.inl (Nat.le_of_ble_eq_true rfl)) sl_31 rfl (Nat.le_of_ble_eq_true rfl) q_149 dX6_writeDoor_21 ?_
  refine vx_ret ?_
  exact sw_ri hx hb hr hlocks hW rfl h dX6_writeDoor_24

theorem cv_X6_writeExaminer : sw_cV yX6_writeExaminer RX6 cX6_writeExaminer 2 (some .int) 1 := ⟨q_1053, q_1054, q_2, q_1055, by decide +kernel⟩
def wX6_writeExaminer (a1 : Int32) (M : sM) (Q : Int32 → sM → Prop) (X : String → sM → Prop) : Prop :=
  wX6_requireExaminer a1 M (wX1_showExaminer 0 a1 M (fun M1 => Q (M1 31 1) M1)) (fun E => X E M)
set_option maxRecDepth 20000 in
theorem kX6_writeExaminer (l : Launch) (hst : l.stackTraces = false) (g : sG) (a1 : Int32) (M : sM) (Q : Int32 → sM → Prop) (X : String → sM → Prop) (h : wX6_writeExaminer a1 M Q X) : vx_Met l yX6_writeExaminer (sw_ws yX6_writeExaminer cX6_writeExaminer 2 (some .int)) { frames := 7, cells := 1, slots := 6, locals := 116 } (va_Pc [.ref (sw_ad g 0), .int a1] (sw_Pr g M)) (va_Qi Q (sw_Po g) (sw_A g)) (sw_XC g X) 1 6 (sw_A g) := by
  refine sw_xmet (by decide) (Nat.le_of_ble_eq_true rfl) ?_
  intro p e s m args below meth c ls hx hb hr hts hown hml hlocks hnt hW hl
  have hown : s.vm.findClass RX6 = some m.cls := hown
  have hl : lv_has ls 2 [(0, .ref (sw_ad g 0)), (1, .int a1)] := hl
  unfold wX6_writeExaminer at h
  refine lv_aload_n hx hb dX6_writeExaminer_0 rfl (lv_at hl 0 rfl) ?_
  refine lv_iload_n hx hb dX6_writeExaminer_1 rfl (lv_at hl 1 rfl) ?_
  refine sw_xkv (rest := []) (sw_xrunV (As := [.int a1]) (rest := []) hx hb hml hown hts (kX6_requireExaminer l hst g a1 M _ _ h) cv_X6_requireExaminer q_504 rfl rfl ⟨(Nat.le_of_ble_eq_true rfl), (Nat.le_of_ble_eq_true rfl)⟩ hW (Or.inl (Nat.le_of_ble_eq_true rfl)) sl_0 rfl rfl hl.1 rfl (Nat.le_of_ble_eq_true rfl) dX6_writeExaminer_2 ⟨(Nat.le_of_ble_eq_true rfl), (Nat.le_of_ble_eq_true rfl)⟩) hW (fun E9 ce9 q9 M9 H9 locs9 hX9 hW9 f1 f2 f3 => sw_xout hnt hlocks (by rw [hX9.2]; exact hX9.1) hW9 f1 f2 f3 (Nat.le_of_ble_eq_true rfl) (Nat.le_of_ble_eq_true rfl)) (fun  M2 H locs h hW => ?_)
  obtain ⟨h, eM2⟩ := h
  rw [eM2] at hW
  refine lv_aload_n hx hb dX6_writeExaminer_5 rfl (lv_at hl 0 rfl) ?_
  refine sw_gr (j := 7) (r := 31) hx hb hts hown hW rfl qf_6 (Or.inl (Nat.le_of_ble_eq_true rfl)) sl_0 rfl (Nat.le_of_ble_eq_true rfl) q_157 dX6_writeExaminer_6 ?_
  refine lv_aload_n hx hb dX6_writeExaminer_9 rfl (lv_at hl 0 rfl) ?_
  refine sw_gr (j := 0) (r := (sw_st 0)) hx hb hts hown hW rfl qf_6 (Or.inl (Nat.le_of_ble_eq_true rfl)) sl_0 rfl (Nat.le_of_ble_eq_true rfl) q_150 dX6_writeExaminer_10 ?_
  refine lv_iload_n hx hb dX6_writeExaminer_13 rfl (lv_at hl 1 rfl) ?_
  refine sw_kv (rest := []) (sw_runV (As := [.ref (sw_ad g (sw_st 0)), .int a1]) (rest := []) hx hb hml hown hts (kX1_showExaminer l g 0 (Nat.le_of_ble_eq_true rfl) a1 M _ h) cv_X1_showExaminer q_1056 rfl rfl ⟨(Nat.le_of_ble_eq_true rfl), (Nat.le_of_ble_eq_true rfl)⟩ hW (Or.inl (Nat.le_of_ble_eq_true rfl)) sl_31 rfl rfl hl.1 rfl (Nat.le_of_ble_eq_true rfl) dX6_writeExaminer_14 ⟨(Nat.le_of_ble_eq_true rfl), (Nat.le_of_ble_eq_true rfl)⟩) hW (fun  M1 H locs h hW => ?_)
  refine lv_aload_n hx hb dX6_writeExaminer_17 rfl (lv_at hl 0 rfl) ?_
  refine sw_gr (j := 7) (r := 31) hx hb hts hown hW rfl qf_6 (Or.inl (Nat.le_of_ble_eq_true rfl)) sl_0 rfl (Nat.le_of_ble_eq_true rfl) q_157 dX6_writeExaminer_18 ?_
  refine sw_gi (j := 1) hx hb hts hown hW rfl qf_1 (Or.inl (Nat.le_of_ble_eq_true rfl)) sl_31 rfl (Nat.le_of_ble_eq_true rfl) q_149 dX6_writeExaminer_21 ?_
  refine vx_ret ?_
  exact sw_ri hx hb hr hlocks hW rfl h dX6_writeExaminer_24

theorem cv_X6_outputAt : sw_cV yX6_outputAt RX6 cX6_outputAt 2 (some .char) 1 := ⟨q_1032, q_1033, q_2, q_1034, by decide +kernel⟩
def wX6_outputAt (a1 : Int32) (M : sM) (Q : Int32 → Prop) (X : String → Prop) : Prop :=
  (a1 < 0 → (X "java/lang/IndexOutOfBoundsException")) ∧ (¬ a1 < 0 → ((a1 < (M 31 1) → (vp_in a1 32 ∧ (narrow .char (.int (M 32 (a1).toNatClampNeg)) = .int (M 32 (a1).toNatClampNeg) ∧ (Q (M 32 (a1).toNatClampNeg))))) ∧ (¬ a1 < (M 31 1) → (X "java/lang/IndexOutOfBoundsException"))))
set_option maxRecDepth 20000 in
theorem kX6_outputAt (l : Launch) (hst : l.stackTraces = false) (g : sG) (a1 : Int32) (M : sM) (Q : Int32 → Prop) (X : String → Prop) (h : wX6_outputAt a1 M Q X) : vx_Met l yX6_outputAt (sw_ws yX6_outputAt cX6_outputAt 2 (some .char)) { frames := 6, cells := 1, slots := 6, locals := 95 } (va_Pc [.ref (sw_ad g 0), .int a1] (sw_Pr g M)) (va_Qi (fun r M1 => Q r ∧ M1 = M) (sw_Po g) (sw_A g)) (sw_XC g (fun E M1 => X E ∧ M1 = M)) 1 6 (sw_A g) := by
  refine sw_xmet (by decide) (Nat.le_of_ble_eq_true rfl) ?_
  intro p e s m args below meth c ls hx hb hr hts hown hml hlocks hnt hW hl
  have hown : s.vm.findClass RX6 = some m.cls := hown
  have hl : lv_has ls 2 [(0, .ref (sw_ad g 0)), (1, .int a1)] := hl
  unfold wX6_outputAt at h
  refine lv_iload_n hx hb dX6_outputAt_0 rfl (lv_at hl 1 rfl) ?_
  refine lv_if_lt (tgt := 15) hx hb dX6_outputAt_1 (by decide) (fun k1 => ?_) (fun k1 => ?_)
  · have h := h.1 k1
    exact sw_throw hx hb hst hown hts th_298 hW (hl.1.trans hml.symm) dX6_outputAt_15 dX6_outputAt_18 dX6_outputAt_19 dX6_outputAt_22 hnt (Nat.le_of_ble_eq_true rfl) (Nat.le_of_ble_eq_true rfl) (Nat.le_of_ble_eq_true rfl) (Nat.le_of_ble_eq_true rfl) hlocks ⟨h, rfl⟩ (Nat.le_of_ble_eq_true rfl) (Nat.le_of_ble_eq_true rfl)
  · have h := h.2 k1
    refine lv_iload_n hx hb dX6_outputAt_4 rfl (lv_at hl 1 rfl) ?_
    refine lv_aload_n hx hb dX6_outputAt_5 rfl (lv_at hl 0 rfl) ?_
    refine sw_gr (j := 7) (r := 31) hx hb hts hown hW rfl qf_6 (Or.inl (Nat.le_of_ble_eq_true rfl)) sl_0 rfl (Nat.le_of_ble_eq_true rfl) q_157 dX6_outputAt_6 ?_
    refine sw_gi (j := 1) hx hb hts hown hW rfl qf_1 (Or.inl (Nat.le_of_ble_eq_true rfl)) sl_31 rfl (Nat.le_of_ble_eq_true rfl) q_149 dX6_outputAt_9 ?_
    refine lv_icmp_lt (tgt := 23) hx hb dX6_outputAt_12 (by decide) (fun k2 => ?_) (fun k2 => ?_)
    · have h := h.1 k2
      refine lv_aload_n hx hb dX6_outputAt_23 rfl (lv_at hl 0 rfl) ?_
      refine sw_gr (j := 7) (r := 31) hx hb hts hown hW rfl qf_6 (Or.inl (Nat.le_of_ble_eq_true rfl)) sl_0 rfl (Nat.le_of_ble_eq_true rfl) q_157 dX6_outputAt_24 ?_
      refine sw_gr (j := 0) (r := 32) hx hb hts hown hW rfl qf_1 (Or.inl (Nat.le_of_ble_eq_true rfl)) sl_31 rfl (Nat.le_of_ble_eq_true rfl) q_147 dX6_outputAt_27 ?_
      refine lv_iload_n hx hb dX6_outputAt_30 rfl (lv_at hl 1 rfl) ?_
      have b3 := h.1
      have h := h.2
      refine sw_ca (n := 32) hx hb hW (Or.inl (Nat.le_of_ble_eq_true rfl)) sl_32 b3 dX6_outputAt_31 ?_
      refine W.widen (k := 1) (n := 6) (Nat.le_of_ble_eq_true rfl) (Nat.le_of_ble_eq_true rfl) ?_
      refine vx_ret ?_
      exact sw_ri hx hb hr hlocks hW h.1 ⟨h.2, rfl⟩ dX6_outputAt_32
    · have h := h.2 k2
      exact sw_throw hx hb hst hown hts th_298 hW (hl.1.trans hml.symm) dX6_outputAt_15 dX6_outputAt_18 dX6_outputAt_19 dX6_outputAt_22 hnt (Nat.le_of_ble_eq_true rfl) (Nat.le_of_ble_eq_true rfl) (Nat.le_of_ble_eq_true rfl) (Nat.le_of_ble_eq_true rfl) hlocks ⟨h, rfl⟩ (Nat.le_of_ble_eq_true rfl) (Nat.le_of_ble_eq_true rfl)

theorem cv_X6_undo : sw_cV yX6_undo RX6 cX6_undo 1 (some .int) 0 := ⟨q_1146, q_1147, q_2, q_1148, by decide +kernel⟩
def wX6_undo  (M : sM) (Q : Int32 → sM → Prop) (X : String → sM → Prop) : Prop :=
  ((M 1 2) = 0 → (X "java/lang/IllegalStateException" M)) ∧ (¬ (M 1 2) = 0 → (wX0_stepBack 0 M (fun M2 => Q (M2 1 2) M2)))
set_option maxRecDepth 20000 in
theorem kX6_undo (l : Launch) (hst : l.stackTraces = false) (g : sG)  (M : sM) (Q : Int32 → sM → Prop) (X : String → sM → Prop) (h : wX6_undo  M Q X) : vx_Met l yX6_undo (sw_ws yX6_undo cX6_undo 1 (some .int)) { frames := 6, cells := 1, slots := 6, locals := 95 } (va_Pc [.ref (sw_ad g 0)] (sw_Pr g M)) (va_Qi Q (sw_Po g) (sw_A g)) (sw_XC g X) 1 6 (sw_A g) := by
  refine sw_xmet (by decide) (Nat.le_of_ble_eq_true rfl) ?_
  intro p e s m args below meth c ls hx hb hr hts hown hml hlocks hnt hW hl
  have hown : s.vm.findClass RX6 = some m.cls := hown
  have hl : lv_has ls 1 [(0, .ref (sw_ad g 0))] := hl
  unfold wX6_undo at h
  refine lv_aload_n hx hb dX6_undo_0 rfl (lv_at hl 0 rfl) ?_
  refine sw_gr (j := 3) (r := 1) hx hb hts hown hW rfl qf_6 (Or.inl (Nat.le_of_ble_eq_true rfl)) sl_0 rfl (Nat.le_of_ble_eq_true rfl) q_153 dX6_undo_1 ?_
  refine sw_gi (j := 2) hx hb hts hown hW rfl qf_0 (Or.inl (Nat.le_of_ble_eq_true rfl)) sl_1 rfl (Nat.le_of_ble_eq_true rfl) q_104 dX6_undo_4 ?_
  refine lv_if_ne (tgt := 18) hx hb dX6_undo_7 (by decide) (fun k1 => ?_) (fun k1 => ?_)
  · have h := h.2 k1
    refine lv_aload_n hx hb dX6_undo_18 rfl (lv_at hl 0 rfl) ?_
    refine sw_gr (j := 3) (r := 1) hx hb hts hown hW rfl qf_6 (Or.inl (Nat.le_of_ble_eq_true rfl)) sl_0 rfl (Nat.le_of_ble_eq_true rfl) q_153 dX6_undo_19 ?_
    refine lv_aload_n hx hb dX6_undo_22 rfl (lv_at hl 0 rfl) ?_
    refine sw_gr (j := 0) (r := (sw_st 0)) hx hb hts hown hW rfl qf_6 (Or.inl (Nat.le_of_ble_eq_true rfl)) sl_0 rfl (Nat.le_of_ble_eq_true rfl) q_150 dX6_undo_23 ?_
    refine sw_kv (rest := []) (sw_runV (As := [.ref (sw_ad g (sw_st 0))]) (rest := []) hx hb hml hown hts (kX0_stepBack l g 0 (Nat.le_of_ble_eq_true rfl) M _ h) cv_X0_stepBack q_1149 rfl rfl ⟨(Nat.le_of_ble_eq_true rfl), (Nat.le_of_ble_eq_true rfl)⟩ hW (Or.inl (Nat.le_of_ble_eq_true rfl)) sl_1 rfl rfl hl.1 rfl (Nat.le_of_ble_eq_true rfl) dX6_undo_26 ⟨(Nat.le_of_ble_eq_true rfl), (Nat.le_of_ble_eq_true rfl)⟩) hW (fun  M2 H locs h hW => ?_)
    refine lv_aload_n hx hb dX6_undo_29 rfl (lv_at hl 0 rfl) ?_
    refine sw_gr (j := 3) (r := 1) hx hb hts hown hW rfl qf_6 (Or.inl (Nat.le_of_ble_eq_true rfl)) sl_0 rfl (Nat.le_of_ble_eq_true rfl) q_153 dX6_undo_30 ?_
    refine sw_gi (j := 2) hx hb hts hown hW rfl qf_0 (Or.inl (Nat.le_of_ble_eq_true rfl)) sl_1 rfl (Nat.le_of_ble_eq_true rfl) q_104 dX6_undo_33 ?_
    refine W.widen (k := 1) (n := 6) (Nat.le_of_ble_eq_true rfl) (Nat.le_of_ble_eq_true rfl) ?_
    refine vx_ret ?_
    exact sw_ri hx hb hr hlocks hW rfl h dX6_undo_36
  · have h := h.1 k1
    exact sw_throw hx hb hst hown hts th_252 hW (hl.1.trans hml.symm) dX6_undo_10 dX6_undo_13 dX6_undo_14 dX6_undo_17 hnt (Nat.le_of_ble_eq_true rfl) (Nat.le_of_ble_eq_true rfl) (Nat.le_of_ble_eq_true rfl) (Nat.le_of_ble_eq_true rfl) hlocks h (Nat.le_of_ble_eq_true rfl) (Nat.le_of_ble_eq_true rfl)
