theorem cv_X4_isFull : sw_cV yX4_isFull RX4 cX4_isFull 1 (some .boolean) 0 := ⟨q_1088, q_1089, q_7, q_1090, by decide +kernel⟩
def wX4_isFull  (M : sM) (Q : Int32 → Prop) : Prop :=
  ((M 14 1) < (60 : Int32) → (Q (0 : Int32))) ∧ (¬ (M 14 1) < (60 : Int32) → (Q (1 : Int32)))
set_option maxRecDepth 20000 in
theorem kX4_isFull (l : Launch) (g : sG)  (M : sM) (Q : Int32 → Prop) (h : wX4_isFull  M Q) : Met l yX4_isFull (sw_ws yX4_isFull cX4_isFull 1 (some .boolean)) { frames := 0, cells := 0, slots := 0, locals := 0 } (va_Pc [.ref (sw_ad g 14)] (sw_Pr g M)) (va_Qi (fun r M1 => Q r ∧ M1 = M) (sw_Po g) (sw_A g)) 0 0 (sw_A g) := by
  refine sw_met (by decide) (Nat.le_of_ble_eq_true rfl) ?_
  intro p e s m args below meth c ls hx hb hr hts hown hml hlocks hW hl
  have hown : s.vm.findClass RX4 = some m.cls := hown
  have hl : lv_has ls 1 [(0, .ref (sw_ad g 14))] := hl
  unfold wX4_isFull at h
  refine lv_aload_n hx hb dX4_isFull_0 rfl (lv_at hl 0 rfl) ?_
  refine sw_gi (j := 1) hx hb hts hown hW rfl qf_4 (Or.inl (Nat.le_of_ble_eq_true rfl)) sl_14 rfl (Nat.le_of_ble_eq_true rfl) q_133 dX4_isFull_1 ?_
  refine lv_bipush (v := 60) hx hb dX4_isFull_4 (by decide) ?_
  refine lv_icmp_lt (tgt := 13) hx hb dX4_isFull_6 (by decide) (fun k1 => ?_) (fun k1 => ?_)
  · have h := h.1 k1
    refine lv_iconst (v := 0) hx hb dX4_isFull_13 (by decide) ?_
    exact sw_ri hx hb hr hlocks hW (by decide) ⟨h, rfl⟩ dX4_isFull_14
  · have h := h.2 k1
    refine lv_iconst (v := 1) hx hb dX4_isFull_9 (by decide) ?_
    refine lv_goto (tgt := 14) hx hb dX4_isFull_10 (by decide) ?_
    exact sw_ri hx hb hr hlocks hW (by decide) ⟨h, rfl⟩ dX4_isFull_14

theorem cv_X4_extend : sw_cV yX4_extend RX4 cX4_extend 2 none 1 := ⟨q_1092, q_1093, q_7, q_1094, by decide +kernel⟩
def wX4_extend (a1 : Int32) (M : sM) (Q : sM → Prop) : Prop :=
  ((60 : Int32) ≤ (M 14 1) → (Q M)) ∧ (¬ (60 : Int32) ≤ (M 14 1) → (vp_in (M 14 1) 60 ∧ (∀ M3 : sM, M3 = sw_ms M 15 ((M 14 1)).toNatClampNeg (vp_nar .char a1) → (∀ M4 : sM, M4 = sw_ms M3 14 1 ((M3 14 1) + (1 : Int32)) → (Q M4)))))
set_option maxRecDepth 20000 in
theorem kX4_extend (l : Launch) (g : sG) (a1 : Int32) (M : sM) (Q : sM → Prop) (h : wX4_extend a1 M Q) : Met l yX4_extend (sw_ws yX4_extend cX4_extend 2 none) { frames := 0, cells := 0, slots := 0, locals := 0 } (va_Pc [.ref (sw_ad g 14), .int a1] (sw_Pr g M)) (va_Qv Q (sw_Po g) (sw_A g)) 0 0 (sw_A g) := by
  refine sw_met (by decide) (Nat.le_of_ble_eq_true rfl) ?_
  intro p e s m args below meth c ls hx hb hr hts hown hml hlocks hW hl
  have hown : s.vm.findClass RX4 = some m.cls := hown
  have hl : lv_has ls 2 [(0, .ref (sw_ad g 14)), (1, .int a1)] := hl
  unfold wX4_extend at h
  refine lv_aload_n hx hb dX4_extend_0 rfl (lv_at hl 0 rfl) ?_
  refine sw_gi (j := 1) hx hb hts hown hW rfl qf_4 (Or.inl (Nat.le_of_ble_eq_true rfl)) sl_14 rfl (Nat.le_of_ble_eq_true rfl) q_133 dX4_extend_1 ?_
  refine lv_bipush (v := 60) hx hb dX4_extend_4 (by decide) ?_
  refine lv_icmp_ge (tgt := 29) hx hb dX4_extend_6 (by decide) (fun k1 => ?_) (fun k1 => ?_)
  · have h := h.1 k1
    exact sw_rv hx hb hr hlocks hW h dX4_extend_29
  · have h := h.2 k1
    refine lv_aload_n hx hb dX4_extend_9 rfl (lv_at hl 0 rfl) ?_
    refine sw_gr (j := 0) (r := 15) hx hb hts hown hW rfl qf_4 (Or.inl (Nat.le_of_ble_eq_true rfl)) sl_14 rfl (Nat.le_of_ble_eq_true rfl) q_132 dX4_extend_10 ?_
    refine lv_aload_n hx hb dX4_extend_13 rfl (lv_at hl 0 rfl) ?_
    refine sw_gi (j := 1) hx hb hts hown hW rfl qf_4 (Or.inl (Nat.le_of_ble_eq_true rfl)) sl_14 rfl (Nat.le_of_ble_eq_true rfl) q_133 dX4_extend_14 ?_
    refine lv_iload_n hx hb dX4_extend_17 rfl (lv_at hl 1 rfl) ?_
    have b2 := h.1
    have h := h.2
    refine sw_cs (n := 60) hx hb hW (Or.inl (Nat.le_of_ble_eq_true rfl)) sl_15 b2 dX4_extend_18 (fun H locs hW => ?_)
    obtain ⟨M3, eM3⟩ : ∃ z : sM, z = sw_ms M 15 ((M 14 1)).toNatClampNeg (vp_nar .char a1) := ⟨_, rfl⟩
    rw [← eM3] at hW
    have h := h M3 eM3
    refine lv_aload_n hx hb dX4_extend_19 rfl (lv_at hl 0 rfl) ?_
    refine lv_dup hx hb dX4_extend_20 rfl ?_
    refine sw_gi (j := 1) hx hb hts hown hW rfl qf_4 (Or.inl (Nat.le_of_ble_eq_true rfl)) sl_14 rfl (Nat.le_of_ble_eq_true rfl) q_133 dX4_extend_21 ?_
    refine lv_iconst (v := 1) hx hb dX4_extend_24 (by decide) ?_
    refine lv_iadd hx hb dX4_extend_25 ?_
    refine sw_pi (j := 1) hx hb hts hown hW rfl qf_4 tyX4 tyX4_ok nmX4 (Or.inl (Nat.le_of_ble_eq_true rfl)) sl_14 rfl (Nat.le_of_ble_eq_true rfl) q_133 rfl rfl rfl dX4_extend_26 (fun H locs hW => ?_)
    obtain ⟨M4, eM4⟩ : ∃ z : sM, z = sw_ms M3 14 1 ((M3 14 1) + (1 : Int32)) := ⟨_, rfl⟩
    rw [← eM4] at hW
    have h := h M4 eM4
    exact sw_rv hx hb hr hlocks hW h dX4_extend_29

theorem cv_X4_empty : sw_cV yX4_empty RX4 cX4_empty 1 none 0 := ⟨q_1133, q_1134, q_7, q_1135, by decide +kernel⟩
def wX4_empty  (M : sM) (Q : sM → Prop) : Prop :=
  ∀ M1 : sM, M1 = sw_ms M 14 1 (0 : Int32) → (Q M1)
set_option maxRecDepth 20000 in
theorem kX4_empty (l : Launch) (g : sG)  (M : sM) (Q : sM → Prop) (h : wX4_empty  M Q) : Met l yX4_empty (sw_ws yX4_empty cX4_empty 1 none) { frames := 0, cells := 0, slots := 0, locals := 0 } (va_Pc [.ref (sw_ad g 14)] (sw_Pr g M)) (va_Qv Q (sw_Po g) (sw_A g)) 0 0 (sw_A g) := by
  refine sw_met (by decide) (Nat.le_of_ble_eq_true rfl) ?_
  intro p e s m args below meth c ls hx hb hr hts hown hml hlocks hW hl
  have hown : s.vm.findClass RX4 = some m.cls := hown
  have hl : lv_has ls 1 [(0, .ref (sw_ad g 14))] := hl
  unfold wX4_empty at h
  refine lv_aload_n hx hb dX4_empty_0 rfl (lv_at hl 0 rfl) ?_
  refine lv_iconst (v := 0) hx hb dX4_empty_1 (by decide) ?_
  refine sw_pi (j := 1) hx hb hts hown hW rfl qf_4 tyX4 tyX4_ok nmX4 (Or.inl (Nat.le_of_ble_eq_true rfl)) sl_14 rfl (Nat.le_of_ble_eq_true rfl) q_133 rfl rfl rfl dX4_empty_2 (fun H locs hW => ?_)
  obtain ⟨M1, eM1⟩ : ∃ z : sM, z = sw_ms M 14 1 (0 : Int32) := ⟨_, rfl⟩
  rw [← eM1] at hW
  have h := h M1 eM1
  exact sw_rv hx hb hr hlocks hW h dX4_empty_5

theorem cs_X4_shapeOf : sw_cS yX4_shapeOf cX4_shapeOf 1 (some (.object "java/lang/String")) 1 := ⟨q_1109, q_7, q_1110, by decide +kernel⟩
def wX4_shapeOf (a1 : Int32) (Q : Nat → Prop) : Prop :=
  (a1 = (0 : Int32) → (Q 0)) ∧ (¬ a1 = (0 : Int32) → ((a1 = (1 : Int32) → (Q 1)) ∧ (¬ a1 = (1 : Int32) → ((a1 = (2 : Int32) → (Q 2)) ∧ (¬ a1 = (2 : Int32) → ((a1 = (3 : Int32) → (Q 3)) ∧ (¬ a1 = (3 : Int32) → ((a1 = (4 : Int32) → (Q 4)) ∧ (¬ a1 = (4 : Int32) → ((a1 = (5 : Int32) → (Q 5)) ∧ (¬ a1 = (5 : Int32) → ((a1 = (6 : Int32) → (Q 6)) ∧ (¬ a1 = (6 : Int32) → ((a1 = (7 : Int32) → (Q 7)) ∧ (¬ a1 = (7 : Int32) → ((a1 = (8 : Int32) → (Q 8)) ∧ (¬ a1 = (8 : Int32) → (Q 9))))))))))))))))))
set_option maxRecDepth 20000 in
theorem kX4_shapeOf (l : Launch) (g : sG) (a1 : Int32) (M : sM) (Q : Nat → Prop) (h : wX4_shapeOf a1 Q) : Met l yX4_shapeOf (sw_ws yX4_shapeOf cX4_shapeOf 1 (some (.object "java/lang/String"))) { frames := 0, cells := 0, slots := 0, locals := 0 } (va_Pc [.int a1] (sw_Pr g M)) (sw_Qs g (fun r M1 => Q r ∧ M1 = M)) 0 0 (sw_A g) := by
  refine sw_met (by decide) (Nat.le_of_ble_eq_true rfl) ?_
  intro p e s m args below meth c ls hx hb hr hts hown hml hlocks hW hl
  have hown : s.vm.findClass RX4 = some m.cls := hown
  have hl : lv_has ls 1 [(0, .int a1)] := hl
  unfold wX4_shapeOf at h
  refine lv_iload_n hx hb dX4_shapeOf_0 rfl (lv_at hl 0 rfl) ?_
  by_cases k1_0 : a1 = (0 : Int32)
  · have h := h.1 k1_0
    refine lv_tableIn (tgt := 52) hx hb dX4_shapeOf_1 (by rw [k1_0]; decide) (by rw [k1_0]; decide) (by rw [k1_0]; rfl) (by decide) ?_
    refine va_ldcS hx hb hown (hW.2.2.2.2.2.2.2.2.1 0 (Nat.le_of_ble_eq_true rfl)).2.2.2.2 dX4_shapeOf_52 ?_
    exact sw_rq hx hb hr hlocks hW (Nat.le_of_ble_eq_true rfl) h dX4_shapeOf_54
  · have h := h.2 k1_0
    by_cases k1_1 : a1 = (1 : Int32)
    · have h := h.1 k1_1
      refine lv_tableIn (tgt := 55) hx hb dX4_shapeOf_1 (by rw [k1_1]; decide) (by rw [k1_1]; decide) (by rw [k1_1]; rfl) (by decide) ?_
      refine va_ldcS hx hb hown (hW.2.2.2.2.2.2.2.2.1 1 (Nat.le_of_ble_eq_true rfl)).2.2.2.2 dX4_shapeOf_55 ?_
      exact sw_rq hx hb hr hlocks hW (Nat.le_of_ble_eq_true rfl) h dX4_shapeOf_57
    · have h := h.2 k1_1
      by_cases k1_2 : a1 = (2 : Int32)
      · have h := h.1 k1_2
        refine lv_tableIn (tgt := 58) hx hb dX4_shapeOf_1 (by rw [k1_2]; decide) (by rw [k1_2]; decide) (by rw [k1_2]; rfl) (by decide) ?_
        refine va_ldcS hx hb hown (hW.2.2.2.2.2.2.2.2.1 2 (Nat.le_of_ble_eq_true rfl)).2.2.2.2 dX4_shapeOf_58 ?_
        exact sw_rq hx hb hr hlocks hW (Nat.le_of_ble_eq_true rfl) h dX4_shapeOf_60
      · have h := h.2 k1_2
        by_cases k1_3 : a1 = (3 : Int32)
        · have h := h.1 k1_3
          refine lv_tableIn (tgt := 61) hx hb dX4_shapeOf_1 (by rw [k1_3]; decide) (by rw [k1_3]; decide) (by rw [k1_3]; rfl) (by decide) ?_
          refine va_ldcS hx hb hown (hW.2.2.2.2.2.2.2.2.1 3 (Nat.le_of_ble_eq_true rfl)).2.2.2.2 dX4_shapeOf_61 ?_
          exact sw_rq hx hb hr hlocks hW (Nat.le_of_ble_eq_true rfl) h dX4_shapeOf_63
        · have h := h.2 k1_3
          by_cases k1_4 : a1 = (4 : Int32)
          · have h := h.1 k1_4
            refine lv_tableIn (tgt := 64) hx hb dX4_shapeOf_1 (by rw [k1_4]; decide) (by rw [k1_4]; decide) (by rw [k1_4]; rfl) (by decide) ?_
            refine va_ldcS hx hb hown (hW.2.2.2.2.2.2.2.2.1 4 (Nat.le_of_ble_eq_true rfl)).2.2.2.2 dX4_shapeOf_64 ?_
            exact sw_rq hx hb hr hlocks hW (Nat.le_of_ble_eq_true rfl) h dX4_shapeOf_66
          · have h := h.2 k1_4
            by_cases k1_5 : a1 = (5 : Int32)
            · have h := h.1 k1_5
              refine lv_tableIn (tgt := 67) hx hb dX4_shapeOf_1 (by rw [k1_5]; decide) (by rw [k1_5]; decide) (by rw [k1_5]; rfl) (by decide) ?_
              refine va_ldcS hx hb hown (hW.2.2.2.2.2.2.2.2.1 5 (Nat.le_of_ble_eq_true rfl)).2.2.2.2 dX4_shapeOf_67 ?_
              exact sw_rq hx hb hr hlocks hW (Nat.le_of_ble_eq_true rfl) h dX4_shapeOf_69
            · have h := h.2 k1_5
              by_cases k1_6 : a1 = (6 : Int32)
              · have h := h.1 k1_6
                refine lv_tableIn (tgt := 70) hx hb dX4_shapeOf_1 (by rw [k1_6]; decide) (by rw [k1_6]; decide) (by rw [k1_6]; rfl) (by decide) ?_
                refine va_ldcS hx hb hown (hW.2.2.2.2.2.2.2.2.1 6 (Nat.le_of_ble_eq_true rfl)).2.2.2.2 dX4_shapeOf_70 ?_
                exact sw_rq hx hb hr hlocks hW (Nat.le_of_ble_eq_true rfl) h dX4_shapeOf_72
              · have h := h.2 k1_6
                by_cases k1_7 : a1 = (7 : Int32)
                · have h := h.1 k1_7
                  refine lv_tableIn (tgt := 73) hx hb dX4_shapeOf_1 (by rw [k1_7]; decide) (by rw [k1_7]; decide) (by rw [k1_7]; rfl) (by decide) ?_
                  refine va_ldcS hx hb hown (hW.2.2.2.2.2.2.2.2.1 7 (Nat.le_of_ble_eq_true rfl)).2.2.2.2 dX4_shapeOf_73 ?_
                  exact sw_rq hx hb hr hlocks hW (Nat.le_of_ble_eq_true rfl) h dX4_shapeOf_75
                · have h := h.2 k1_7
                  by_cases k1_8 : a1 = (8 : Int32)
                  · have h := h.1 k1_8
                    refine lv_tableIn (tgt := 76) hx hb dX4_shapeOf_1 (by rw [k1_8]; decide) (by rw [k1_8]; decide) (by rw [k1_8]; rfl) (by decide) ?_
                    refine va_ldcS hx hb hown (hW.2.2.2.2.2.2.2.2.1 8 (Nat.le_of_ble_eq_true rfl)).2.2.2.2 dX4_shapeOf_76 ?_
                    exact sw_rq hx hb hr hlocks hW (Nat.le_of_ble_eq_true rfl) h dX4_shapeOf_78
                  · have h := h.2 k1_8
                    refine sw_tdef (tgt := 79) hx hb dX4_shapeOf_1 (by intro hz; exfalso; have e0 := lv_neT k1_0 (by decide : ((0) : Int32).toInt = 0); have e1 := lv_neT k1_1 (by decide : ((1) : Int32).toInt = 1); have e2 := lv_neT k1_2 (by decide : ((2) : Int32).toInt = 2); have e3 := lv_neT k1_3 (by decide : ((3) : Int32).toInt = 3); have e4 := lv_neT k1_4 (by decide : ((4) : Int32).toInt = 4); have e5 := lv_neT k1_5 (by decide : ((5) : Int32).toInt = 5); have e6 := lv_neT k1_6 (by decide : ((6) : Int32).toInt = 6); have e7 := lv_neT k1_7 (by decide : ((7) : Int32).toInt = 7); have e8 := lv_neT k1_8 (by decide : ((8) : Int32).toInt = 8); omega) (by decide) ?_
                    refine va_ldcS hx hb hown (hW.2.2.2.2.2.2.2.2.1 9 (Nat.le_of_ble_eq_true rfl)).2.2.2.2 dX4_shapeOf_79 ?_
                    exact sw_rq hx hb hr hlocks hW (Nat.le_of_ble_eq_true rfl) h dX4_shapeOf_81

theorem cs_X4_isDigit : sw_cS yX4_isDigit cX4_isDigit 1 (some .boolean) 1 := ⟨q_1120, q_7, q_1121, by decide +kernel⟩
def wX4_isDigit (a1 : Int32) (Q : Int32 → Prop) : Prop :=
  (a1 < (48 : Int32) → (Q (0 : Int32))) ∧ (¬ a1 < (48 : Int32) → (((57 : Int32) < a1 → (Q (0 : Int32))) ∧ (¬ (57 : Int32) < a1 → (Q (1 : Int32)))))
set_option maxRecDepth 20000 in
theorem kX4_isDigit (l : Launch) (g : sG) (a1 : Int32) (M : sM) (Q : Int32 → Prop) (h : wX4_isDigit a1 Q) : Met l yX4_isDigit (sw_ws yX4_isDigit cX4_isDigit 1 (some .boolean)) { frames := 0, cells := 0, slots := 0, locals := 0 } (va_Pc [.int a1] (sw_Pr g M)) (va_Qi (fun r M1 => Q r ∧ M1 = M) (sw_Po g) (sw_A g)) 0 0 (sw_A g) := by
  refine sw_met (by decide) (Nat.le_of_ble_eq_true rfl) ?_
  intro p e s m args below meth c ls hx hb hr hts hown hml hlocks hW hl
  have hown : s.vm.findClass RX4 = some m.cls := hown
  have hl : lv_has ls 1 [(0, .int a1)] := hl
  unfold wX4_isDigit at h
  refine lv_iload_n hx hb dX4_isDigit_0 rfl (lv_at hl 0 rfl) ?_
  refine lv_bipush (v := 48) hx hb dX4_isDigit_1 (by decide) ?_
  refine lv_icmp_lt (tgt := 16) hx hb dX4_isDigit_3 (by decide) (fun k1 => ?_) (fun k1 => ?_)
  · have h := h.1 k1
    refine lv_iconst (v := 0) hx hb dX4_isDigit_16 (by decide) ?_
    exact sw_ri hx hb hr hlocks hW (by decide) ⟨h, rfl⟩ dX4_isDigit_17
  · have h := h.2 k1
    refine lv_iload_n hx hb dX4_isDigit_6 rfl (lv_at hl 0 rfl) ?_
    refine lv_bipush (v := 57) hx hb dX4_isDigit_7 (by decide) ?_
    refine lv_icmp_gt (tgt := 16) hx hb dX4_isDigit_9 (by decide) (fun k2 => ?_) (fun k2 => ?_)
    · have h := h.1 k2
      refine lv_iconst (v := 0) hx hb dX4_isDigit_16 (by decide) ?_
      exact sw_ri hx hb hr hlocks hW (by decide) ⟨h, rfl⟩ dX4_isDigit_17
    · have h := h.2 k2
      refine lv_iconst (v := 1) hx hb dX4_isDigit_12 (by decide) ?_
      refine lv_goto (tgt := 17) hx hb dX4_isDigit_13 (by decide) ?_
      exact sw_ri hx hb hr hlocks hW (by decide) ⟨h, rfl⟩ dX4_isDigit_17

theorem cs_X4_fits : sw_cS yX4_fits cX4_fits 2 (some .boolean) 2 := ⟨q_1117, q_7, q_1118, by decide +kernel⟩
def wX4_fits (a1 : Int32) (a2 : Int32) (Q : Int32 → Prop) : Prop :=
  (a1 = (70 : Int32) → (wX6_isFrame a2 (fun r9 => narrow .boolean (.int r9) = .int r9 ∧ (Q r9)))) ∧ (¬ a1 = (70 : Int32) → ((a1 = (68 : Int32) → (wX4_isDigit a2 (fun r3 => narrow .boolean (.int r3) = .int r3 ∧ (Q r3)))) ∧ (¬ a1 = (68 : Int32) → ((a1 = (78 : Int32) → (wX4_isDigit a2 (fun r7 => narrow .boolean (.int r7) = .int r7 ∧ (Q r7)))) ∧ (¬ a1 = (78 : Int32) → ((a1 = a2 → (Q (1 : Int32))) ∧ (¬ a1 = a2 → (Q (0 : Int32)))))))))
set_option maxRecDepth 20000 in
theorem kX4_fits (l : Launch) (g : sG) (a1 : Int32) (a2 : Int32) (M : sM) (Q : Int32 → Prop) (h : wX4_fits a1 a2 Q) : Met l yX4_fits (sw_ws yX4_fits cX4_fits 2 (some .boolean)) { frames := 1, cells := 0, slots := 0, locals := 20 } (va_Pc [.int a1, .int a2] (sw_Pr g M)) (va_Qi (fun r M1 => Q r ∧ M1 = M) (sw_Po g) (sw_A g)) 0 0 (sw_A g) := by
  refine sw_met (by decide) (Nat.le_of_ble_eq_true rfl) ?_
  intro p e s m args below meth c ls hx hb hr hts hown hml hlocks hW hl
  have hown : s.vm.findClass RX4 = some m.cls := hown
  have hl : lv_has ls 2 [(0, .int a1), (1, .int a2)] := hl
  unfold wX4_fits at h
  refine lv_iload_n hx hb dX4_fits_0 rfl (lv_at hl 0 rfl) ?_
  refine lv_bipush (v := 70) hx hb dX4_fits_1 (by decide) ?_
  refine lv_icmp_ne (tgt := 11) hx hb dX4_fits_3 (by decide) (fun k1 => ?_) (fun k1 => ?_)
  · have h := h.2 k1
    refine lv_iload_n hx hb dX4_fits_11 rfl (lv_at hl 0 rfl) ?_
    refine lv_bipush (v := 68) hx hb dX4_fits_12 (by decide) ?_
    refine lv_icmp_eq (tgt := 23) hx hb dX4_fits_14 (by decide) (fun k2 => ?_) (fun k2 => ?_)
    · have h := h.1 k2
      refine lv_iload_n hx hb dX4_fits_23 rfl (lv_at hl 1 rfl) ?_
      refine sw_ki (rest := []) (sw_runS (As := [.int a2]) (rest := []) hx hb hml hown hts (kX4_isDigit l g a2 M _ h) cs_X4_isDigit q_1119 rfl rfl ⟨(Nat.le_of_ble_eq_true rfl), (Nat.le_of_ble_eq_true rfl)⟩ hW rfl hl.1 rfl (Nat.le_of_ble_eq_true rfl) dX4_fits_24 ⟨(Nat.le_of_ble_eq_true rfl), (Nat.le_of_ble_eq_true rfl)⟩) hW (fun r3 M4 H locs h hW => ?_)
      obtain ⟨h, eM4⟩ := h
      rw [eM4] at hW
      exact sw_ri hx hb hr hlocks hW h.1 ⟨h.2, rfl⟩ dX4_fits_27
    · have h := h.2 k2
      refine lv_iload_n hx hb dX4_fits_17 rfl (lv_at hl 0 rfl) ?_
      refine lv_bipush (v := 78) hx hb dX4_fits_18 (by decide) ?_
      refine lv_icmp_ne (tgt := 28) hx hb dX4_fits_20 (by decide) (fun k5 => ?_) (fun k5 => ?_)
      · have h := h.2 k5
        refine lv_iload_n hx hb dX4_fits_28 rfl (lv_at hl 0 rfl) ?_
        refine lv_iload_n hx hb dX4_fits_29 rfl (lv_at hl 1 rfl) ?_
        refine lv_icmp_ne (tgt := 37) hx hb dX4_fits_30 (by decide) (fun k6 => ?_) (fun k6 => ?_)
        · have h := h.2 k6
          refine lv_iconst (v := 0) hx hb dX4_fits_37 (by decide) ?_
          exact sw_ri hx hb hr hlocks hW (by decide) ⟨h, rfl⟩ dX4_fits_38
        · have h := h.1 k6
          refine lv_iconst (v := 1) hx hb dX4_fits_33 (by decide) ?_
          refine lv_goto (tgt := 38) hx hb dX4_fits_34 (by decide) ?_
          exact sw_ri hx hb hr hlocks hW (by decide) ⟨h, rfl⟩ dX4_fits_38
      · have h := h.1 k5
        refine lv_iload_n hx hb dX4_fits_23 rfl (lv_at hl 1 rfl) ?_
        refine sw_ki (rest := []) (sw_runS (As := [.int a2]) (rest := []) hx hb hml hown hts (kX4_isDigit l g a2 M _ h) cs_X4_isDigit q_1119 rfl rfl ⟨(Nat.le_of_ble_eq_true rfl), (Nat.le_of_ble_eq_true rfl)⟩ hW rfl hl.1 rfl (Nat.le_of_ble_eq_true rfl) dX4_fits_24 ⟨(Nat.le_of_ble_eq_true rfl), (Nat.le_of_ble_eq_true rfl)⟩) hW (fun r7 M8 H locs h hW => ?_)
        obtain ⟨h, eM8⟩ := h
        rw [eM8] at hW
        exact sw_ri hx hb hr hlocks hW h.1 ⟨h.2, rfl⟩ dX4_fits_27
  · have h := h.1 k1
    refine lv_iload_n hx hb dX4_fits_6 rfl (lv_at hl 1 rfl) ?_
    refine sw_ki (rest := []) (sw_runN (As := [.int a2]) (rest := []) hx hb hml hown hts (kX6_isFrame l g a2 M _ h) cs_X6_isFrame qn_X4_95 rfl rfl ⟨(Nat.le_of_ble_eq_true rfl), (Nat.le_of_ble_eq_true rfl)⟩ hW rfl hl.1 rfl (Nat.le_of_ble_eq_true rfl) dX4_fits_7 ⟨(Nat.le_of_ble_eq_true rfl), (Nat.le_of_ble_eq_true rfl)⟩) hW (fun r9 M10 H locs h hW => ?_)
    obtain ⟨h, eM10⟩ := h
    rw [eM10] at hW
    exact sw_ri hx hb hr hlocks hW h.1 ⟨h.2, rfl⟩ dX4_fits_10

theorem cs_X4_errorAt : sw_cS yX4_errorAt cX4_errorAt 1 (some .int) 1 := ⟨q_1123, q_7, q_1124, by decide +kernel⟩
def wX4_errorAt (a1 : Int32) (Q : Int32 → Prop) : Prop :=
  Q ((-1 : Int32) - a1)
set_option maxRecDepth 20000 in
theorem kX4_errorAt (l : Launch) (g : sG) (a1 : Int32) (M : sM) (Q : Int32 → Prop) (h : wX4_errorAt a1 Q) : Met l yX4_errorAt (sw_ws yX4_errorAt cX4_errorAt 1 (some .int)) { frames := 0, cells := 0, slots := 0, locals := 0 } (va_Pc [.int a1] (sw_Pr g M)) (va_Qi (fun r M1 => Q r ∧ M1 = M) (sw_Po g) (sw_A g)) 0 0 (sw_A g) := by
  refine sw_met (by decide) (Nat.le_of_ble_eq_true rfl) ?_
  intro p e s m args below meth c ls hx hb hr hts hown hml hlocks hW hl
  have hown : s.vm.findClass RX4 = some m.cls := hown
  have hl : lv_has ls 1 [(0, .int a1)] := hl
  unfold wX4_errorAt at h
  refine lv_iconst (v := -1) hx hb dX4_errorAt_0 (by decide) ?_
  refine lv_iload_n hx hb dX4_errorAt_1 rfl (lv_at hl 0 rfl) ?_
  refine lv_isub hx hb dX4_errorAt_2 ?_
  exact sw_ri hx hb hr hlocks hW rfl ⟨h, rfl⟩ dX4_errorAt_3

theorem cs_X4_isOperand : sw_cS yX4_isOperand cX4_isOperand 1 (some .boolean) 1 := ⟨q_1126, q_7, q_1127, by decide +kernel⟩
def wX4_isOperand (a1 : Int32) (Q : Int32 → Prop) : Prop :=
  (a1 = (70 : Int32) → (Q (1 : Int32))) ∧ (¬ a1 = (70 : Int32) → ((a1 = (68 : Int32) → (Q (1 : Int32))) ∧ (¬ a1 = (68 : Int32) → ((a1 = (78 : Int32) → (Q (1 : Int32))) ∧ (¬ a1 = (78 : Int32) → (Q (0 : Int32)))))))
set_option maxRecDepth 20000 in
theorem kX4_isOperand (l : Launch) (g : sG) (a1 : Int32) (M : sM) (Q : Int32 → Prop) (h : wX4_isOperand a1 Q) : Met l yX4_isOperand (sw_ws yX4_isOperand cX4_isOperand 1 (some .boolean)) { frames := 0, cells := 0, slots := 0, locals := 0 } (va_Pc [.int a1] (sw_Pr g M)) (va_Qi (fun r M1 => Q r ∧ M1 = M) (sw_Po g) (sw_A g)) 0 0 (sw_A g) := by
  refine sw_met (by decide) (Nat.le_of_ble_eq_true rfl) ?_
  intro p e s m args below meth c ls hx hb hr hts hown hml hlocks hW hl
  have hown : s.vm.findClass RX4 = some m.cls := hown
  have hl : lv_has ls 1 [(0, .int a1)] := hl
  unfold wX4_isOperand at h
  refine lv_iload_n hx hb dX4_isOperand_0 rfl (lv_at hl 0 rfl) ?_
  refine lv_bipush (v := 70) hx hb dX4_isOperand_1 (by decide) ?_
  refine lv_icmp_eq (tgt := 18) hx hb dX4_isOperand_3 (by decide) (fun k1 => ?_) (fun k1 => ?_)
  · have h := h.1 k1
    refine lv_iconst (v := 1) hx hb dX4_isOperand_18 (by decide) ?_
    refine lv_goto (tgt := 23) hx hb dX4_isOperand_19 (by decide) ?_
    exact sw_ri hx hb hr hlocks hW (by decide) ⟨h, rfl⟩ dX4_isOperand_23
  · have h := h.2 k1
    refine lv_iload_n hx hb dX4_isOperand_6 rfl (lv_at hl 0 rfl) ?_
    refine lv_bipush (v := 68) hx hb dX4_isOperand_7 (by decide) ?_
    refine lv_icmp_eq (tgt := 18) hx hb dX4_isOperand_9 (by decide) (fun k2 => ?_) (fun k2 => ?_)
    · have h := h.1 k2
      refine lv_iconst (v := 1) hx hb dX4_isOperand_18 (by decide) ?_
      refine lv_goto (tgt := 23) hx hb dX4_isOperand_19 (by decide) ?_
      exact sw_ri hx hb hr hlocks hW (by decide) ⟨h, rfl⟩ dX4_isOperand_23
    · have h := h.2 k2
      refine lv_iload_n hx hb dX4_isOperand_12 rfl (lv_at hl 0 rfl) ?_
      refine lv_bipush (v := 78) hx hb dX4_isOperand_13 (by decide) ?_
      refine lv_icmp_ne (tgt := 22) hx hb dX4_isOperand_15 (by decide) (fun k3 => ?_) (fun k3 => ?_)
      · have h := h.2 k3
        refine lv_iconst (v := 0) hx hb dX4_isOperand_22 (by decide) ?_
        exact sw_ri hx hb hr hlocks hW (by decide) ⟨h, rfl⟩ dX4_isOperand_23
      · have h := h.1 k3
        refine lv_iconst (v := 1) hx hb dX4_isOperand_18 (by decide) ?_
        refine lv_goto (tgt := 23) hx hb dX4_isOperand_19 (by decide) ?_
        exact sw_ri hx hb hr hlocks hW (by decide) ⟨h, rfl⟩ dX4_isOperand_23

def jX4_match_135 (a2 : Int32) (x5_9 : Int32) (x6_9 : Int32) (M_9 : sM) (r3 : Int32) (N9 : Int32 → Int32 → Int32 → sM → Prop) (x4_135 : Int32) (x8_135 : Int32) : Prop :=
  wX4_isOperand r3 (fun r13 => (r13 = 0 → (∀ v15 : Int32, v15 = x6_9 + (1 : Int32) → (N9 x4_135 x5_9 v15 M_9))) ∧ (¬ r13 = 0 → (((4 : Int32) ≤ x5_9 → (∀ v17 : Int32, v17 = x6_9 + (1 : Int32) → (N9 x4_135 x5_9 v17 M_9))) ∧ (¬ (4 : Int32) ≤ x5_9 → (vp_in a2 13 ∧ (vp_in x5_9 4 ∧ (∀ M20 : sM, M20 = sw_ms M_9 (18 + (a2).toNatClampNeg) (x5_9).toNatClampNeg x8_135 → (∀ v21 : Int32, v21 = x5_9 + (1 : Int32) → (∀ v22 : Int32, v22 = x6_9 + (1 : Int32) → (N9 x4_135 v21 v22 M20))))))))))
def jX4_match_85 (a2 : Int32) (x5_9 : Int32) (x6_9 : Int32) (M_9 : sM) (r3 : Int32) (v12 : Int32) (N9 : Int32 → Int32 → Int32 → sM → Prop) (x8_85 : Int32) : Prop :=
  (r3 = (78 : Int32) → (((M_9 14 1) ≤ v12 → (jX4_match_135 a2 x5_9 x6_9 M_9 r3 N9 v12 x8_85)) ∧ (¬ (M_9 14 1) ≤ v12 → (vp_in v12 60 ∧ (wX4_isDigit (M_9 15 (v12).toNatClampNeg) (fun r27 => (r27 = 0 → (jX4_match_135 a2 x5_9 x6_9 M_9 r3 N9 v12 x8_85)) ∧ (¬ r27 = 0 → (vp_in v12 60 ∧ (∀ v30 : Int32, v30 = (((x8_85 * (10 : Int32)) + (M_9 15 (v12).toNatClampNeg)) - (48 : Int32)) → (∀ v31 : Int32, v31 = v12 + (1 : Int32) → (jX4_match_135 a2 x5_9 x6_9 M_9 r3 N9 v31 v30))))))))))) ∧ (¬ r3 = (78 : Int32) → (jX4_match_135 a2 x5_9 x6_9 M_9 r3 N9 v12 x8_85))
def lX4_match_9 (t1 : Nat) (a2 : Int32) (Q : Int32 → sM → Prop) (K9 : Int32 → sM → Prop) : Nat → Int32 → Int32 → Int32 → sM → Prop
  | 0, _, _, _, _ => False
  | n9 + 1, x4_9, x5_9, x6_9, M_9 => wJ0_length_8abf5 t1 (fun r1 => (r1 ≤ x6_9 → (K9 x4_9 M_9)) ∧ (¬ r1 ≤ x6_9 → (wJ0_charAt_5068e t1 x6_9 (fun r3 => ((M_9 14 1) ≤ x4_9 → (wX4_errorAt x4_9 (fun r5 => Q r5 M_9))) ∧ (¬ (M_9 14 1) ≤ x4_9 → (vp_in x4_9 60 ∧ (wX4_fits r3 (M_9 15 (x4_9).toNatClampNeg) (fun r8 => (r8 = 0 → (wX4_errorAt x4_9 (fun r37 => Q r37 M_9))) ∧ (¬ r8 = 0 → (vp_in x4_9 60 ∧ (∀ v11 : Int32, v11 = (M_9 15 (x4_9).toNatClampNeg) → (∀ v12 : Int32, v12 = x4_9 + (1 : Int32) → ((r3 = (68 : Int32) → (∀ v34 : Int32, v34 = v11 + (-48 : Int32) → (jX4_match_85 a2 x5_9 x6_9 M_9 r3 v12 (fun x4_9 x5_9 x6_9 M_9 => lX4_match_9 t1 a2 Q K9 n9 x4_9 x5_9 x6_9 M_9) v34))) ∧ (¬ r3 = (68 : Int32) → ((r3 = (78 : Int32) → (∀ v36 : Int32, v36 = v11 + (-48 : Int32) → (jX4_match_85 a2 x5_9 x6_9 M_9 r3 v12 (fun x4_9 x5_9 x6_9 M_9 => lX4_match_9 t1 a2 Q K9 n9 x4_9 x5_9 x6_9 M_9) v36))) ∧ (¬ r3 = (78 : Int32) → (jX4_match_85 a2 x5_9 x6_9 M_9 r3 v12 (fun x4_9 x5_9 x6_9 M_9 => lX4_match_9 t1 a2 Q K9 n9 x4_9 x5_9 x6_9 M_9) v11)))))))))))))))))
theorem cv_X4_match : sw_cV yX4_match RX4 cX4_match 9 (some .int) 3 := ⟨q_1112, q_1172, q_7, q_1113, by decide +kernel⟩
def wX4_match (t1 : Nat) (a2 : Int32) (a3 : Int32) (M : sM) (Q : Int32 → sM → Prop) : Prop :=
  ∃ n9, lX4_match_9 t1 a2 Q (fun x4_9k M_9k => Q x4_9k M_9k) n9 a3 (0 : Int32) (0 : Int32) M
set_option maxRecDepth 20000 in
theorem kX4_match (l : Launch) (g : sG) (t1 : Nat) (ht1 : t1 < 18) (a2 : Int32) (a3 : Int32) (M : sM) (Q : Int32 → sM → Prop) (h : wX4_match t1 a2 a3 M Q) : Met l yX4_match (sw_ws yX4_match cX4_match 9 (some .int)) { frames := 4, cells := 0, slots := 0, locals := 101 } (va_Pc [.ref (sw_ad g 14), .ref (sw_sk g t1), .int a2, .int a3] (sw_Pr g M)) (va_Qi Q (sw_Po g) (sw_A g)) 0 0 (sw_A g) := by
  refine sw_met (by decide) (Nat.le_of_ble_eq_true rfl) ?_
  intro p e s m args below meth c ls hx hb hr hts hown hml hlocks hW hl
  have hown : s.vm.findClass RX4 = some m.cls := hown
  have hl : lv_has ls 9 [(0, .ref (sw_ad g 14)), (1, .ref (sw_sk g t1)), (2, .int a2), (3, .int a3)] := hl
  unfold wX4_match at h
  refine lv_iload_n hx hb dX4_match_0 rfl (lv_at hl 3 rfl) ?_
  refine lv_istore (lv' := [(4, .int a3), (0, .ref (sw_ad g 14)), (1, .ref (sw_sk g t1)), (2, .int a2), (3, .int a3)]) hx hb dX4_match_1 hl (Nat.le_of_ble_eq_true rfl) rfl (fun ls hl => ?_)
  refine lv_iconst (v := 0) hx hb dX4_match_3 (by decide) ?_
  refine lv_istore (lv' := [(5, .int (0 : Int32)), (4, .int a3), (0, .ref (sw_ad g 14)), (1, .ref (sw_sk g t1)), (2, .int a2), (3, .int a3)]) hx hb dX4_match_4 hl (Nat.le_of_ble_eq_true rfl) rfl (fun ls hl => ?_)
  refine lv_iconst (v := 0) hx hb dX4_match_6 (by decide) ?_
  refine lv_istore (lv' := [(6, .int (0 : Int32)), (5, .int (0 : Int32)), (4, .int a3), (0, .ref (sw_ad g 14)), (1, .ref (sw_sk g t1)), (2, .int a2), (3, .int a3)]) hx hb dX4_match_7 hl (Nat.le_of_ble_eq_true rfl) rfl (fun ls hl => ?_)
  obtain ⟨n9, h⟩ := h
  refine sw_lp_iiiM (hd := 9) (Lf := fun x4_9 x5_9 x6_9 M_9 => [(0, .ref (sw_ad g 14)), (1, .ref (sw_sk g t1)), (2, .int a2), (4, .int x4_9), (5, .int x5_9), (6, .int x6_9)]) h hW (lv_sub hl [3, 4, 5, 2, 1, 0] rfl) (fun _ _ _ _ h => h) (fun n9 ih9 x4_9 x5_9 x6_9 M_9 H locs ls h hW hl => ?_)
  rw [lX4_match_9.eq_2] at h
  refine lv_iload hx hb dX4_match_9 (lv_at hl 5 rfl) ?_
  refine lv_aload_n hx hb dX4_match_11 rfl (lv_at hl 1 rfl) ?_
  refine sw_ki (rest := [.int x6_9]) (sw_runVs (As := []) (rest := [.int x6_9]) hx hb hml hown hts (kJ0_length_8abf5 l g t1 ht1 M_9 _ h) cv_J0_length_8abf5 q_1114 rfl rfl ⟨(Nat.le_of_ble_eq_true rfl), (Nat.le_of_ble_eq_true rfl)⟩ hW ht1 rfl hl.1 rfl (Nat.le_of_ble_eq_true rfl) dX4_match_12 ⟨(Nat.le_of_ble_eq_true rfl), (Nat.le_of_ble_eq_true rfl)⟩) hW (fun r1 M41 H locs h hW => ?_)
  obtain ⟨h, eM41⟩ := h
  rw [eM41] at hW
  refine lv_icmp_ge (tgt := 169) hx hb dX4_match_15 (by decide) (fun k2 => ?_) (fun k2 => ?_)
  · have h := h.1 k2
    refine lv_iload hx hb dX4_match_169 (lv_at hl 3 rfl) ?_
    exact sw_ri hx hb hr hlocks hW rfl h dX4_match_171
  · have h := h.2 k2
    refine lv_aload_n hx hb dX4_match_18 rfl (lv_at hl 1 rfl) ?_
    refine lv_iload hx hb dX4_match_19 (lv_at hl 5 rfl) ?_
    refine sw_ki (rest := []) (sw_runVs (As := [.int x6_9]) (rest := []) hx hb hml hown hts (kJ0_charAt_5068e l g t1 ht1 x6_9 M_9 _ h) cv_J0_charAt_5068e q_1115 rfl rfl ⟨(Nat.le_of_ble_eq_true rfl), (Nat.le_of_ble_eq_true rfl)⟩ hW ht1 rfl hl.1 rfl (Nat.le_of_ble_eq_true rfl) dX4_match_21 ⟨(Nat.le_of_ble_eq_true rfl), (Nat.le_of_ble_eq_true rfl)⟩) hW (fun r3 M40 H locs h hW => ?_)
    obtain ⟨h, eM40⟩ := h
    rw [eM40] at hW
    refine lv_istore (lv' := [(7, .int r3), (0, .ref (sw_ad g 14)), (1, .ref (sw_sk g t1)), (2, .int a2), (4, .int x4_9), (5, .int x5_9), (6, .int x6_9)]) hx hb dX4_match_24 hl (Nat.le_of_ble_eq_true rfl) rfl (fun ls hl => ?_)
    refine lv_iload hx hb dX4_match_26 (lv_at hl 4 rfl) ?_
    refine lv_aload_n hx hb dX4_match_28 rfl (lv_at hl 1 rfl) ?_
    refine sw_gi (j := 1) hx hb hts hown hW rfl qf_4 (Or.inl (Nat.le_of_ble_eq_true rfl)) sl_14 rfl (Nat.le_of_ble_eq_true rfl) q_133 dX4_match_29 ?_
    refine lv_icmp_ge (tgt := 50) hx hb dX4_match_32 (by decide) (fun k4 => ?_) (fun k4 => ?_)
    · have h := h.1 k4
      refine lv_iload hx hb dX4_match_50 (lv_at hl 4 rfl) ?_
      refine sw_ki (rest := []) (sw_runS (As := [.int x4_9]) (rest := []) hx hb hml hown hts (kX4_errorAt l g x4_9 M_9 _ h) cs_X4_errorAt q_1122 rfl rfl ⟨(Nat.le_of_ble_eq_true rfl), (Nat.le_of_ble_eq_true rfl)⟩ hW rfl hl.1 rfl (Nat.le_of_ble_eq_true rfl) dX4_match_52 ⟨(Nat.le_of_ble_eq_true rfl), (Nat.le_of_ble_eq_true rfl)⟩) hW (fun r5 M6 H locs h hW => ?_)
      obtain ⟨h, eM6⟩ := h
      rw [eM6] at hW
      exact sw_ri hx hb hr hlocks hW rfl h dX4_match_55
    · have h := h.2 k4
      refine lv_iload hx hb dX4_match_35 (lv_at hl 0 rfl) ?_
      refine lv_aload_n hx hb dX4_match_37 rfl (lv_at hl 1 rfl) ?_
      refine sw_gr (j := 0) (r := 15) hx hb hts hown hW rfl qf_4 (Or.inl (Nat.le_of_ble_eq_true rfl)) sl_14 rfl (Nat.le_of_ble_eq_true rfl) q_132 dX4_match_38 ?_
      refine lv_iload hx hb dX4_match_41 (lv_at hl 4 rfl) ?_
      have b7 := h.1
      have h := h.2
      refine sw_ca (n := 60) hx hb hW (Or.inl (Nat.le_of_ble_eq_true rfl)) sl_15 b7 dX4_match_43 ?_
      refine sw_ki (rest := []) (sw_runS (As := [.int r3, .int (M_9 15 (x4_9).toNatClampNeg)]) (rest := []) hx hb hml hown hts (kX4_fits l g r3 (M_9 15 (x4_9).toNatClampNeg) M_9 _ h) cs_X4_fits q_1116 rfl rfl ⟨(Nat.le_of_ble_eq_true rfl), (Nat.le_of_ble_eq_true rfl)⟩ hW rfl hl.1 rfl (Nat.le_of_ble_eq_true rfl) dX4_match_44 ⟨(Nat.le_of_ble_eq_true rfl), (Nat.le_of_ble_eq_true rfl)⟩) hW (fun r8 M39 H locs h hW => ?_)
      obtain ⟨h, eM39⟩ := h
      rw [eM39] at hW
      refine lv_if_ne (tgt := 56) hx hb dX4_match_47 (by decide) (fun k9 => ?_) (fun k9 => ?_)
      · have h := h.2 k9
        refine lv_aload_n hx hb dX4_match_56 rfl (lv_at hl 1 rfl) ?_
        refine sw_gr (j := 0) (r := 15) hx hb hts hown hW rfl qf_4 (Or.inl (Nat.le_of_ble_eq_true rfl)) sl_14 rfl (Nat.le_of_ble_eq_true rfl) q_132 dX4_match_57 ?_
        refine lv_iload hx hb dX4_match_60 (lv_at hl 4 rfl) ?_
        have b10 := h.1
        have h := h.2
        refine sw_ca (n := 60) hx hb hW (Or.inl (Nat.le_of_ble_eq_true rfl)) sl_15 b10 dX4_match_62 ?_
        refine lv_topi (fun v11 ev11 => ?_)
        have h := h v11 ev11
        refine lv_istore (lv' := [(8, .int v11), (7, .int r3), (0, .ref (sw_ad g 14)), (1, .ref (sw_sk g t1)), (2, .int a2), (4, .int x4_9), (5, .int x5_9), (6, .int x6_9)]) hx hb dX4_match_63 hl (Nat.le_of_ble_eq_true rfl) rfl (fun ls hl => ?_)
        obtain ⟨v12, ev12⟩ : ∃ z : Int32, z = x4_9 + (1 : Int32) := ⟨_, rfl⟩
        have h := h v12 ev12
        refine lv_iinc (v := v12) (lv' := [(4, .int v12), (8, .int v11), (7, .int r3), (0, .ref (sw_ad g 14)), (1, .ref (sw_sk g t1)), (2, .int a2), (5, .int x5_9), (6, .int x6_9)]) hx hb dX4_match_65 hl (k := 5) rfl (by rw [ev12]; rfl) (Nat.le_of_ble_eq_true rfl) rfl (fun ls hl => ?_)
        refine lv_iload hx hb dX4_match_68 (lv_at hl 2 rfl) ?_
        refine lv_bipush (v := 68) hx hb dX4_match_70 (by decide) ?_
        refine sw_jn_i (g := g) (nL := 9) (M := M_9) (jp := 85) (J := fun x8_85 => jX4_match_85 a2 x5_9 x6_9 M_9 r3 v12 (fun x4_9 x5_9 x6_9 M_9 => lX4_match_9 t1 a2 Q (fun x4_9k M_9k => Q x4_9k M_9k) n9 x4_9 x5_9 x6_9 M_9) x8_85) (Lf := fun x8_85 => [(0, .ref (sw_ad g 14)), (1, .ref (sw_sk g t1)), (2, .int a2), (4, .int v12), (5, .int x5_9), (6, .int x6_9), (7, .int r3), (8, .int x8_85)]) (Sf := fun x8_85 => []) (fun x8_85 H locs ls h hW hl => ?_) (fun hJ85 => ?_)
        · unfold jX4_match_85 at h
          refine lv_iload hx hb dX4_match_85 (lv_at hl 6 rfl) ?_
          refine lv_bipush (v := 78) hx hb dX4_match_87 (by decide) ?_
          refine sw_jn_ii (g := g) (nL := 9) (M := M_9) (jp := 135) (J := fun x4_135 x8_135 => jX4_match_135 a2 x5_9 x6_9 M_9 r3 (fun x4_9 x5_9 x6_9 M_9 => lX4_match_9 t1 a2 Q (fun x4_9k M_9k => Q x4_9k M_9k) n9 x4_9 x5_9 x6_9 M_9) x4_135 x8_135) (Lf := fun x4_135 x8_135 => [(0, .ref (sw_ad g 14)), (1, .ref (sw_sk g t1)), (2, .int a2), (4, .int x4_135), (5, .int x5_9), (6, .int x6_9), (7, .int r3), (8, .int x8_135)]) (Sf := fun x4_135 x8_135 => []) (fun x4_135 x8_135 H locs ls h hW hl => ?_) (fun hJ135 => ?_)
          · unfold jX4_match_135 at h
            refine lv_iload hx hb dX4_match_135 (lv_at hl 6 rfl) ?_
            refine sw_ki (rest := []) (sw_runS (As := [.int r3]) (rest := []) hx hb hml hown hts (kX4_isOperand l g r3 M_9 _ h) cs_X4_isOperand q_1125 rfl rfl ⟨(Nat.le_of_ble_eq_true rfl), (Nat.le_of_ble_eq_true rfl)⟩ hW rfl hl.1 rfl (Nat.le_of_ble_eq_true rfl) dX4_match_137 ⟨(Nat.le_of_ble_eq_true rfl), (Nat.le_of_ble_eq_true rfl)⟩) hW (fun r13 M23 H locs h hW => ?_)
            obtain ⟨h, eM23⟩ := h
            rw [eM23] at hW
            refine lv_if_eq (tgt := 163) hx hb dX4_match_140 (by decide) (fun k14 => ?_) (fun k14 => ?_)
            · have h := h.1 k14
              obtain ⟨v15, ev15⟩ : ∃ z : Int32, z = x6_9 + (1 : Int32) := ⟨_, rfl⟩
              have h := h v15 ev15
              refine lv_iinc (v := v15) (lv' := [(6, .int v15), (0, .ref (sw_ad g 14)), (1, .ref (sw_sk g t1)), (2, .int a2), (4, .int x4_135), (5, .int x5_9), (7, .int r3), (8, .int x8_135)]) hx hb dX4_match_163 hl (k := 5) rfl (by rw [ev15]; rfl) (Nat.le_of_ble_eq_true rfl) rfl (fun ls hl => ?_)
              refine lv_goto (tgt := 9) hx hb dX4_match_166 (by decide) ?_
              exact ih9 _ _ _ _ _ _ _ h hW (lv_sub hl [1, 2, 3, 4, 5, 0] rfl)
            · have h := h.2 k14
              refine lv_iload hx hb dX4_match_143 (lv_at hl 4 rfl) ?_
              refine lv_iconst (v := 4) hx hb dX4_match_145 (by decide) ?_
              refine lv_icmp_ge (tgt := 163) hx hb dX4_match_146 (by decide) (fun k16 => ?_) (fun k16 => ?_)
              · have h := h.1 k16
                obtain ⟨v17, ev17⟩ : ∃ z : Int32, z = x6_9 + (1 : Int32) := ⟨_, rfl⟩
                have h := h v17 ev17
                refine lv_iinc (v := v17) (lv' := [(6, .int v17), (0, .ref (sw_ad g 14)), (1, .ref (sw_sk g t1)), (2, .int a2), (4, .int x4_135), (5, .int x5_9), (7, .int r3), (8, .int x8_135)]) hx hb dX4_match_163 hl (k := 5) rfl (by rw [ev17]; rfl) (Nat.le_of_ble_eq_true rfl) rfl (fun ls hl => ?_)
                refine lv_goto (tgt := 9) hx hb dX4_match_166 (by decide) ?_
                exact ih9 _ _ _ _ _ _ _ h hW (lv_sub hl [1, 2, 3, 4, 5, 0] rfl)
              · have h := h.2 k16
                refine lv_aload_n hx hb dX4_match_149 rfl (lv_at hl 0 rfl) ?_
                refine sw_gr (j := 4) (r := 17) hx hb hts hown hW rfl qf_4 (Or.inl (Nat.le_of_ble_eq_true rfl)) sl_14 rfl (Nat.le_of_ble_eq_true rfl) q_139 dX4_match_150 ?_
                refine lv_iload_n hx hb dX4_match_153 rfl (lv_at hl 2 rfl) ?_
                have b18 := h.1
                have h := h.2
                refine sw_aaO hx hb hW b18 dX4_match_154 ?_
                refine lv_iload hx hb dX4_match_155 (lv_at hl 4 rfl) ?_
                refine lv_iload hx hb dX4_match_157 (lv_at hl 7 rfl) ?_
                have b19 := h.1
                have h := h.2
                refine sw_is (n := 4) hx hb hW (sw_o_lt (sw_vlt b18)) (sw_lay_o (sw_vlt b18)) b19 dX4_match_159 (fun H locs hW => ?_)
                obtain ⟨M20, eM20⟩ : ∃ z : sM, z = sw_ms M_9 (18 + (a2).toNatClampNeg) (x5_9).toNatClampNeg x8_135 := ⟨_, rfl⟩
                rw [← eM20] at hW
                have h := h M20 eM20
                obtain ⟨v21, ev21⟩ : ∃ z : Int32, z = x5_9 + (1 : Int32) := ⟨_, rfl⟩
                have h := h v21 ev21
                refine lv_iinc (v := v21) (lv' := [(5, .int v21), (0, .ref (sw_ad g 14)), (1, .ref (sw_sk g t1)), (2, .int a2), (4, .int x4_135), (6, .int x6_9), (7, .int r3), (8, .int x8_135)]) hx hb dX4_match_160 hl (k := 4) rfl (by rw [ev21]; rfl) (Nat.le_of_ble_eq_true rfl) rfl (fun ls hl => ?_)
                obtain ⟨v22, ev22⟩ : ∃ z : Int32, z = x6_9 + (1 : Int32) := ⟨_, rfl⟩
                have h := h v22 ev22
                refine lv_iinc (v := v22) (lv' := [(6, .int v22), (5, .int v21), (0, .ref (sw_ad g 14)), (1, .ref (sw_sk g t1)), (2, .int a2), (4, .int x4_135), (7, .int r3), (8, .int x8_135)]) hx hb dX4_match_163 hl (k := 5) rfl (by rw [ev22]; rfl) (Nat.le_of_ble_eq_true rfl) rfl (fun ls hl => ?_)
                refine lv_goto (tgt := 9) hx hb dX4_match_166 (by decide) ?_
                exact ih9 _ _ _ _ _ _ _ h hW (lv_sub hl [2, 3, 4, 5, 1, 0] rfl)
          · refine lv_icmp_ne (tgt := 135) hx hb dX4_match_89 (by decide) (fun k24 => ?_) (fun k24 => ?_)
            · have h := h.2 k24
              exact hJ135 _ _ _ _ _ h hW (lv_sub hl [0, 1, 2, 3, 4, 5, 6, 7] rfl)
            · have h := h.1 k24
              refine lv_iload hx hb dX4_match_92 (lv_at hl 3 rfl) ?_
              refine lv_aload_n hx hb dX4_match_94 rfl (lv_at hl 0 rfl) ?_
              refine sw_gi (j := 1) hx hb hts hown hW rfl qf_4 (Or.inl (Nat.le_of_ble_eq_true rfl)) sl_14 rfl (Nat.le_of_ble_eq_true rfl) q_133 dX4_match_95 ?_
              refine lv_icmp_ge (tgt := 135) hx hb dX4_match_98 (by decide) (fun k25 => ?_) (fun k25 => ?_)
              · have h := h.1 k25
                exact hJ135 _ _ _ _ _ h hW (lv_sub hl [0, 1, 2, 3, 4, 5, 6, 7] rfl)
              · have h := h.2 k25
                refine lv_aload_n hx hb dX4_match_101 rfl (lv_at hl 0 rfl) ?_
                refine sw_gr (j := 0) (r := 15) hx hb hts hown hW rfl qf_4 (Or.inl (Nat.le_of_ble_eq_true rfl)) sl_14 rfl (Nat.le_of_ble_eq_true rfl) q_132 dX4_match_102 ?_
                refine lv_iload hx hb dX4_match_105 (lv_at hl 3 rfl) ?_
                have b26 := h.1
                have h := h.2
                refine sw_ca (n := 60) hx hb hW (Or.inl (Nat.le_of_ble_eq_true rfl)) sl_15 b26 dX4_match_107 ?_
                refine sw_ki (rest := []) (sw_runS (As := [.int (M_9 15 (v12).toNatClampNeg)]) (rest := []) hx hb hml hown hts (kX4_isDigit l g (M_9 15 (v12).toNatClampNeg) M_9 _ h) cs_X4_isDigit q_1119 rfl rfl ⟨(Nat.le_of_ble_eq_true rfl), (Nat.le_of_ble_eq_true rfl)⟩ hW rfl hl.1 rfl (Nat.le_of_ble_eq_true rfl) dX4_match_108 ⟨(Nat.le_of_ble_eq_true rfl), (Nat.le_of_ble_eq_true rfl)⟩) hW (fun r27 M32 H locs h hW => ?_)
                obtain ⟨h, eM32⟩ := h
                rw [eM32] at hW
                refine lv_if_eq (tgt := 135) hx hb dX4_match_111 (by decide) (fun k28 => ?_) (fun k28 => ?_)
                · have h := h.1 k28
                  exact hJ135 _ _ _ _ _ h hW (lv_sub hl [0, 1, 2, 3, 4, 5, 6, 7] rfl)
                · have h := h.2 k28
                  refine lv_iload hx hb dX4_match_114 (lv_at hl 7 rfl) ?_
                  refine lv_bipush (v := 10) hx hb dX4_match_116 (by decide) ?_
                  refine lv_imul hx hb dX4_match_118 ?_
                  refine lv_aload_n hx hb dX4_match_119 rfl (lv_at hl 0 rfl) ?_
                  refine sw_gr (j := 0) (r := 15) hx hb hts hown hW rfl qf_4 (Or.inl (Nat.le_of_ble_eq_true rfl)) sl_14 rfl (Nat.le_of_ble_eq_true rfl) q_132 dX4_match_120 ?_
                  refine lv_iload hx hb dX4_match_123 (lv_at hl 3 rfl) ?_
                  have b29 := h.1
                  have h := h.2
                  refine sw_ca (n := 60) hx hb hW (Or.inl (Nat.le_of_ble_eq_true rfl)) sl_15 b29 dX4_match_125 ?_
                  refine lv_iadd hx hb dX4_match_126 ?_
                  refine lv_bipush (v := 48) hx hb dX4_match_127 (by decide) ?_
                  refine lv_isub hx hb dX4_match_129 ?_
                  refine lv_topi (fun v30 ev30 => ?_)
                  have h := h v30 ev30
                  refine lv_istore (lv' := [(8, .int v30), (0, .ref (sw_ad g 14)), (1, .ref (sw_sk g t1)), (2, .int a2), (4, .int v12), (5, .int x5_9), (6, .int x6_9), (7, .int r3)]) hx hb dX4_match_130 hl (Nat.le_of_ble_eq_true rfl) rfl (fun ls hl => ?_)
                  obtain ⟨v31, ev31⟩ : ∃ z : Int32, z = v12 + (1 : Int32) := ⟨_, rfl⟩
                  have h := h v31 ev31
                  refine lv_iinc (v := v31) (lv' := [(4, .int v31), (8, .int v30), (0, .ref (sw_ad g 14)), (1, .ref (sw_sk g t1)), (2, .int a2), (5, .int x5_9), (6, .int x6_9), (7, .int r3)]) hx hb dX4_match_132 hl (k := 4) rfl (by rw [ev31]; rfl) (Nat.le_of_ble_eq_true rfl) rfl (fun ls hl => ?_)
                  exact hJ135 _ _ _ _ _ h hW (lv_sub hl [2, 3, 4, 0, 5, 6, 7, 1] rfl)
        · refine lv_icmp_eq (tgt := 82) hx hb dX4_match_72 (by decide) (fun k33 => ?_) (fun k33 => ?_)
          · have h := h.1 k33
            obtain ⟨v34, ev34⟩ : ∃ z : Int32, z = v11 + (-48 : Int32) := ⟨_, rfl⟩
            have h := h v34 ev34
            refine lv_iinc (v := v34) (lv' := [(8, .int v34), (4, .int v12), (7, .int r3), (0, .ref (sw_ad g 14)), (1, .ref (sw_sk g t1)), (2, .int a2), (5, .int x5_9), (6, .int x6_9)]) hx hb dX4_match_82 hl (k := 1) rfl (by rw [ev34]; rfl) (Nat.le_of_ble_eq_true rfl) rfl (fun ls hl => ?_)
            exact hJ85 _ _ _ _ h hW (lv_sub hl [3, 4, 5, 1, 6, 7, 2, 0] rfl)
          · have h := h.2 k33
            refine lv_iload hx hb dX4_match_75 (lv_at hl 2 rfl) ?_
            refine lv_bipush (v := 78) hx hb dX4_match_77 (by decide) ?_
            refine lv_icmp_ne (tgt := 85) hx hb dX4_match_79 (by decide) (fun k35 => ?_) (fun k35 => ?_)
            · have h := h.2 k35
              exact hJ85 _ _ _ _ h hW (lv_sub hl [3, 4, 5, 0, 6, 7, 2, 1] rfl)
            · have h := h.1 k35
              obtain ⟨v36, ev36⟩ : ∃ z : Int32, z = v11 + (-48 : Int32) := ⟨_, rfl⟩
              have h := h v36 ev36
              refine lv_iinc (v := v36) (lv' := [(8, .int v36), (4, .int v12), (7, .int r3), (0, .ref (sw_ad g 14)), (1, .ref (sw_sk g t1)), (2, .int a2), (5, .int x5_9), (6, .int x6_9)]) hx hb dX4_match_82 hl (k := 1) rfl (by rw [ev36]; rfl) (Nat.le_of_ble_eq_true rfl) rfl (fun ls hl => ?_)
              exact hJ85 _ _ _ _ h hW (lv_sub hl [3, 4, 5, 1, 6, 7, 2, 0] rfl)
      · have h := h.1 k9
        refine lv_iload hx hb dX4_match_50 (lv_at hl 4 rfl) ?_
        refine sw_ki (rest := []) (sw_runS (As := [.int x4_9]) (rest := []) hx hb hml hown hts (kX4_errorAt l g x4_9 M_9 _ h) cs_X4_errorAt q_1122 rfl rfl ⟨(Nat.le_of_ble_eq_true rfl), (Nat.le_of_ble_eq_true rfl)⟩ hW rfl hl.1 rfl (Nat.le_of_ble_eq_true rfl) dX4_match_52 ⟨(Nat.le_of_ble_eq_true rfl), (Nat.le_of_ble_eq_true rfl)⟩) hW (fun r37 M38 H locs h hW => ?_)
        obtain ⟨h, eM38⟩ := h
        rw [eM38] at hW
        exact sw_ri hx hb hr hlocks hW rfl h dX4_match_55

theorem cs_X4_errorOf : sw_cS yX4_errorOf cX4_errorOf 1 (some .int) 1 := ⟨q_1129, q_7, q_1130, by decide +kernel⟩
def wX4_errorOf (a1 : Int32) (Q : Int32 → Prop) : Prop :=
  Q ((-1 : Int32) - a1)
set_option maxRecDepth 20000 in
theorem kX4_errorOf (l : Launch) (g : sG) (a1 : Int32) (M : sM) (Q : Int32 → Prop) (h : wX4_errorOf a1 Q) : Met l yX4_errorOf (sw_ws yX4_errorOf cX4_errorOf 1 (some .int)) { frames := 0, cells := 0, slots := 0, locals := 0 } (va_Pc [.int a1] (sw_Pr g M)) (va_Qi (fun r M1 => Q r ∧ M1 = M) (sw_Po g) (sw_A g)) 0 0 (sw_A g) := by
  refine sw_met (by decide) (Nat.le_of_ble_eq_true rfl) ?_
  intro p e s m args below meth c ls hx hb hr hts hown hml hlocks hW hl
  have hown : s.vm.findClass RX4 = some m.cls := hown
  have hl : lv_has ls 1 [(0, .int a1)] := hl
  unfold wX4_errorOf at h
  refine lv_iconst (v := -1) hx hb dX4_errorOf_0 (by decide) ?_
  refine lv_iload_n hx hb dX4_errorOf_1 rfl (lv_at hl 0 rfl) ?_
  refine lv_isub hx hb dX4_errorOf_2 ?_
  exact sw_ri hx hb hr hlocks hW rfl ⟨h, rfl⟩ dX4_errorOf_3

def lX4_readCommand_5 (a1 : Int32) (a2 : Int32) (Q : Int32 → sM → Prop) (K5 : Int32 → sM → Prop) : Nat → Int32 → Int32 → sM → Prop
  | 0, _, _, _ => False
  | n5 + 1, x3_5, x4_5, M_5 => ((10 : Int32) ≤ x4_5 → (K5 x3_5 M_5)) ∧ (¬ (10 : Int32) ≤ x4_5 → (wX4_shapeOf x4_5 (fun r6 => wX4_match r6 a1 a2 M_5 (fun r7 M8 => (r7 < 0 → (wX4_errorOf r7 (fun r10 => ∀ v11 : Int32, v11 = (if x3_5 < r10 then r10 else x3_5) → (∀ v12 : Int32, v12 = x4_5 + (1 : Int32) → ((fun x3_5 x4_5 M_5 => lX4_readCommand_5 a1 a2 Q K5 n5 x3_5 x4_5 M_5) v11 v12 M8))))) ∧ (¬ r7 < 0 → (vp_in a1 13 ∧ (∀ M15 : sM, M15 = sw_ms M8 16 (a1).toNatClampNeg x4_5 → (Q r7 M15))))))))
theorem cv_X4_readCommand : sw_cV yX4_readCommand RX4 cX4_readCommand 6 (some .int) 2 := ⟨q_1106, q_1171, q_7, q_1107, by decide +kernel⟩
def wX4_readCommand (a1 : Int32) (a2 : Int32) (M : sM) (Q : Int32 → sM → Prop) : Prop :=
  ∃ n5, lX4_readCommand_5 a1 a2 Q (fun x3_5k M_5k => wX4_errorAt x3_5k (fun r1 => Q r1 M_5k)) n5 a2 (0 : Int32) M
set_option maxRecDepth 20000 in
theorem kX4_readCommand (l : Launch) (g : sG) (a1 : Int32) (a2 : Int32) (M : sM) (Q : Int32 → sM → Prop) (h : wX4_readCommand a1 a2 M Q) : Met l yX4_readCommand (sw_ws yX4_readCommand cX4_readCommand 6 (some .int)) { frames := 5, cells := 0, slots := 0, locals := 129 } (va_Pc [.ref (sw_ad g 14), .int a1, .int a2] (sw_Pr g M)) (va_Qi Q (sw_Po g) (sw_A g)) 0 0 (sw_A g) := by
  refine sw_met (by decide) (Nat.le_of_ble_eq_true rfl) ?_
  intro p e s m args below meth c ls hx hb hr hts hown hml hlocks hW hl
  have hown : s.vm.findClass RX4 = some m.cls := hown
  have hl : lv_has ls 6 [(0, .ref (sw_ad g 14)), (1, .int a1), (2, .int a2)] := hl
  unfold wX4_readCommand at h
  refine lv_iload_n hx hb dX4_readCommand_0 rfl (lv_at hl 2 rfl) ?_
  refine lv_istore_n (lv' := [(3, .int a2), (0, .ref (sw_ad g 14)), (1, .int a1), (2, .int a2)]) hx hb dX4_readCommand_1 rfl hl (Nat.le_of_ble_eq_true rfl) rfl (fun ls hl => ?_)
  refine lv_iconst (v := 0) hx hb dX4_readCommand_2 (by decide) ?_
  refine lv_istore (lv' := [(4, .int (0 : Int32)), (3, .int a2), (0, .ref (sw_ad g 14)), (1, .int a1), (2, .int a2)]) hx hb dX4_readCommand_3 hl (Nat.le_of_ble_eq_true rfl) rfl (fun ls hl => ?_)
  obtain ⟨n5, h⟩ := h
  refine sw_lp_iiM (hd := 5) (Lf := fun x3_5 x4_5 M_5 => [(0, .ref (sw_ad g 14)), (1, .int a1), (2, .int a2), (3, .int x3_5), (4, .int x4_5)]) h hW (lv_sub hl [2, 3, 4, 1, 0] rfl) (fun _ _ _ h => h) (fun n5 ih5 x3_5 x4_5 M_5 H locs ls h hW hl => ?_)
  rw [lX4_readCommand_5.eq_2] at h
  refine lv_iload hx hb dX4_readCommand_5 (lv_at hl 4 rfl) ?_
  refine lv_bipush (v := 10) hx hb dX4_readCommand_7 (by decide) ?_
  refine lv_icmp_ge (tgt := 57) hx hb dX4_readCommand_9 (by decide) (fun k3 => ?_) (fun k3 => ?_)
  · have h := h.1 k3
    refine lv_iload_n hx hb dX4_readCommand_57 rfl (lv_at hl 3 rfl) ?_
    refine sw_ki (rest := []) (sw_runS (As := [.int x3_5]) (rest := []) hx hb hml hown hts (kX4_errorAt l g x3_5 M_5 _ h) cs_X4_errorAt q_1122 rfl rfl ⟨(Nat.le_of_ble_eq_true rfl), (Nat.le_of_ble_eq_true rfl)⟩ hW rfl hl.1 rfl (Nat.le_of_ble_eq_true rfl) dX4_readCommand_58 ⟨(Nat.le_of_ble_eq_true rfl), (Nat.le_of_ble_eq_true rfl)⟩) hW (fun r4 M5 H locs h hW => ?_)
    obtain ⟨h, eM5⟩ := h
    rw [eM5] at hW
    exact sw_ri hx hb hr hlocks hW rfl h dX4_readCommand_61
  · have h := h.2 k3
    refine lv_aload_n hx hb dX4_readCommand_12 rfl (lv_at hl 0 rfl) ?_
    refine lv_iload hx hb dX4_readCommand_13 (lv_at hl 4 rfl) ?_
    refine sw_kq (rest := [.ref (sw_ad g 14)]) (sw_runS (As := [.int x4_5]) (rest := [.ref (sw_ad g 14)]) hx hb hml hown hts (kX4_shapeOf l g x4_5 M_5 _ h) cs_X4_shapeOf q_1108 rfl rfl ⟨(Nat.le_of_ble_eq_true rfl), (Nat.le_of_ble_eq_true rfl)⟩ hW rfl hl.1 rfl (Nat.le_of_ble_eq_true rfl) dX4_readCommand_15 ⟨(Nat.le_of_ble_eq_true rfl), (Nat.le_of_ble_eq_true rfl)⟩) hW (fun r6 hr6 M16 H locs h hW => ?_)
    obtain ⟨h, eM16⟩ := h
    rw [eM16] at hW
    refine lv_iload_n hx hb dX4_readCommand_18 rfl (lv_at hl 1 rfl) ?_
    refine lv_iload_n hx hb dX4_readCommand_19 rfl (lv_at hl 2 rfl) ?_
    refine sw_ki (rest := []) (sw_runV (As := [.ref (sw_sk g r6), .int a1, .int a2]) (rest := []) hx hb hml hown hts (kX4_match l g r6 hr6 a1 a2 M_5 _ h) cv_X4_match q_1111 rfl rfl ⟨(Nat.le_of_ble_eq_true rfl), (Nat.le_of_ble_eq_true rfl)⟩ hW (Or.inl (Nat.le_of_ble_eq_true rfl)) sl_14 rfl rfl hl.1 rfl (Nat.le_of_ble_eq_true rfl) dX4_readCommand_20 ⟨(Nat.le_of_ble_eq_true rfl), (Nat.le_of_ble_eq_true rfl)⟩) hW (fun r7 M8 H locs h hW => ?_)
    refine lv_istore (lv' := [(5, .int r7), (0, .ref (sw_ad g 14)), (1, .int a1), (2, .int a2), (3, .int x3_5), (4, .int x4_5)]) hx hb dX4_readCommand_23 hl (Nat.le_of_ble_eq_true rfl) rfl (fun ls hl => ?_)
    refine lv_iload hx hb dX4_readCommand_25 (lv_at hl 0 rfl) ?_
    refine lv_if_lt (tgt := 41) hx hb dX4_readCommand_27 (by decide) (fun k9 => ?_) (fun k9 => ?_)
    · have h := h.1 k9
      refine lv_iload_n hx hb dX4_readCommand_41 rfl (lv_at hl 4 rfl) ?_
      refine lv_iload hx hb dX4_readCommand_42 (lv_at hl 0 rfl) ?_
      refine sw_ki (rest := [.int x3_5]) (sw_runS (As := [.int r7]) (rest := [.int x3_5]) hx hb hml hown hts (kX4_errorOf l g r7 M8 _ h) cs_X4_errorOf q_1128 rfl rfl ⟨(Nat.le_of_ble_eq_true rfl), (Nat.le_of_ble_eq_true rfl)⟩ hW rfl hl.1 rfl (Nat.le_of_ble_eq_true rfl) dX4_readCommand_44 ⟨(Nat.le_of_ble_eq_true rfl), (Nat.le_of_ble_eq_true rfl)⟩) hW (fun r10 M13 H locs h hW => ?_)
      obtain ⟨h, eM13⟩ := h
      rw [eM13] at hW
      refine va_mmax hx hb (hml.trans hl.1.symm) hown (sw_w hts q_1131) (sw_w hts q_443) (sw_w hts q_17) (sw_w hts q_444) (Nat.le_of_ble_eq_true rfl) (Nat.le_of_ble_eq_true rfl) (Nat.le_of_ble_eq_true rfl) (Nat.le_of_ble_eq_true rfl) dX4_readCommand_47 ?_
      refine lv_topi (fun v11 ev11 => ?_)
      have h := h v11 ev11
      refine lv_istore_n (lv' := [(3, .int v11), (5, .int r7), (0, .ref (sw_ad g 14)), (1, .int a1), (2, .int a2), (4, .int x4_5)]) hx hb dX4_readCommand_50 rfl hl (Nat.le_of_ble_eq_true rfl) rfl (fun ls hl => ?_)
      obtain ⟨v12, ev12⟩ : ∃ z : Int32, z = x4_5 + (1 : Int32) := ⟨_, rfl⟩
      have h := h v12 ev12
      refine lv_iinc (v := v12) (lv' := [(4, .int v12), (3, .int v11), (5, .int r7), (0, .ref (sw_ad g 14)), (1, .int a1), (2, .int a2)]) hx hb dX4_readCommand_51 hl (k := 5) rfl (by rw [ev12]; rfl) (Nat.le_of_ble_eq_true rfl) rfl (fun ls hl => ?_)
      refine lv_goto (tgt := 5) hx hb dX4_readCommand_54 (by decide) ?_
      exact ih5 _ _ _ _ _ _ h hW (lv_sub hl [3, 4, 5, 1, 0] rfl)
    · have h := h.2 k9
      refine lv_aload_n hx hb dX4_readCommand_30 rfl (lv_at hl 1 rfl) ?_
      refine sw_gr (j := 3) (r := 16) hx hb hts hown hW rfl qf_4 (Or.inl (Nat.le_of_ble_eq_true rfl)) sl_14 rfl (Nat.le_of_ble_eq_true rfl) q_137 dX4_readCommand_31 ?_
      refine lv_iload_n hx hb dX4_readCommand_34 rfl (lv_at hl 2 rfl) ?_
      refine lv_iload hx hb dX4_readCommand_35 (lv_at hl 5 rfl) ?_
      have b14 := h.1
      have h := h.2
      refine sw_is (n := 13) hx hb hW (Or.inl (Nat.le_of_ble_eq_true rfl)) sl_16 b14 dX4_readCommand_37 (fun H locs hW => ?_)
      obtain ⟨M15, eM15⟩ : ∃ z : sM, z = sw_ms M8 16 (a1).toNatClampNeg x4_5 := ⟨_, rfl⟩
      rw [← eM15] at hW
      have h := h M15 eM15
      refine lv_iload hx hb dX4_readCommand_38 (lv_at hl 0 rfl) ?_
      exact sw_ri hx hb hr hlocks hW rfl h dX4_readCommand_40

def lX4_parse_9 (Q : Int32 → sM → Prop) (K9 : Int32 → sM → Prop) : Nat → Int32 → Int32 → sM → Prop
  | 0, _, _, _ => False
  | n9 + 1, x1_9, x2_9, M_9 => ((13 : Int32) ≤ x2_9 → (K9 x1_9 M_9)) ∧ (¬ (13 : Int32) ≤ x2_9 → (wX4_readCommand x2_9 x1_9 M_9 (fun r3 M4 => (0 ≤ r3 → (∀ M6 : sM, M6 = sw_ms M4 14 2 (x2_9 + (1 : Int32)) → ((r3 < (M6 14 1) → (vp_in r3 60 ∧ (((M6 15 (r3).toNatClampNeg) = (59 : Int32) → (∀ v10 : Int32, v10 = (r3 + (1 : Int32)) → (∀ v11 : Int32, v11 = x2_9 + (1 : Int32) → ((fun x1_9 x2_9 M_9 => lX4_parse_9 Q K9 n9 x1_9 x2_9 M_9) v10 v11 M6)))) ∧ (¬ (M6 15 (r3).toNatClampNeg) = (59 : Int32) → (Q r3 M6))))) ∧ (¬ r3 < (M6 14 1) → (Q (-1 : Int32) M6))))) ∧ (¬ 0 ≤ r3 → (wX4_errorOf r3 (fun r12 => Q r12 M4))))))
theorem cv_X4_parse : sw_cV yX4_parse RX4 cX4_parse 4 (some .int) 0 := ⟨q_1102, q_1103, q_7, q_1104, by decide +kernel⟩
def wX4_parse  (M : sM) (Q : Int32 → sM → Prop) : Prop :=
  ∀ M1 : sM, M1 = sw_ms M 14 2 (0 : Int32) → (∃ n9, lX4_parse_9 Q (fun x1_9k M_9k => Q x1_9k M_9k) n9 (0 : Int32) (0 : Int32) M1)
set_option maxRecDepth 20000 in
theorem kX4_parse (l : Launch) (g : sG)  (M : sM) (Q : Int32 → sM → Prop) (h : wX4_parse  M Q) : Met l yX4_parse (sw_ws yX4_parse cX4_parse 4 (some .int)) { frames := 6, cells := 0, slots := 0, locals := 154 } (va_Pc [.ref (sw_ad g 14)] (sw_Pr g M)) (va_Qi Q (sw_Po g) (sw_A g)) 0 0 (sw_A g) := by
  refine sw_met (by decide) (Nat.le_of_ble_eq_true rfl) ?_
  intro p e s m args below meth c ls hx hb hr hts hown hml hlocks hW hl
  have hown : s.vm.findClass RX4 = some m.cls := hown
  have hl : lv_has ls 4 [(0, .ref (sw_ad g 14))] := hl
  unfold wX4_parse at h
  refine lv_iconst (v := 0) hx hb dX4_parse_0 (by decide) ?_
  refine lv_istore_n (lv' := [(1, .int (0 : Int32)), (0, .ref (sw_ad g 14))]) hx hb dX4_parse_1 rfl hl (Nat.le_of_ble_eq_true rfl) rfl (fun ls hl => ?_)
  refine lv_aload_n hx hb dX4_parse_2 rfl (lv_at hl 1 rfl) ?_
  refine lv_iconst (v := 0) hx hb dX4_parse_3 (by decide) ?_
  refine sw_pi (j := 2) hx hb hts hown hW rfl qf_4 tyX4 tyX4_ok nmX4 (Or.inl (Nat.le_of_ble_eq_true rfl)) sl_14 rfl (Nat.le_of_ble_eq_true rfl) q_135 rfl rfl rfl dX4_parse_4 (fun H locs hW => ?_)
  obtain ⟨M1, eM1⟩ : ∃ z : sM, z = sw_ms M 14 2 (0 : Int32) := ⟨_, rfl⟩
  rw [← eM1] at hW
  have h := h M1 eM1
  refine lv_iconst (v := 0) hx hb dX4_parse_7 (by decide) ?_
  refine lv_istore_n (lv' := [(2, .int (0 : Int32)), (1, .int (0 : Int32)), (0, .ref (sw_ad g 14))]) hx hb dX4_parse_8 rfl hl (Nat.le_of_ble_eq_true rfl) rfl (fun ls hl => ?_)
  obtain ⟨n9, h⟩ := h
  refine sw_lp_iiM (hd := 9) (Lf := fun x1_9 x2_9 M_9 => [(0, .ref (sw_ad g 14)), (1, .int x1_9), (2, .int x2_9)]) h hW (lv_sub hl [2, 1, 0] rfl) (fun _ _ _ h => h) (fun n9 ih9 x1_9 x2_9 M_9 H locs ls h hW hl => ?_)
  rw [lX4_parse_9.eq_2] at h
  refine lv_iload_n hx hb dX4_parse_9 rfl (lv_at hl 2 rfl) ?_
  refine lv_bipush (v := 13) hx hb dX4_parse_10 (by decide) ?_
  refine lv_icmp_ge (tgt := 71) hx hb dX4_parse_12 (by decide) (fun k2 => ?_) (fun k2 => ?_)
  · have h := h.1 k2
    refine lv_iload_n hx hb dX4_parse_71 rfl (lv_at hl 1 rfl) ?_
    exact sw_ri hx hb hr hlocks hW rfl h dX4_parse_72
  · have h := h.2 k2
    refine lv_aload_n hx hb dX4_parse_15 rfl (lv_at hl 0 rfl) ?_
    refine lv_iload_n hx hb dX4_parse_16 rfl (lv_at hl 2 rfl) ?_
    refine lv_iload_n hx hb dX4_parse_17 rfl (lv_at hl 1 rfl) ?_
    refine sw_ki (rest := []) (sw_runV (As := [.int x2_9, .int x1_9]) (rest := []) hx hb hml hown hts (kX4_readCommand l g x2_9 x1_9 M_9 _ h) cv_X4_readCommand q_1105 rfl rfl ⟨(Nat.le_of_ble_eq_true rfl), (Nat.le_of_ble_eq_true rfl)⟩ hW (Or.inl (Nat.le_of_ble_eq_true rfl)) sl_14 rfl rfl hl.1 rfl (Nat.le_of_ble_eq_true rfl) dX4_parse_18 ⟨(Nat.le_of_ble_eq_true rfl), (Nat.le_of_ble_eq_true rfl)⟩) hW (fun r3 M4 H locs h hW => ?_)
    refine lv_istore_n (lv' := [(3, .int r3), (0, .ref (sw_ad g 14)), (1, .int x1_9), (2, .int x2_9)]) hx hb dX4_parse_21 rfl hl (Nat.le_of_ble_eq_true rfl) rfl (fun ls hl => ?_)
    refine lv_iload_n hx hb dX4_parse_22 rfl (lv_at hl 0 rfl) ?_
    refine lv_if_ge (tgt := 31) hx hb dX4_parse_23 (by decide) (fun k5 => ?_) (fun k5 => ?_)
    · have h := h.1 k5
      refine lv_aload_n hx hb dX4_parse_31 rfl (lv_at hl 1 rfl) ?_
      refine lv_iload_n hx hb dX4_parse_32 rfl (lv_at hl 3 rfl) ?_
      refine lv_iconst (v := 1) hx hb dX4_parse_33 (by decide) ?_
      refine lv_iadd hx hb dX4_parse_34 ?_
      refine sw_pi (j := 2) hx hb hts hown hW rfl qf_4 tyX4 tyX4_ok nmX4 (Or.inl (Nat.le_of_ble_eq_true rfl)) sl_14 rfl (Nat.le_of_ble_eq_true rfl) q_135 rfl rfl rfl dX4_parse_35 (fun H locs hW => ?_)
      obtain ⟨M6, eM6⟩ : ∃ z : sM, z = sw_ms M4 14 2 (x2_9 + (1 : Int32)) := ⟨_, rfl⟩
      rw [← eM6] at hW
      have h := h M6 eM6
      refine lv_iload_n hx hb dX4_parse_38 rfl (lv_at hl 0 rfl) ?_
      refine lv_aload_n hx hb dX4_parse_39 rfl (lv_at hl 1 rfl) ?_
      refine sw_gi (j := 1) hx hb hts hown hW rfl qf_4 (Or.inl (Nat.le_of_ble_eq_true rfl)) sl_14 rfl (Nat.le_of_ble_eq_true rfl) q_133 dX4_parse_40 ?_
      refine lv_icmp_lt (tgt := 48) hx hb dX4_parse_43 (by decide) (fun k7 => ?_) (fun k7 => ?_)
      · have h := h.1 k7
        refine lv_aload_n hx hb dX4_parse_48 rfl (lv_at hl 1 rfl) ?_
        refine sw_gr (j := 0) (r := 15) hx hb hts hown hW rfl qf_4 (Or.inl (Nat.le_of_ble_eq_true rfl)) sl_14 rfl (Nat.le_of_ble_eq_true rfl) q_132 dX4_parse_49 ?_
        refine lv_iload_n hx hb dX4_parse_52 rfl (lv_at hl 0 rfl) ?_
        have b8 := h.1
        have h := h.2
        refine sw_ca (n := 60) hx hb hW (Or.inl (Nat.le_of_ble_eq_true rfl)) sl_15 b8 dX4_parse_53 ?_
        refine lv_bipush (v := 59) hx hb dX4_parse_54 (by decide) ?_
        refine lv_icmp_eq (tgt := 61) hx hb dX4_parse_56 (by decide) (fun k9 => ?_) (fun k9 => ?_)
        · have h := h.1 k9
          refine lv_iload_n hx hb dX4_parse_61 rfl (lv_at hl 0 rfl) ?_
          refine lv_iconst (v := 1) hx hb dX4_parse_62 (by decide) ?_
          refine lv_iadd hx hb dX4_parse_63 ?_
          refine lv_topi (fun v10 ev10 => ?_)
          have h := h v10 ev10
          refine lv_istore_n (lv' := [(1, .int v10), (3, .int r3), (0, .ref (sw_ad g 14)), (2, .int x2_9)]) hx hb dX4_parse_64 rfl hl (Nat.le_of_ble_eq_true rfl) rfl (fun ls hl => ?_)
          obtain ⟨v11, ev11⟩ : ∃ z : Int32, z = x2_9 + (1 : Int32) := ⟨_, rfl⟩
          have h := h v11 ev11
          refine lv_iinc (v := v11) (lv' := [(2, .int v11), (1, .int v10), (3, .int r3), (0, .ref (sw_ad g 14))]) hx hb dX4_parse_65 hl (k := 3) rfl (by rw [ev11]; rfl) (Nat.le_of_ble_eq_true rfl) rfl (fun ls hl => ?_)
          refine lv_goto (tgt := 9) hx hb dX4_parse_68 (by decide) ?_
          exact ih9 _ _ _ _ _ _ h hW (lv_sub hl [3, 1, 0] rfl)
        · have h := h.2 k9
          refine lv_iload_n hx hb dX4_parse_59 rfl (lv_at hl 0 rfl) ?_
          exact sw_ri hx hb hr hlocks hW rfl h dX4_parse_60
      · have h := h.2 k7
        refine lv_iconst (v := -1) hx hb dX4_parse_46 (by decide) ?_
        exact sw_ri hx hb hr hlocks hW rfl h dX4_parse_47
    · have h := h.2 k5
      refine lv_iload_n hx hb dX4_parse_26 rfl (lv_at hl 0 rfl) ?_
      refine sw_ki (rest := []) (sw_runS (As := [.int r3]) (rest := []) hx hb hml hown hts (kX4_errorOf l g r3 M4 _ h) cs_X4_errorOf q_1128 rfl rfl ⟨(Nat.le_of_ble_eq_true rfl), (Nat.le_of_ble_eq_true rfl)⟩ hW rfl hl.1 rfl (Nat.le_of_ble_eq_true rfl) dX4_parse_27 ⟨(Nat.le_of_ble_eq_true rfl), (Nat.le_of_ble_eq_true rfl)⟩) hW (fun r12 M13 H locs h hW => ?_)
      obtain ⟨h, eM13⟩ := h
      rw [eM13] at hW
      exact sw_ri hx hb hr hlocks hW rfl h dX4_parse_30
