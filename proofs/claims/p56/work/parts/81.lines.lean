/-! The law's check of lines. -/
theorem cw_J4_append_15ec4 : sw_cV yJ4_append_15ec4 RJ4 cJ4_append_15ec4 2 (some (.object "java/lang/StringBuilder")) 1 := ⟨q_795, q_796, q_24, q_797, by decide +kernel⟩
theorem cw_J4_append_cf468 : sw_cV yJ4_append_cf468 RJ4 cJ4_append_cf468 2 (some (.object "java/lang/StringBuilder")) 1 := ⟨q_898, q_899, q_24, q_900, by decide +kernel⟩
theorem cw_J4_append_bf812 : sw_cV yJ4_append_bf812 RJ4 cJ4_append_bf812 2 (some (.object "java/lang/StringBuilder")) 1 := ⟨q_920, q_921, q_24, q_922, by decide +kernel⟩
theorem cw_J4_toString_0e30d : sw_cV yJ4_toString_0e30d RJ4 cJ4_toString_0e30d 1 (some (.object "java/lang/String")) 0 := ⟨q_943, q_944, q_24, q_945, by decide +kernel⟩
def lL_lines_213 (x1_2 : Int32) (z_2 : zG) (K213 : List Nat → Prop) : Nat → List Nat → Int32 → Prop
  | 0, _, _ => False
  | n213 + 1, t2_213, x3_213 => ((nI (z_2.1 3)) < x3_213 → (K213 t2_213)) ∧ (¬ (nI (z_2.1 3)) < x3_213 → (ztx ([] ++ t2_213) ∧ ((s_doorOf z_2 x3_213).1 = 0 ∧ (((nI (s_doorOf z_2 x3_213).2.1) = x1_2 → ((s_isRevoked z_2 x3_213).1 = 0 ∧ (((nI (s_isRevoked z_2 x3_213).2.1) = 0 → (ztx (([] ++ t2_213) ++ (zsb 14)) ∧ (ztx (([] ++ t2_213) ++ zsb 14) ∧ (∀ v87 : Int32, v87 = x3_213 + (1 : Int32) → ((fun t2_213 x3_213 => lL_lines_213 x1_2 z_2 K213 n213 t2_213 x3_213) (([] ++ t2_213) ++ zsb 14) v87))))) ∧ (¬ (nI (s_isRevoked z_2 x3_213).2.1) = 0 → (ztx (([] ++ t2_213) ++ (zsb 10)) ∧ (ztx (([] ++ t2_213) ++ zsb 10) ∧ (∀ v81 : Int32, v81 = x3_213 + (1 : Int32) → ((fun t2_213 x3_213 => lL_lines_213 x1_2 z_2 K213 n213 t2_213 x3_213) (([] ++ t2_213) ++ zsb 10) v81)))))))) ∧ (¬ (nI (s_doorOf z_2 x3_213).2.1) = x1_2 → (ztx (([] ++ t2_213) ++ (zsb 10)) ∧ (ztx (([] ++ t2_213) ++ zsb 10) ∧ (∀ v73 : Int32, v73 = x3_213 + (1 : Int32) → ((fun t2_213 x3_213 => lL_lines_213 x1_2 z_2 K213 n213 t2_213 x3_213) (([] ++ t2_213) ++ zsb 10) v73)))))))))
def jL_lines_211 (x1_2 : Int32) (z_2 : zG) (Q : Int32 → zG → Prop) (N2 : Int32 → zG → Prop) (t2_211 : List Nat) : Prop :=
  lL_lines_213 x1_2 z_2 (fun t2_213k => ∀ zp51 : zG, zp51 = (s_writeDoor z_2 x1_2).2.2 → (ztx t2_213k ∧ (wL_spells ((zv (s_writeDoor z_2 x1_2) [(-11)])) t2_213k  zp51 (fun r52 => (r52 = 0 → (Q (0 : Int32) zp51)) ∧ (¬ r52 = 0 → (∀ v54 : Int32, v54 = x1_2 + (1 : Int32) → (N2 v54 zp51))))))) 9 t2_211 (1 : Int32)
def lL_lines_45 (x1_2 : Int32) (z_2 : zG) (K45 : List Nat → Prop) : Nat → List Nat → Int32 → Prop
  | 0, _, _ => False
  | n45 + 1, t2_45, x3_45 => ((nI (z_2.1 1)) ≤ x3_45 → (K45 t2_45)) ∧ (¬ (nI (z_2.1 1)) ≤ x3_45 → (∀ v119 : Int32, v119 = (zv (s_gradeBy z_2 x3_45 x1_2) [(-11), (-13)]) → (ztx ([] ++ t2_45) ∧ ((s_isAssigned z_2 x3_45 x1_2).1 = 0 ∧ (((nI (s_isAssigned z_2 x3_45 x1_2).2.1) = 0 → (ztx (([] ++ t2_45) ++ (zsb 10)) ∧ ((v119 < 0 → (ztx ((([] ++ t2_45) ++ zsb 10) ++ (zsb 10)) ∧ (ztx ((([] ++ t2_45) ++ zsb 10) ++ zsb 10) ∧ (∀ v137 : Int32, v137 = x3_45 + (1 : Int32) → ((fun t2_45 x3_45 => lL_lines_45 x1_2 z_2 K45 n45 t2_45 x3_45) ((([] ++ t2_45) ++ zsb 10) ++ zsb 10) v137))))) ∧ (¬ v119 < 0 → (ztx ([] ++ (zsb 12)) ∧ (∃ n147 : Nat, (n147 < 100 ∧ v119 = nI n147 ∧ ztx (([] ++ zsb 12) ++ zdec n147)) ∧ (ztx (([] ++ zsb 12) ++ zdec n147) ∧ (ztx ((([] ++ t2_45) ++ zsb 10) ++ (([] ++ zsb 12) ++ zdec n147)) ∧ (ztx ((([] ++ t2_45) ++ zsb 10) ++ (([] ++ zsb 12) ++ zdec n147)) ∧ (∀ v155 : Int32, v155 = x3_45 + (1 : Int32) → ((fun t2_45 x3_45 => lL_lines_45 x1_2 z_2 K45 n45 t2_45 x3_45) ((([] ++ t2_45) ++ zsb 10) ++ (([] ++ zsb 12) ++ zdec n147)) v155))))))))))) ∧ (¬ (nI (s_isAssigned z_2 x3_45 x1_2).2.1) = 0 → (ztx ([] ++ (zsb 11)) ∧ (∃ n165 : Nat, (n165 < 100 ∧ x3_45 = nI n165 ∧ ztx (([] ++ zsb 11) ++ zdec n165)) ∧ (ztx (([] ++ zsb 11) ++ zdec n165) ∧ (ztx (([] ++ t2_45) ++ (([] ++ zsb 11) ++ zdec n165)) ∧ ((v119 < 0 → (ztx ((([] ++ t2_45) ++ (([] ++ zsb 11) ++ zdec n165)) ++ (zsb 10)) ∧ (ztx ((([] ++ t2_45) ++ (([] ++ zsb 11) ++ zdec n165)) ++ zsb 10) ∧ (∀ v177 : Int32, v177 = x3_45 + (1 : Int32) → ((fun t2_45 x3_45 => lL_lines_45 x1_2 z_2 K45 n45 t2_45 x3_45) ((([] ++ t2_45) ++ (([] ++ zsb 11) ++ zdec n165)) ++ zsb 10) v177))))) ∧ (¬ v119 < 0 → (ztx ([] ++ (zsb 12)) ∧ (∃ n187 : Nat, (n187 < 100 ∧ v119 = nI n187 ∧ ztx (([] ++ zsb 12) ++ zdec n187)) ∧ (ztx (([] ++ zsb 12) ++ zdec n187) ∧ (ztx ((([] ++ t2_45) ++ (([] ++ zsb 11) ++ zdec n165)) ++ (([] ++ zsb 12) ++ zdec n187)) ∧ (ztx ((([] ++ t2_45) ++ (([] ++ zsb 11) ++ zdec n165)) ++ (([] ++ zsb 12) ++ zdec n187)) ∧ (∀ v195 : Int32, v195 = x3_45 + (1 : Int32) → ((fun t2_45 x3_45 => lL_lines_45 x1_2 z_2 K45 n45 t2_45 x3_45) ((([] ++ t2_45) ++ (([] ++ zsb 11) ++ zdec n165)) ++ (([] ++ zsb 12) ++ zdec n187)) v195)))))))))))))))))))
def lL_lines_2 (Q : Int32 → zG → Prop) (K2 : zG → Prop) : Nat → Int32 → zG → Prop
  | 0, _, _ => False
  | n2 + 1, x1_2, z_2 => ((nI (z_2.1 0)) ≤ x1_2 → (K2 z_2)) ∧ (¬ (nI (z_2.1 0)) ≤ x1_2 → (ztx ([] ++ (zsb 10)) ∧ ((s_frameOfDoor z_2 x1_2).1 = 0 ∧ (∃ n24 : Nat, (n24 < 128 ∧ (nI (s_frameOfDoor z_2 x1_2).2.1) = nI n24 ∧ ztx (([] ++ zsb 10) ++ [n24])) ∧ ((s_topic z_2 x1_2).1 = 0 ∧ (∃ n29 : Nat, (n29 < 100 ∧ (nI (s_topic z_2 x1_2).2.1) = nI n29 ∧ ztx ((([] ++ zsb 10) ++ [n24]) ++ zdec n29)) ∧ (ztx ((([] ++ zsb 10) ++ [n24]) ++ zdec n29) ∧ (lL_lines_45 x1_2 z_2 (fun t2_45k => ztx ([] ++ t2_45k) ∧ (wL_median x1_2  z_2 (fun r42 => (r42 < 0 → (ztx (([] ++ t2_45k) ++ (zsb 10)) ∧ (ztx (([] ++ t2_45k) ++ zsb 10) ∧ (jL_lines_211 x1_2 z_2 Q (fun x1_2 z_2 => lL_lines_2 Q K2 n2 x1_2 z_2) (([] ++ t2_45k) ++ zsb 10))))) ∧ (¬ r42 < 0 → (ztx ([] ++ (zsb 13)) ∧ (wL_median x1_2  z_2 (fun r102 => ∃ n106 : Nat, (n106 < 100 ∧ r102 = nI n106 ∧ ztx (([] ++ zsb 13) ++ zdec n106)) ∧ (ztx (([] ++ zsb 13) ++ zdec n106) ∧ (ztx (([] ++ t2_45k) ++ (([] ++ zsb 13) ++ zdec n106)) ∧ (ztx (([] ++ t2_45k) ++ (([] ++ zsb 13) ++ zdec n106)) ∧ (jL_lines_211 x1_2 z_2 Q (fun x1_2 z_2 => lL_lines_2 Q K2 n2 x1_2 z_2) (([] ++ t2_45k) ++ (([] ++ zsb 13) ++ zdec n106))))))))))))) 7 ((([] ++ zsb 10) ++ [n24]) ++ zdec n29) (0 : Int32)))))))))
def wL_lines  (z : zG) (Q : Int32 → zG → Prop) : Prop :=
  lL_lines_2 Q (fun z_2k => ∀ zp3 : zG, zp3 = (s_writeDoor z_2k ((nI (z_2k.1 0)))).2.2 → (((zv (s_writeDoor z_2k ((nI (z_2k.1 0)))) [(-11)]) = (-11 : Int32) → (∀ zp5 : zG, zp5 = (s_writeDoor zp3 ((-1 : Int32))).2.2 → (((zv (s_writeDoor zp3 ((-1 : Int32))) [(-11)]) = (-11 : Int32) → (∀ zp7 : zG, zp7 = (s_writeExaminer zp5 ((nI (zp5.1 1)))).2.2 → (((zv (s_writeExaminer zp5 ((nI (zp5.1 1)))) [(-11)]) = (-11 : Int32) → (Q (1 : Int32) zp7)) ∧ (¬ (zv (s_writeExaminer zp5 ((nI (zp5.1 1)))) [(-11)]) = (-11 : Int32) → (Q (0 : Int32) zp7))))) ∧ (¬ (zv (s_writeDoor zp3 ((-1 : Int32))) [(-11)]) = (-11 : Int32) → (Q (0 : Int32) zp5))))) ∧ (¬ (zv (s_writeDoor z_2k ((nI (z_2k.1 0)))) [(-11)]) = (-11 : Int32) → (Q (0 : Int32) zp3)))) 9 (0 : Int32) z
theorem cs_L_lines : sw_cS yL_lines cL_lines 5 (some .boolean) 1 := ⟨q_771, q_1, q_772, by decide +kernel⟩
set_option maxRecDepth 20000 in
set_option maxHeartbeats 4000000 in
theorem kL_lines (l : Launch) (hst : l.stackTraces = false) (g : sG)  (z : zG) (Q : Int32 → zG → Prop) (h : wL_lines  z Q) : Met l yL_lines (sw_ws yL_lines cL_lines 5 (some .boolean)) { frames := 11, cells := 3351, slots := 120420, locals := 240 } (va_Pc [.ref (sw_ad g 0)] (zl_Pr g z)) (va_Qi Q (zl_Po g) (sw_A g)) 3351 120420 (sw_A g) := by
  refine zl_met (by decide) (Nat.le_of_ble_eq_true rfl) ?_
  intro p e s m args below meth c ls hx hb hr hts hown hml hlocks hW hl
  have hown : s.vm.findClass RL = some m.cls := hown
  have hl : lv_has ls 5 [(0, .ref (sw_ad g 0))] := hl
  obtain ⟨R, hRe⟩ : ∃ R : Room, R = { frames := 11, cells := 3351, slots := 120420, locals := 240 } := ⟨_, rfl⟩
  rw [← hRe]
  have hRf : R.frames = 11 := by rw [hRe]
  have hRc : R.cells = 3351 := by rw [hRe]
  have hRs : R.slots = 120420 := by rw [hRe]
  have hRl : R.locals = 240 := by rw [hRe]
  clear hRe
  have gc0 : 0 + 3351 ≤ R.cells := by rw [hRc]; exact (Nat.le_of_ble_eq_true rfl)
  have gs0 : 0 + 120420 ≤ R.slots := by rw [hRs]; exact (Nat.le_of_ble_eq_true rfl)
  obtain ⟨Q0, hQ0⟩ : ∃ Q0 : State → Prop, Q0 = MQ below (va_Qi Q (zl_Po g) (sw_A g)) args s 3351 120420 (sw_A g) := ⟨_, rfl⟩
  rw [← hQ0]
  generalize hHs : s.heap = H at hW ⊢
  generalize hLo : ([] : List Loc) = locs at hW ⊢
  unfold wL_lines at h
  refine lv_iconst (v := 0) hx hb dL_lines_0 (by decide) ?_
  refine lv_istore_n (lv' := [(1, .int (0 : Int32)), (0, .ref (sw_ad g 0))]) hx hb dL_lines_1 rfl hl (Nat.le_of_ble_eq_true rfl) rfl (fun ls hl => ?_)
  obtain ⟨CL2, hCL2⟩ : ∃ n : Nat, n = 0 + 3348 := ⟨_, rfl⟩
  obtain ⟨SL2, hSL2⟩ : ∃ n : Nat, n = 0 + 120402 := ⟨_, rfl⟩
  have hX2 : ∀ (z_2k : zG)  (H : Heap) (locs : List Loc) (ls : Array Slot) (cx2 sx2 : Nat), (∀ zp3 : zG, zp3 = (s_writeDoor z_2k ((nI (z_2k.1 0)))).2.2 → (((zv (s_writeDoor z_2k ((nI (z_2k.1 0)))) [(-11)]) = (-11 : Int32) → (∀ zp5 : zG, zp5 = (s_writeDoor zp3 ((-1 : Int32))).2.2 → (((zv (s_writeDoor zp3 ((-1 : Int32))) [(-11)]) = (-11 : Int32) → (∀ zp7 : zG, zp7 = (s_writeExaminer zp5 ((nI (zp5.1 1)))).2.2 → (((zv (s_writeExaminer zp5 ((nI (zp5.1 1)))) [(-11)]) = (-11 : Int32) → (Q (1 : Int32) zp7)) ∧ (¬ (zv (s_writeExaminer zp5 ((nI (zp5.1 1)))) [(-11)]) = (-11 : Int32) → (Q (0 : Int32) zp7))))) ∧ (¬ (zv (s_writeDoor zp3 ((-1 : Int32))) [(-11)]) = (-11 : Int32) → (Q (0 : Int32) zp5))))) ∧ (¬ (zv (s_writeDoor z_2k ((nI (z_2k.1 0)))) [(-11)]) = (-11 : Int32) → (Q (0 : Int32) zp3)))) → cx2 ≤ CL2 → sx2 ≤ SL2 → zl_Wd g [] z_2k s H locs → lv_has ls 5 [(0, .ref (sw_ad g 0))] → W p l e R s m args below meth c H locs cx2 sx2 Q0 (F0 m 292 ls []) := by
    intro z_2k  H locs ls cx2 sx2 h hcx2 hsx2 hW hl
    have g1 : cx2 + 3 ≤ R.cells := zc8 (x := 0) (D := 3348) (s := 3351) (s' := 3) hcx2 hCL2 gc0 (Nat.le_of_ble_eq_true rfl)
    have g2 : sx2 + 18 ≤ R.slots := zc8 (x := 0) (D := 120402) (s := 120420) (s' := 18) hsx2 hSL2 gs0 (Nat.le_of_ble_eq_true rfl)
    refine lv_aload_n hx hb dL_lines_292 rfl (lv_at hl 0 rfl) ?_
    refine lv_aload_n hx hb dL_lines_293 rfl (lv_at hl 0 rfl) ?_
    refine zl_ki (g := g) (rest := [.ref (sw_ad g 0)]) (zl_runV (g := g) (As := []) (rest := [.ref (sw_ad g 0)]) hx hb hml hown hts (zD_doorCount l (zl_re g H.size) z_2k) cv_X6_doorCount q_487 rfl rfl ⟨by rw [hRf]; exact (Nat.le_of_ble_eq_true rfl), by rw [hRl]; exact (Nat.le_of_ble_eq_true rfl)⟩ hW (Or.inl (Nat.le_of_ble_eq_true rfl)) sl_0 rfl rfl hl.1 rfl (Nat.le_of_ble_eq_true rfl) dL_lines_294 ⟨(zc1 (D := 0) g1 (Nat.le_of_ble_eq_true rfl)), (zc1 (D := 0) g2 (Nat.le_of_ble_eq_true rfl))⟩) hW (fun r9 z9 H locs h9 hW => ?_)
    obtain ⟨rfl, e9⟩ := h9
    rw [e9] at hW
    refine zl_ki (g := g) (rest := []) (zl_runH (g := g) (As := [.ref (sw_ad g 0), .int (nI (z_2k.1 0))]) (rest := []) hx hb hml hown hts (kL_writeDoor l hst (zl_re g H.size) z_2k ((nI (z_2k.1 0)))) ch_L_writeDoor q_1000 rfl rfl ⟨by rw [hRf]; exact (Nat.le_of_ble_eq_true rfl), by rw [hRl]; exact (Nat.le_of_ble_eq_true rfl)⟩ hW rfl hl.1 rfl (Nat.le_of_ble_eq_true rfl) dL_lines_297 ⟨(zc1 (D := 1) g1 (Nat.le_of_ble_eq_true rfl)), (zc1 (D := 6) g2 (Nat.le_of_ble_eq_true rfl))⟩) hW (fun r9 z9 H locs h9 hW => ?_)
    obtain ⟨rfl, e9⟩ := h9
    replace h := h z9 e9
    obtain ⟨zp3, ezp3⟩ : ∃ z : zG, z = z9 := ⟨_, rfl⟩
    rw [← ezp3] at h hW
    refine lv_bipush (v := -11) hx hb dL_lines_300 (by decide) ?_
    refine lv_icmp_ne (tgt := 332) hx hb dL_lines_302 (by decide) (fun k4 => ?_) (fun k4 => ?_)
    · replace h := h.2 k4
      refine lv_iconst (v := 0) hx hb dL_lines_332 (by decide) ?_
      subst hQ0
      refine W.widen (k := 3351) (n := 120420) (Nat.le_trans (zc1 (D := 1) g1 (Nat.le_of_ble_eq_true rfl)) (Nat.le_of_eq hRc)) (Nat.le_trans (zc1 (D := 6) g2 (Nat.le_of_ble_eq_true rfl)) (Nat.le_of_eq hRs)) ?_
      exact zl_ri hx hb hr hlocks hW (by decide) h dL_lines_333
    · replace h := h.1 k4
      refine lv_aload_n hx hb dL_lines_305 rfl (lv_at hl 0 rfl) ?_
      refine lv_iconst (v := -1) hx hb dL_lines_306 (by decide) ?_
      refine zl_ki (g := g) (rest := []) (zl_runH (g := g) (As := [.ref (sw_ad g 0), .int (-1 : Int32)]) (rest := []) hx hb hml hown hts (kL_writeDoor l hst (zl_re g H.size) zp3 ((-1 : Int32))) ch_L_writeDoor q_1000 rfl rfl ⟨by rw [hRf]; exact (Nat.le_of_ble_eq_true rfl), by rw [hRl]; exact (Nat.le_of_ble_eq_true rfl)⟩ hW rfl hl.1 rfl (Nat.le_of_ble_eq_true rfl) dL_lines_307 ⟨(zc1 (D := 2) g1 (Nat.le_of_ble_eq_true rfl)), (zc1 (D := 12) g2 (Nat.le_of_ble_eq_true rfl))⟩) hW (fun r9 z9 H locs h9 hW => ?_)
      obtain ⟨rfl, e9⟩ := h9
      replace h := h z9 e9
      obtain ⟨zp5, ezp5⟩ : ∃ z : zG, z = z9 := ⟨_, rfl⟩
      rw [← ezp5] at h hW
      refine lv_bipush (v := -11) hx hb dL_lines_310 (by decide) ?_
      refine lv_icmp_ne (tgt := 332) hx hb dL_lines_312 (by decide) (fun k6 => ?_) (fun k6 => ?_)
      · replace h := h.2 k6
        refine lv_iconst (v := 0) hx hb dL_lines_332 (by decide) ?_
        subst hQ0
        refine W.widen (k := 3351) (n := 120420) (Nat.le_trans (zc1 (D := 2) g1 (Nat.le_of_ble_eq_true rfl)) (Nat.le_of_eq hRc)) (Nat.le_trans (zc1 (D := 12) g2 (Nat.le_of_ble_eq_true rfl)) (Nat.le_of_eq hRs)) ?_
        exact zl_ri hx hb hr hlocks hW (by decide) h dL_lines_333
      · replace h := h.1 k6
        refine lv_aload_n hx hb dL_lines_315 rfl (lv_at hl 0 rfl) ?_
        refine lv_aload_n hx hb dL_lines_316 rfl (lv_at hl 0 rfl) ?_
        refine zl_ki (g := g) (rest := [.ref (sw_ad g 0)]) (zl_runV (g := g) (As := []) (rest := [.ref (sw_ad g 0)]) hx hb hml hown hts (zD_examinerCount l (zl_re g H.size) zp5) cv_X6_examinerCount q_491 rfl rfl ⟨by rw [hRf]; exact (Nat.le_of_ble_eq_true rfl), by rw [hRl]; exact (Nat.le_of_ble_eq_true rfl)⟩ hW (Or.inl (Nat.le_of_ble_eq_true rfl)) sl_0 rfl rfl hl.1 rfl (Nat.le_of_ble_eq_true rfl) dL_lines_317 ⟨(zc1 (D := 2) g1 (Nat.le_of_ble_eq_true rfl)), (zc1 (D := 12) g2 (Nat.le_of_ble_eq_true rfl))⟩) hW (fun r9 z9 H locs h9 hW => ?_)
        obtain ⟨rfl, e9⟩ := h9
        rw [e9] at hW
        refine zl_ki (g := g) (rest := []) (zl_runH (g := g) (As := [.ref (sw_ad g 0), .int (nI (zp5.1 1))]) (rest := []) hx hb hml hown hts (kL_writeExaminer l hst (zl_re g H.size) zp5 ((nI (zp5.1 1)))) ch_L_writeExaminer q_1050 rfl rfl ⟨by rw [hRf]; exact (Nat.le_of_ble_eq_true rfl), by rw [hRl]; exact (Nat.le_of_ble_eq_true rfl)⟩ hW rfl hl.1 rfl (Nat.le_of_ble_eq_true rfl) dL_lines_320 ⟨(zc1 (D := 3) g1 (Nat.le_of_ble_eq_true rfl)), (zc1 (D := 18) g2 (Nat.le_of_ble_eq_true rfl))⟩) hW (fun r9 z9 H locs h9 hW => ?_)
        obtain ⟨rfl, e9⟩ := h9
        replace h := h z9 e9
        obtain ⟨zp7, ezp7⟩ : ∃ z : zG, z = z9 := ⟨_, rfl⟩
        rw [← ezp7] at h hW
        refine lv_bipush (v := -11) hx hb dL_lines_323 (by decide) ?_
        refine lv_icmp_ne (tgt := 332) hx hb dL_lines_325 (by decide) (fun k8 => ?_) (fun k8 => ?_)
        · replace h := h.2 k8
          refine lv_iconst (v := 0) hx hb dL_lines_332 (by decide) ?_
          subst hQ0
          refine W.widen (k := 3351) (n := 120420) (Nat.le_trans (zc1 (D := 3) g1 (Nat.le_of_ble_eq_true rfl)) (Nat.le_of_eq hRc)) (Nat.le_trans (zc1 (D := 18) g2 (Nat.le_of_ble_eq_true rfl)) (Nat.le_of_eq hRs)) ?_
          exact zl_ri hx hb hr hlocks hW (by decide) h dL_lines_333
        · replace h := h.1 k8
          refine lv_iconst (v := 1) hx hb dL_lines_328 (by decide) ?_
          refine lv_goto (tgt := 333) hx hb dL_lines_329 (by decide) ?_
          subst hQ0
          refine W.widen (k := 3351) (n := 120420) (Nat.le_trans (zc1 (D := 3) g1 (Nat.le_of_ble_eq_true rfl)) (Nat.le_of_eq hRc)) (Nat.le_trans (zc1 (D := 18) g2 (Nat.le_of_ble_eq_true rfl)) (Nat.le_of_eq hRs)) ?_
          exact zl_ri hx hb hr hlocks hW (by decide) h dL_lines_333
  have key2 : ∀ (n2 : Nat) (x1_2 : Int32) (z_2 : zG)  (H : Heap) (locs : List Loc) (ls : Array Slot) (cn2 sn2 : Nat), lL_lines_2 Q (fun z_2k => ∀ zp3 : zG, zp3 = (s_writeDoor z_2k ((nI (z_2k.1 0)))).2.2 → (((zv (s_writeDoor z_2k ((nI (z_2k.1 0)))) [(-11)]) = (-11 : Int32) → (∀ zp5 : zG, zp5 = (s_writeDoor zp3 ((-1 : Int32))).2.2 → (((zv (s_writeDoor zp3 ((-1 : Int32))) [(-11)]) = (-11 : Int32) → (∀ zp7 : zG, zp7 = (s_writeExaminer zp5 ((nI (zp5.1 1)))).2.2 → (((zv (s_writeExaminer zp5 ((nI (zp5.1 1)))) [(-11)]) = (-11 : Int32) → (Q (1 : Int32) zp7)) ∧ (¬ (zv (s_writeExaminer zp5 ((nI (zp5.1 1)))) [(-11)]) = (-11 : Int32) → (Q (0 : Int32) zp7))))) ∧ (¬ (zv (s_writeDoor zp3 ((-1 : Int32))) [(-11)]) = (-11 : Int32) → (Q (0 : Int32) zp5))))) ∧ (¬ (zv (s_writeDoor z_2k ((nI (z_2k.1 0)))) [(-11)]) = (-11 : Int32) → (Q (0 : Int32) zp3)))) n2 x1_2 z_2 → cn2 + n2 * 372 ≤ CL2 → sn2 + n2 * 13378 ≤ SL2 → zl_Wd g [] z_2 s H locs → lv_has ls 5 [(0, .ref (sw_ad g 0)), (1, .int x1_2)] → W p l e R s m args below meth c H locs cn2 sn2 Q0 (F0 m 2 ls []) := by
    intro n2
    induction n2 with
    | zero =>
      intro x1_2 z_2  H locs ls cn2 sn2 h
      exact False.elim h
    | succ n2 ih2 =>
      intro x1_2 z_2  H locs ls cn2 sn2 h hcn2 hsn2 hW hl
      rw [lL_lines_2.eq_2] at h
      obtain ⟨Tcn2, hTcn2⟩ : ∃ n : Nat, n = cn2 + 372 := ⟨_, rfl⟩
      obtain ⟨Tsn2, hTsn2⟩ : ∃ n : Nat, n = sn2 + 13378 := ⟨_, rfl⟩
      have g9 : cn2 + 372 ≤ Tcn2 := Nat.le_of_eq hTcn2.symm
      have g10 : sn2 + 13378 ≤ Tsn2 := Nat.le_of_eq hTsn2.symm
      have g11 : cn2 + 375 ≤ R.cells := zc9 (x := 0) (D := 3348) (s := 3351) (t := 375) hcn2 hCL2 gc0 (Nat.le_of_ble_eq_true rfl)
      have g12 : sn2 + 13396 ≤ R.slots := zc9 (x := 0) (D := 120402) (s := 120420) (t := 13396) hsn2 hSL2 gs0 (Nat.le_of_ble_eq_true rfl)
      refine lv_iload_n hx hb dL_lines_2 rfl (lv_at hl 1 rfl) ?_
      refine lv_aload_n hx hb dL_lines_3 rfl (lv_at hl 0 rfl) ?_
      refine zl_ki (g := g) (rest := [.int x1_2]) (zl_runV (g := g) (As := []) (rest := [.int x1_2]) hx hb hml hown hts (zD_doorCount l (zl_re g H.size) z_2) cv_X6_doorCount q_487 rfl rfl ⟨by rw [hRf]; exact (Nat.le_of_ble_eq_true rfl), by rw [hRl]; exact (Nat.le_of_ble_eq_true rfl)⟩ hW (Or.inl (Nat.le_of_ble_eq_true rfl)) sl_0 rfl rfl hl.1 rfl (Nat.le_of_ble_eq_true rfl) dL_lines_4 ⟨(zc1 (D := 0) g11 (Nat.le_of_ble_eq_true rfl)), (zc1 (D := 0) g12 (Nat.le_of_ble_eq_true rfl))⟩) hW (fun r9 z9 H locs h9 hW => ?_)
      obtain ⟨rfl, e9⟩ := h9
      rw [e9] at hW
      refine lv_icmp_ge (tgt := 292) hx hb dL_lines_7 (by decide) (fun k13 => ?_) (fun k13 => ?_)
      · replace h := h.1 k13
        exact hX2 z_2 _ _ _ _ _ h (zc11 (zc1 (D := 0) g9 (Nat.le_of_ble_eq_true rfl)) hTcn2 hcn2) (zc11 (zc1 (D := 0) g10 (Nat.le_of_ble_eq_true rfl)) hTsn2 hsn2) hW (lv_sub hl [0] rfl)
      · replace h := h.2 k13
        refine je_new (ci := 8) hx hb hts hown qf_B tyJ4 tyJ4_ok rfl q_773 q_774 q_24 hW (fs := [.null, .int 0, .int 0, .int 0]) (by intro j hj; have h9 : j = 0 ∨ j = 1 ∨ j = 2 ∨ j = 3 := (by omega); rcases h9 with rfl | rfl | rfl | rfl <;> rfl) (zc1 (D := 1) g11 (Nat.le_of_ble_eq_true rfl)) (zc1 (D := 4) g12 (Nat.le_of_ble_eq_true rfl)) dL_lines_10 (fun q14 H hW => ?_)
        replace hW := je_mv0 (E1 := []) hW
        have hW : zl_Wd g [(q14, .inr (8, [.null, .int 0, .int 0, .int 0]))] z_2 s H locs := hW
        refine lv_dup hx hb dL_lines_13 rfl ?_
        refine je_kv (rest := [.ref q14]) (je_runI (As := []) (rest := [.ref q14]) hx hb hml hown hts (kc_sb l g z_2 q14 []) ci_J4_init_da8c8 q_775 rfl rfl ⟨by rw [hRf]; exact (Nat.le_of_ble_eq_true rfl), by rw [hRl]; exact (Nat.le_of_ble_eq_true rfl)⟩ hW rfl hl.1 rfl (Nat.le_of_ble_eq_true rfl) dL_lines_14 ⟨(zc1 (D := 2) g11 (Nat.le_of_ble_eq_true rfl)), (zc1 (D := 20) g12 (Nat.le_of_ble_eq_true rfl))⟩) hW (fun b15 H locs h9 hW => ?_)
        have hW : zl_Wd g [(q14, zSo g b15 0), (b15, zBb g 16 [])] z_2 s H locs := hW
        have hbd16 : zbd [] 16 := ⟨by decide, by decide⟩
        refine sw_ldcW hx hb hown (hW.2.2.2.2.2.2.2.2.2.1 10 (Nat.le_of_ble_eq_true rfl)).2.2.2.2 dL_lines_17 ?_
        have hk9 := h.1
        replace h := h.2
        refine je_kr (rest := []) (je_runV (i := 0) (As := [.ref (sw_sk g 10)]) (rest := []) hx hb hml hown hts (kd_appC l g z_2 q14 b15 16 [] 10 (Nat.le_of_ble_eq_true rfl) hbd16 hk9 []) cw_J4_append_15ec4 q_794 rfl rfl ⟨by rw [hRf]; exact (Nat.le_of_ble_eq_true rfl), by rw [hRl]; exact (Nat.le_of_ble_eq_true rfl)⟩ hW rfl rfl rfl hl.1 rfl (Nat.le_of_ble_eq_true rfl) dL_lines_20 ⟨(zc1 (D := 3) g11 (Nat.le_of_ble_eq_true rfl)), (zc1 (D := 148) g12 (Nat.le_of_ble_eq_true rfl))⟩) hW (fun u9 H locs h9 hW => ?_)
        clear hk9
        obtain ⟨b17, c18⟩ := u9
        have hbd19 : zbd ([] ++ zsb 10) c18 := h9
        show W _ _ _ _ _ _ _ _ _ _ _ _ _ _ _ (F0 m _ ls [.ref q14])
        have hW : zl_Wd g [(q14, zSo g b17 ([] ++ zsb 10).length), (b17, zBb g c18 ([] ++ zsb 10))] z_2 s H locs := hW
        refine lv_aload_n hx hb dL_lines_23 rfl (lv_at hl 0 rfl) ?_
        refine lv_iload_n hx hb dL_lines_24 rfl (lv_at hl 1 rfl) ?_
        have y20 := h.1
        replace h := h.2
        refine zl_ki (g := g) (rest := [.ref q14]) (zl_runV (g := g) (As := [.int x1_2]) (rest := [.ref q14]) hx hb hml hown hts (zD_frameOfDoor l hst (zl_re g H.size) z_2 x1_2 y20) cv_X6_frameOfDoor q_590 rfl rfl ⟨by rw [hRf]; exact (Nat.le_of_ble_eq_true rfl), by rw [hRl]; exact (Nat.le_of_ble_eq_true rfl)⟩ hW (Or.inl (Nat.le_of_ble_eq_true rfl)) sl_0 rfl rfl hl.1 rfl (Nat.le_of_ble_eq_true rfl) dL_lines_25 ⟨(zc1 (D := 4) g11 (Nat.le_of_ble_eq_true rfl)), (zc1 (D := 154) g12 (Nat.le_of_ble_eq_true rfl))⟩) hW (fun r9 z9 H locs h9 hW => ?_)
        clear y20
        obtain ⟨rfl, e9⟩ := h9
        rw [e9, s_frameOfDoor_z] at hW
        obtain ⟨n24, ⟨hn24, en24, hk9⟩, h⟩ := h
        rw [show Value.int (nI (s_frameOfDoor z_2 x1_2).2.1) = Value.int (nI n24) from congrArg Value.int en24]
        refine je_kr (rest := []) (je_runV (i := 0) (As := [.int (nI n24)]) (rest := []) hx hb hml hown hts (kd_appc l g z_2 q14 b17 c18 ([] ++ zsb 10) n24 hn24 hbd19 hk9 []) cw_J4_append_cf468 q_897 rfl rfl ⟨by rw [hRf]; exact (Nat.le_of_ble_eq_true rfl), by rw [hRl]; exact (Nat.le_of_ble_eq_true rfl)⟩ hW rfl rfl rfl hl.1 rfl (Nat.le_of_ble_eq_true rfl) dL_lines_28 ⟨(zc1 (D := 5) g11 (Nat.le_of_ble_eq_true rfl)), (zc1 (D := 282) g12 (Nat.le_of_ble_eq_true rfl))⟩) hW (fun u9 H locs h9 hW => ?_)
        clear hk9
        obtain ⟨b21, c22⟩ := u9
        have hbd23 : zbd (([] ++ zsb 10) ++ [n24]) c22 := h9
        show W _ _ _ _ _ _ _ _ _ _ _ _ _ _ _ (F0 m _ ls [.ref q14])
        have hW : zl_Wd g [(q14, zSo g b21 (([] ++ zsb 10) ++ [n24]).length), (b21, zBb g c22 (([] ++ zsb 10) ++ [n24]))] z_2 s H locs := hW
        refine lv_aload_n hx hb dL_lines_31 rfl (lv_at hl 0 rfl) ?_
        refine lv_iload_n hx hb dL_lines_32 rfl (lv_at hl 1 rfl) ?_
        have y25 := h.1
        replace h := h.2
        refine zl_ki (g := g) (rest := [.ref q14]) (zl_runV (g := g) (As := [.int x1_2]) (rest := [.ref q14]) hx hb hml hown hts (zD_topic l hst (zl_re g H.size) z_2 x1_2 y25) cv_X6_topic q_596 rfl rfl ⟨by rw [hRf]; exact (Nat.le_of_ble_eq_true rfl), by rw [hRl]; exact (Nat.le_of_ble_eq_true rfl)⟩ hW (Or.inl (Nat.le_of_ble_eq_true rfl)) sl_0 rfl rfl hl.1 rfl (Nat.le_of_ble_eq_true rfl) dL_lines_33 ⟨(zc1 (D := 6) g11 (Nat.le_of_ble_eq_true rfl)), (zc1 (D := 288) g12 (Nat.le_of_ble_eq_true rfl))⟩) hW (fun r9 z9 H locs h9 hW => ?_)
        clear y25
        obtain ⟨rfl, e9⟩ := h9
        rw [e9, s_topic_z] at hW
        obtain ⟨n29, ⟨hn29, en29, hk9⟩, h⟩ := h
        rw [show Value.int (nI (s_topic z_2 x1_2).2.1) = Value.int (nI n29) from congrArg Value.int en29]
        refine je_kr (rest := []) (je_runV (i := 0) (As := [.int (nI n29)]) (rest := []) hx hb hml hown hts (kd_appi l g z_2 q14 b21 c22 (([] ++ zsb 10) ++ [n24]) n29 hn29 hbd23 hk9 []) cw_J4_append_bf812 q_919 rfl rfl ⟨by rw [hRf]; exact (Nat.le_of_ble_eq_true rfl), by rw [hRl]; exact (Nat.le_of_ble_eq_true rfl)⟩ hW rfl rfl rfl hl.1 rfl (Nat.le_of_ble_eq_true rfl) dL_lines_36 ⟨(zc1 (D := 7) g11 (Nat.le_of_ble_eq_true rfl)), (zc1 (D := 416) g12 (Nat.le_of_ble_eq_true rfl))⟩) hW (fun u9 H locs h9 hW => ?_)
        clear hk9
        obtain ⟨b26, c27⟩ := u9
        have hbd28 : zbd ((([] ++ zsb 10) ++ [n24]) ++ zdec n29) c27 := h9
        show W _ _ _ _ _ _ _ _ _ _ _ _ _ _ _ (F0 m _ ls [.ref q14])
        have hW : zl_Wd g [(q14, zSo g b26 ((([] ++ zsb 10) ++ [n24]) ++ zdec n29).length), (b26, zBb g c27 ((([] ++ zsb 10) ++ [n24]) ++ zdec n29))] z_2 s H locs := hW
        have hk9 := h.1
        replace h := h.2
        refine je_kr (rest := []) (je_runV (i := 0) (As := []) (rest := []) hx hb hml hown hts (kd_str l g z_2 q14 b26 c27 ((([] ++ zsb 10) ++ [n24]) ++ zdec n29) hk9 hbd28 []) cw_J4_toString_0e30d q_942 rfl rfl ⟨by rw [hRf]; exact (Nat.le_of_ble_eq_true rfl), by rw [hRl]; exact (Nat.le_of_ble_eq_true rfl)⟩ hW rfl rfl rfl hl.1 rfl (Nat.le_of_ble_eq_true rfl) dL_lines_39 ⟨(zc1 (D := 9) g11 (Nat.le_of_ble_eq_true rfl)), (zc1 (D := 484) g12 (Nat.le_of_ble_eq_true rfl))⟩) hW (fun u9 H locs h9 hW => ?_)
        clear hk9
        obtain ⟨v30, w31⟩ := u9
        show W _ _ _ _ _ _ _ _ _ _ _ _ _ _ _ (F0 m _ ls [.ref v30])
        have hW : zl_Wd g [(v30, zTo g w31), (w31, zTb g ((([] ++ zsb 10) ++ [n24]) ++ zdec n29))] z_2 s H locs := hW
        refine lv_astore_n (lv' := [(2, .ref v30), (0, .ref (sw_ad g 0)), (1, .int x1_2)]) hx hb dL_lines_42 rfl hl (Nat.le_of_ble_eq_true rfl) rfl (fun ls hl => ?_)
        refine lv_iconst (v := 0) hx hb dL_lines_43 (by decide) ?_
        refine lv_istore_n (lv' := [(3, .int (0 : Int32)), (2, .ref v30), (0, .ref (sw_ad g 0)), (1, .int x1_2)]) hx hb dL_lines_44 rfl hl (Nat.le_of_ble_eq_true rfl) rfl (fun ls hl => ?_)
        obtain ⟨CL45, hCL45⟩ : ∃ n : Nat, n = cn2 + 0 + 1 + 1 + 1 + 1 + 1 + 1 + 1 + 2 + 168 := ⟨_, rfl⟩
        obtain ⟨SL45, hSL45⟩ : ∃ n : Nat, n = sn2 + 0 + 4 + 16 + 128 + 6 + 128 + 6 + 128 + 68 + 8330 := ⟨_, rfl⟩
        have hX45 : ∀ (t2_45k : List Nat) (q2_45k : Nat) (v2_45k : Nat) (H : Heap) (locs : List Loc) (ls : Array Slot) (cx45 sx45 : Nat), (ztx ([] ++ t2_45k) ∧ (wL_median x1_2  z_2 (fun r42 => (r42 < 0 → (ztx (([] ++ t2_45k) ++ (zsb 10)) ∧ (ztx (([] ++ t2_45k) ++ zsb 10) ∧ (jL_lines_211 x1_2 z_2 Q (fun x1_2 z_2 => lL_lines_2 Q (fun z_2k => ∀ zp3 : zG, zp3 = (s_writeDoor z_2k ((nI (z_2k.1 0)))).2.2 → (((zv (s_writeDoor z_2k ((nI (z_2k.1 0)))) [(-11)]) = (-11 : Int32) → (∀ zp5 : zG, zp5 = (s_writeDoor zp3 ((-1 : Int32))).2.2 → (((zv (s_writeDoor zp3 ((-1 : Int32))) [(-11)]) = (-11 : Int32) → (∀ zp7 : zG, zp7 = (s_writeExaminer zp5 ((nI (zp5.1 1)))).2.2 → (((zv (s_writeExaminer zp5 ((nI (zp5.1 1)))) [(-11)]) = (-11 : Int32) → (Q (1 : Int32) zp7)) ∧ (¬ (zv (s_writeExaminer zp5 ((nI (zp5.1 1)))) [(-11)]) = (-11 : Int32) → (Q (0 : Int32) zp7))))) ∧ (¬ (zv (s_writeDoor zp3 ((-1 : Int32))) [(-11)]) = (-11 : Int32) → (Q (0 : Int32) zp5))))) ∧ (¬ (zv (s_writeDoor z_2k ((nI (z_2k.1 0)))) [(-11)]) = (-11 : Int32) → (Q (0 : Int32) zp3)))) n2 x1_2 z_2) (([] ++ t2_45k) ++ zsb 10))))) ∧ (¬ r42 < 0 → (ztx ([] ++ (zsb 13)) ∧ (wL_median x1_2  z_2 (fun r102 => ∃ n106 : Nat, (n106 < 100 ∧ r102 = nI n106 ∧ ztx (([] ++ zsb 13) ++ zdec n106)) ∧ (ztx (([] ++ zsb 13) ++ zdec n106) ∧ (ztx (([] ++ t2_45k) ++ (([] ++ zsb 13) ++ zdec n106)) ∧ (ztx (([] ++ t2_45k) ++ (([] ++ zsb 13) ++ zdec n106)) ∧ (jL_lines_211 x1_2 z_2 Q (fun x1_2 z_2 => lL_lines_2 Q (fun z_2k => ∀ zp3 : zG, zp3 = (s_writeDoor z_2k ((nI (z_2k.1 0)))).2.2 → (((zv (s_writeDoor z_2k ((nI (z_2k.1 0)))) [(-11)]) = (-11 : Int32) → (∀ zp5 : zG, zp5 = (s_writeDoor zp3 ((-1 : Int32))).2.2 → (((zv (s_writeDoor zp3 ((-1 : Int32))) [(-11)]) = (-11 : Int32) → (∀ zp7 : zG, zp7 = (s_writeExaminer zp5 ((nI (zp5.1 1)))).2.2 → (((zv (s_writeExaminer zp5 ((nI (zp5.1 1)))) [(-11)]) = (-11 : Int32) → (Q (1 : Int32) zp7)) ∧ (¬ (zv (s_writeExaminer zp5 ((nI (zp5.1 1)))) [(-11)]) = (-11 : Int32) → (Q (0 : Int32) zp7))))) ∧ (¬ (zv (s_writeDoor zp3 ((-1 : Int32))) [(-11)]) = (-11 : Int32) → (Q (0 : Int32) zp5))))) ∧ (¬ (zv (s_writeDoor z_2k ((nI (z_2k.1 0)))) [(-11)]) = (-11 : Int32) → (Q (0 : Int32) zp3)))) n2 x1_2 z_2) (([] ++ t2_45k) ++ (([] ++ zsb 13) ++ zdec n106))))))))))))) → cx45 ≤ CL45 → sx45 ≤ SL45 → zl_Wd g [(q2_45k, zTo g v2_45k), (v2_45k, zTb g t2_45k)] z_2 s H locs → lv_has ls 5 [(0, .ref (sw_ad g 0)), (1, .int x1_2), (2, .ref q2_45k)] → W p l e R s m args below meth c H locs cx45 sx45 Q0 (F0 m 155 ls []) := by
          intro t2_45k q2_45k v2_45k H locs ls cx45 sx45 h hcx45 hsx45 hW hl
          have g32 : cx45 + 198 ≤ R.cells := zc8 (x := cn2) (D := 177) (s := 375) (s' := 198) hcx45 hCL45 g11 (Nat.le_of_ble_eq_true rfl)
          have g33 : cx45 + 195 ≤ Tcn2 := zc8 (x := cn2) (D := 177) (s := 372) (s' := 195) hcx45 hCL45 g9 (Nat.le_of_ble_eq_true rfl)
          have g34 : sx45 + 4582 ≤ R.slots := zc8 (x := sn2) (D := 8814) (s := 13396) (s' := 4582) hsx45 hSL45 g12 (Nat.le_of_ble_eq_true rfl)
          have g35 : sx45 + 4564 ≤ Tsn2 := zc8 (x := sn2) (D := 8814) (s := 13378) (s' := 4564) hsx45 hSL45 g10 (Nat.le_of_ble_eq_true rfl)
          refine je_new (ci := 8) hx hb hts hown qf_B tyJ4 tyJ4_ok rfl q_773 q_774 q_24 hW (fs := [.null, .int 0, .int 0, .int 0]) (by intro j hj; have h9 : j = 0 ∨ j = 1 ∨ j = 2 ∨ j = 3 := (by omega); rcases h9 with rfl | rfl | rfl | rfl <;> rfl) (zc1 (D := 1) g32 (Nat.le_of_ble_eq_true rfl)) (zc1 (D := 4) g34 (Nat.le_of_ble_eq_true rfl)) dL_lines_155 (fun q36 H hW => ?_)
          replace hW := je_mv0 (E1 := [(q2_45k, zTo g v2_45k), (v2_45k, zTb g t2_45k)]) hW
          have hW : zl_Wd g [(q36, .inr (8, [.null, .int 0, .int 0, .int 0])), (q2_45k, zTo g v2_45k), (v2_45k, zTb g t2_45k)] z_2 s H locs := hW
          refine lv_dup hx hb dL_lines_158 rfl ?_
          refine je_kv (rest := [.ref q36]) (je_runI (As := []) (rest := [.ref q36]) hx hb hml hown hts (kc_sb l g z_2 q36 [(q2_45k, zTo g v2_45k), (v2_45k, zTb g t2_45k)]) ci_J4_init_da8c8 q_775 rfl rfl ⟨by rw [hRf]; exact (Nat.le_of_ble_eq_true rfl), by rw [hRl]; exact (Nat.le_of_ble_eq_true rfl)⟩ hW rfl hl.1 rfl (Nat.le_of_ble_eq_true rfl) dL_lines_159 ⟨(zc1 (D := 2) g32 (Nat.le_of_ble_eq_true rfl)), (zc1 (D := 20) g34 (Nat.le_of_ble_eq_true rfl))⟩) hW (fun b37 H locs h9 hW => ?_)
          have hW : zl_Wd g [(q36, zSo g b37 0), (b37, zBb g 16 []), (q2_45k, zTo g v2_45k), (v2_45k, zTb g t2_45k)] z_2 s H locs := hW
          have hbd38 : zbd [] 16 := ⟨by decide, by decide⟩
          refine lv_aload_n hx hb dL_lines_162 rfl (lv_at hl 2 rfl) ?_
          have hk9 := h.1
          replace h := h.2
          refine je_kr (rest := []) (je_runV (i := 0) (As := [.ref q2_45k]) (rest := []) hx hb hml hown hts (kd_appD l g z_2 q36 b37 16 [] 0 1 q2_45k v2_45k t2_45k hbd38 hk9 [(q2_45k, zTo g v2_45k), (v2_45k, zTb g t2_45k)] rfl rfl) cw_J4_append_15ec4 q_794 rfl rfl ⟨by rw [hRf]; exact (Nat.le_of_ble_eq_true rfl), by rw [hRl]; exact (Nat.le_of_ble_eq_true rfl)⟩ hW rfl rfl rfl hl.1 rfl (Nat.le_of_ble_eq_true rfl) dL_lines_163 ⟨(zc1 (D := 3) g32 (Nat.le_of_ble_eq_true rfl)), (zc1 (D := 148) g34 (Nat.le_of_ble_eq_true rfl))⟩) hW (fun u9 H locs h9 hW => ?_)
          clear hk9
          obtain ⟨b39, c40⟩ := u9
          have hbd41 : zbd ([] ++ t2_45k) c40 := h9
          show W _ _ _ _ _ _ _ _ _ _ _ _ _ _ _ (F0 m _ ls [.ref q36])
          have hW : zl_Wd g [(q36, zSo g b39 ([] ++ t2_45k).length), (b39, zBb g c40 ([] ++ t2_45k)), (q2_45k, zTo g v2_45k), (v2_45k, zTb g t2_45k)] z_2 s H locs := hW
          refine lv_aload_n hx hb dL_lines_166 rfl (lv_at hl 0 rfl) ?_
          refine lv_iload_n hx hb dL_lines_167 rfl (lv_at hl 1 rfl) ?_
          refine zl_ki (g := g) (rest := [.ref q36]) (zl_runS (g := g) (As := [.ref (sw_ad g 0), .int x1_2]) (rest := [.ref q36]) hx hb hml hown hts (kL_median l hst (zl_re g H.size) x1_2 z_2 _ h) cs_L_median q_523 rfl rfl ⟨by rw [hRf]; exact (Nat.le_of_ble_eq_true rfl), by rw [hRl]; exact (Nat.le_of_ble_eq_true rfl)⟩ hW rfl hl.1 rfl (Nat.le_of_ble_eq_true rfl) dL_lines_168 ⟨(zc1 (D := 25) g32 (Nat.le_of_ble_eq_true rfl)), (zc1 (D := 283) g34 (Nat.le_of_ble_eq_true rfl))⟩) hW (fun r42 z9 H locs h hW => ?_)
          obtain ⟨h, e9⟩ := h
          rw [e9] at hW
          obtain ⟨CJ211, hCJ211⟩ : ∃ n : Nat, n = cx45 + 1 + 1 + 1 + 22 + 31 := ⟨_, rfl⟩
          obtain ⟨SJ211, hSJ211⟩ : ∃ n : Nat, n = sx45 + 4 + 16 + 128 + 135 + 675 := ⟨_, rfl⟩
          have hJ211 : ∀ (t2_211 : List Nat) (q2_211 : Nat) (v2_211 : Nat) (H : Heap) (locs : List Loc) (ls : Array Slot) (cj211 sj211 : Nat), jL_lines_211 x1_2 z_2 Q (fun x1_2 z_2 => lL_lines_2 Q (fun z_2k => ∀ zp3 : zG, zp3 = (s_writeDoor z_2k ((nI (z_2k.1 0)))).2.2 → (((zv (s_writeDoor z_2k ((nI (z_2k.1 0)))) [(-11)]) = (-11 : Int32) → (∀ zp5 : zG, zp5 = (s_writeDoor zp3 ((-1 : Int32))).2.2 → (((zv (s_writeDoor zp3 ((-1 : Int32))) [(-11)]) = (-11 : Int32) → (∀ zp7 : zG, zp7 = (s_writeExaminer zp5 ((nI (zp5.1 1)))).2.2 → (((zv (s_writeExaminer zp5 ((nI (zp5.1 1)))) [(-11)]) = (-11 : Int32) → (Q (1 : Int32) zp7)) ∧ (¬ (zv (s_writeExaminer zp5 ((nI (zp5.1 1)))) [(-11)]) = (-11 : Int32) → (Q (0 : Int32) zp7))))) ∧ (¬ (zv (s_writeDoor zp3 ((-1 : Int32))) [(-11)]) = (-11 : Int32) → (Q (0 : Int32) zp5))))) ∧ (¬ (zv (s_writeDoor z_2k ((nI (z_2k.1 0)))) [(-11)]) = (-11 : Int32) → (Q (0 : Int32) zp3)))) n2 x1_2 z_2) t2_211 → cj211 ≤ CJ211 → sj211 ≤ SJ211 → zl_Wd g [(q2_211, zTo g v2_211), (v2_211, zTb g t2_211)] z_2 s H locs → lv_has ls 5 [(0, .ref (sw_ad g 0)), (1, .int x1_2), (2, .ref q2_211)] → W p l e R s m args below meth c H locs cj211 sj211 Q0 (F0 m 211 ls []) := by
            intro t2_211 q2_211 v2_211 H locs ls cj211 sj211 h hcj211 hsj211 hW hl
            unfold jL_lines_211 at h
            have g43 : cj211 + 142 ≤ R.cells := zc8 (x := cx45) (D := 56) (s := 198) (s' := 142) hcj211 hCJ211 g32 (Nat.le_of_ble_eq_true rfl)
            have g44 : cj211 + 139 ≤ Tcn2 := zc8 (x := cx45) (D := 56) (s := 195) (s' := 139) hcj211 hCJ211 g33 (Nat.le_of_ble_eq_true rfl)
            have g45 : sj211 + 3624 ≤ R.slots := zc8 (x := sx45) (D := 958) (s := 4582) (s' := 3624) hsj211 hSJ211 g34 (Nat.le_of_ble_eq_true rfl)
            have g46 : sj211 + 3606 ≤ Tsn2 := zc8 (x := sx45) (D := 958) (s := 4564) (s' := 3606) hsj211 hSJ211 g35 (Nat.le_of_ble_eq_true rfl)
            refine lv_iconst (v := 1) hx hb dL_lines_211 (by decide) ?_
            refine lv_istore_n (lv' := [(3, .int (1 : Int32)), (0, .ref (sw_ad g 0)), (1, .int x1_2), (2, .ref q2_211)]) hx hb dL_lines_212 rfl hl (Nat.le_of_ble_eq_true rfl) rfl (fun ls hl => ?_)
            obtain ⟨CL213, hCL213⟩ : ∃ n : Nat, n = cj211 + 72 := ⟨_, rfl⟩
            obtain ⟨SL213, hSL213⟩ : ∃ n : Nat, n = sj211 + 3204 := ⟨_, rfl⟩
            have hX213 : ∀ (t2_213k : List Nat) (q2_213k : Nat) (v2_213k : Nat) (H : Heap) (locs : List Loc) (ls : Array Slot) (cx213 sx213 : Nat), (∀ zp51 : zG, zp51 = (s_writeDoor z_2 x1_2).2.2 → (ztx t2_213k ∧ (wL_spells ((zv (s_writeDoor z_2 x1_2) [(-11)])) t2_213k  zp51 (fun r52 => (r52 = 0 → (Q (0 : Int32) zp51)) ∧ (¬ r52 = 0 → (∀ v54 : Int32, v54 = x1_2 + (1 : Int32) → ((fun x1_2 z_2 => lL_lines_2 Q (fun z_2k => ∀ zp3 : zG, zp3 = (s_writeDoor z_2k ((nI (z_2k.1 0)))).2.2 → (((zv (s_writeDoor z_2k ((nI (z_2k.1 0)))) [(-11)]) = (-11 : Int32) → (∀ zp5 : zG, zp5 = (s_writeDoor zp3 ((-1 : Int32))).2.2 → (((zv (s_writeDoor zp3 ((-1 : Int32))) [(-11)]) = (-11 : Int32) → (∀ zp7 : zG, zp7 = (s_writeExaminer zp5 ((nI (zp5.1 1)))).2.2 → (((zv (s_writeExaminer zp5 ((nI (zp5.1 1)))) [(-11)]) = (-11 : Int32) → (Q (1 : Int32) zp7)) ∧ (¬ (zv (s_writeExaminer zp5 ((nI (zp5.1 1)))) [(-11)]) = (-11 : Int32) → (Q (0 : Int32) zp7))))) ∧ (¬ (zv (s_writeDoor zp3 ((-1 : Int32))) [(-11)]) = (-11 : Int32) → (Q (0 : Int32) zp5))))) ∧ (¬ (zv (s_writeDoor z_2k ((nI (z_2k.1 0)))) [(-11)]) = (-11 : Int32) → (Q (0 : Int32) zp3)))) n2 x1_2 z_2) v54 zp51))))))) → cx213 ≤ CL213 → sx213 ≤ SL213 → zl_Wd g [(q2_213k, zTo g v2_213k), (v2_213k, zTb g t2_213k)] z_2 s H locs → lv_has ls 5 [(0, .ref (sw_ad g 0)), (1, .int x1_2), (2, .ref q2_213k)] → W p l e R s m args below meth c H locs cx213 sx213 Q0 (F0 m 271 ls []) := by
              intro t2_213k q2_213k v2_213k H locs ls cx213 sx213 h hcx213 hsx213 hW hl
              have g47 : cx213 + 70 ≤ R.cells := zc8 (x := cj211) (D := 72) (s := 142) (s' := 70) hcx213 hCL213 g43 (Nat.le_of_ble_eq_true rfl)
              have g48 : cx213 + 67 ≤ Tcn2 := zc8 (x := cj211) (D := 72) (s := 139) (s' := 67) hcx213 hCL213 g44 (Nat.le_of_ble_eq_true rfl)
              have g49 : sx213 + 420 ≤ R.slots := zc8 (x := sj211) (D := 3204) (s := 3624) (s' := 420) hsx213 hSL213 g45 (Nat.le_of_ble_eq_true rfl)
              have g50 : sx213 + 402 ≤ Tsn2 := zc8 (x := sj211) (D := 3204) (s := 3606) (s' := 402) hsx213 hSL213 g46 (Nat.le_of_ble_eq_true rfl)
              refine lv_aload_n hx hb dL_lines_271 rfl (lv_at hl 0 rfl) ?_
              refine lv_aload_n hx hb dL_lines_272 rfl (lv_at hl 0 rfl) ?_
              refine lv_iload_n hx hb dL_lines_273 rfl (lv_at hl 1 rfl) ?_
              refine zl_ki (g := g) (rest := [.ref (sw_ad g 0)]) (zl_runH (g := g) (As := [.ref (sw_ad g 0), .int x1_2]) (rest := [.ref (sw_ad g 0)]) hx hb hml hown hts (kL_writeDoor l hst (zl_re g H.size) z_2 x1_2) ch_L_writeDoor q_1000 rfl rfl ⟨by rw [hRf]; exact (Nat.le_of_ble_eq_true rfl), by rw [hRl]; exact (Nat.le_of_ble_eq_true rfl)⟩ hW rfl hl.1 rfl (Nat.le_of_ble_eq_true rfl) dL_lines_274 ⟨(zc1 (D := 1) g47 (Nat.le_of_ble_eq_true rfl)), (zc1 (D := 6) g49 (Nat.le_of_ble_eq_true rfl))⟩) hW (fun r9 z9 H locs h9 hW => ?_)
              obtain ⟨rfl, e9⟩ := h9
              replace h := h z9 e9
              obtain ⟨zp51, ezp51⟩ : ∃ z : zG, z = z9 := ⟨_, rfl⟩
              rw [← ezp51] at h hW
              refine lv_aload_n hx hb dL_lines_277 rfl (lv_at hl 2 rfl) ?_
              have hk9 := h.1
              replace h := h.2
              refine zt_ki (g := g) (rest := []) (je_runS (As := [.ref (sw_ad g 0), .int (zv (s_writeDoor z_2 x1_2) [(-11)]), .ref q2_213k]) (rest := []) hx hb hml hown hts (kL_spells l hst g (zv (s_writeDoor z_2 x1_2) [(-11)]) t2_213k q2_213k v2_213k 0 1 [(q2_213k, zTo g v2_213k), (v2_213k, zTb g t2_213k)] zp51 _ rfl rfl hk9 h) cs_L_spells q_1025 rfl rfl ⟨by rw [hRf]; exact (Nat.le_of_ble_eq_true rfl), by rw [hRl]; exact (Nat.le_of_ble_eq_true rfl)⟩ hW rfl hl.1 rfl (Nat.le_of_ble_eq_true rfl) dL_lines_278 ⟨(zc1 (D := 67) g47 (Nat.le_of_ble_eq_true rfl)), (zc1 (D := 402) g49 (Nat.le_of_ble_eq_true rfl))⟩) hW (fun r52 z9 H locs h hW => ?_)
              clear hk9
              obtain ⟨h, e9⟩ := h
              rw [e9] at hW
              refine lv_if_ne (tgt := 286) hx hb dL_lines_281 (by decide) (fun k53 => ?_) (fun k53 => ?_)
              · replace h := h.2 k53
                obtain ⟨v54, ev54⟩ : ∃ z : Int32, z = x1_2 + (1 : Int32) := ⟨_, rfl⟩
                replace h := h v54 ev54
                refine lv_iinc (v := v54) (lv' := [(1, .int v54), (0, .ref (sw_ad g 0)), (2, .ref q2_213k)]) hx hb dL_lines_286 hl (k := 1) rfl (by rw [ev54]; rfl) (Nat.le_of_ble_eq_true rfl) rfl (fun ls hl => ?_)
                refine lv_goto (tgt := 2) hx hb dL_lines_289 (by decide) ?_
                have hW := zl_sub (E' := []) hW [] (by decide) rfl
                exact ih2 v54 zp51 _ _ _ _ _ h (zc10 (zc1 (D := 67) g48 (Nat.le_of_ble_eq_true rfl)) hTcn2 hcn2) (zc10 (zc1 (D := 402) g50 (Nat.le_of_ble_eq_true rfl)) hTsn2 hsn2) hW (lv_sub hl [1, 0] rfl)
              · replace h := h.1 k53
                refine lv_iconst (v := 0) hx hb dL_lines_284 (by decide) ?_
                subst hQ0
                refine W.widen (k := 3351) (n := 120420) (Nat.le_trans (zc1 (D := 67) g47 (Nat.le_of_ble_eq_true rfl)) (Nat.le_of_eq hRc)) (Nat.le_trans (zc1 (D := 402) g49 (Nat.le_of_ble_eq_true rfl)) (Nat.le_of_eq hRs)) ?_
                exact zl_ri hx hb hr hlocks hW (by decide) h dL_lines_285
            have key213 : ∀ (n213 : Nat) (t2_213 : List Nat) (x3_213 : Int32) (q2_213 : Nat) (v2_213 : Nat) (H : Heap) (locs : List Loc) (ls : Array Slot) (cn213 sn213 : Nat), lL_lines_213 x1_2 z_2 (fun t2_213k => ∀ zp51 : zG, zp51 = (s_writeDoor z_2 x1_2).2.2 → (ztx t2_213k ∧ (wL_spells ((zv (s_writeDoor z_2 x1_2) [(-11)])) t2_213k  zp51 (fun r52 => (r52 = 0 → (Q (0 : Int32) zp51)) ∧ (¬ r52 = 0 → (∀ v54 : Int32, v54 = x1_2 + (1 : Int32) → ((fun x1_2 z_2 => lL_lines_2 Q (fun z_2k => ∀ zp3 : zG, zp3 = (s_writeDoor z_2k ((nI (z_2k.1 0)))).2.2 → (((zv (s_writeDoor z_2k ((nI (z_2k.1 0)))) [(-11)]) = (-11 : Int32) → (∀ zp5 : zG, zp5 = (s_writeDoor zp3 ((-1 : Int32))).2.2 → (((zv (s_writeDoor zp3 ((-1 : Int32))) [(-11)]) = (-11 : Int32) → (∀ zp7 : zG, zp7 = (s_writeExaminer zp5 ((nI (zp5.1 1)))).2.2 → (((zv (s_writeExaminer zp5 ((nI (zp5.1 1)))) [(-11)]) = (-11 : Int32) → (Q (1 : Int32) zp7)) ∧ (¬ (zv (s_writeExaminer zp5 ((nI (zp5.1 1)))) [(-11)]) = (-11 : Int32) → (Q (0 : Int32) zp7))))) ∧ (¬ (zv (s_writeDoor zp3 ((-1 : Int32))) [(-11)]) = (-11 : Int32) → (Q (0 : Int32) zp5))))) ∧ (¬ (zv (s_writeDoor z_2k ((nI (z_2k.1 0)))) [(-11)]) = (-11 : Int32) → (Q (0 : Int32) zp3)))) n2 x1_2 z_2) v54 zp51))))))) n213 t2_213 x3_213 → cn213 + n213 * 8 ≤ CL213 → sn213 + n213 * 356 ≤ SL213 → zl_Wd g [(q2_213, zTo g v2_213), (v2_213, zTb g t2_213)] z_2 s H locs → lv_has ls 5 [(0, .ref (sw_ad g 0)), (1, .int x1_2), (2, .ref q2_213), (3, .int x3_213)] → W p l e R s m args below meth c H locs cn213 sn213 Q0 (F0 m 213 ls []) := by
              intro n213
              induction n213 with
              | zero =>
                intro t2_213 x3_213 q2_213 v2_213 H locs ls cn213 sn213 h
                exact False.elim h
              | succ n213 ih213 =>
                intro t2_213 x3_213 q2_213 v2_213 H locs ls cn213 sn213 h hcn213 hsn213 hW hl
                rw [lL_lines_213.eq_2] at h
                obtain ⟨Tcn213, hTcn213⟩ : ∃ n : Nat, n = cn213 + 8 := ⟨_, rfl⟩
                obtain ⟨Tsn213, hTsn213⟩ : ∃ n : Nat, n = sn213 + 356 := ⟨_, rfl⟩
                have g55 : cn213 + 8 ≤ Tcn213 := Nat.le_of_eq hTcn213.symm
                have g56 : sn213 + 356 ≤ Tsn213 := Nat.le_of_eq hTsn213.symm
                have g57 : cn213 + 78 ≤ R.cells := zc9 (x := cj211) (D := 72) (s := 142) (t := 78) hcn213 hCL213 g43 (Nat.le_of_ble_eq_true rfl)
                have g58 : sn213 + 776 ≤ R.slots := zc9 (x := sj211) (D := 3204) (s := 3624) (t := 776) hsn213 hSL213 g45 (Nat.le_of_ble_eq_true rfl)
                refine lv_iload_n hx hb dL_lines_213 rfl (lv_at hl 3 rfl) ?_
                refine lv_aload_n hx hb dL_lines_214 rfl (lv_at hl 0 rfl) ?_
                refine zl_ki (g := g) (rest := [.int x3_213]) (zl_runV (g := g) (As := []) (rest := [.int x3_213]) hx hb hml hown hts (zD_entryCount l (zl_re g H.size) z_2) cv_X6_entryCount q_706 rfl rfl ⟨by rw [hRf]; exact (Nat.le_of_ble_eq_true rfl), by rw [hRl]; exact (Nat.le_of_ble_eq_true rfl)⟩ hW (Or.inl (Nat.le_of_ble_eq_true rfl)) sl_0 rfl rfl hl.1 rfl (Nat.le_of_ble_eq_true rfl) dL_lines_215 ⟨(zc1 (D := 0) g57 (Nat.le_of_ble_eq_true rfl)), (zc1 (D := 0) g58 (Nat.le_of_ble_eq_true rfl))⟩) hW (fun r9 z9 H locs h9 hW => ?_)
                obtain ⟨rfl, e9⟩ := h9
                rw [e9] at hW
                refine lv_icmp_gt (tgt := 271) hx hb dL_lines_218 (by decide) (fun k59 => ?_) (fun k59 => ?_)
                · replace h := h.1 k59
                  exact hX213 t2_213 _ _ _ _ _ _ _ h (zc11 (zc1 (D := 0) g55 (Nat.le_of_ble_eq_true rfl)) hTcn213 hcn213) (zc11 (zc1 (D := 0) g56 (Nat.le_of_ble_eq_true rfl)) hTsn213 hsn213) hW (lv_sub hl [0, 1, 2] rfl)
                · replace h := h.2 k59
                  refine je_new (ci := 8) hx hb hts hown qf_B tyJ4 tyJ4_ok rfl q_773 q_774 q_24 hW (fs := [.null, .int 0, .int 0, .int 0]) (by intro j hj; have h9 : j = 0 ∨ j = 1 ∨ j = 2 ∨ j = 3 := (by omega); rcases h9 with rfl | rfl | rfl | rfl <;> rfl) (zc1 (D := 1) g57 (Nat.le_of_ble_eq_true rfl)) (zc1 (D := 4) g58 (Nat.le_of_ble_eq_true rfl)) dL_lines_221 (fun q60 H hW => ?_)
                  replace hW := je_mv0 (E1 := [(q2_213, zTo g v2_213), (v2_213, zTb g t2_213)]) hW
                  have hW : zl_Wd g [(q60, .inr (8, [.null, .int 0, .int 0, .int 0])), (q2_213, zTo g v2_213), (v2_213, zTb g t2_213)] z_2 s H locs := hW
                  refine lv_dup hx hb dL_lines_224 rfl ?_
                  refine je_kv (rest := [.ref q60]) (je_runI (As := []) (rest := [.ref q60]) hx hb hml hown hts (kc_sb l g z_2 q60 [(q2_213, zTo g v2_213), (v2_213, zTb g t2_213)]) ci_J4_init_da8c8 q_775 rfl rfl ⟨by rw [hRf]; exact (Nat.le_of_ble_eq_true rfl), by rw [hRl]; exact (Nat.le_of_ble_eq_true rfl)⟩ hW rfl hl.1 rfl (Nat.le_of_ble_eq_true rfl) dL_lines_225 ⟨(zc1 (D := 2) g57 (Nat.le_of_ble_eq_true rfl)), (zc1 (D := 20) g58 (Nat.le_of_ble_eq_true rfl))⟩) hW (fun b61 H locs h9 hW => ?_)
                  have hW : zl_Wd g [(q60, zSo g b61 0), (b61, zBb g 16 []), (q2_213, zTo g v2_213), (v2_213, zTb g t2_213)] z_2 s H locs := hW
                  have hbd62 : zbd [] 16 := ⟨by decide, by decide⟩
                  refine lv_aload_n hx hb dL_lines_228 rfl (lv_at hl 2 rfl) ?_
                  have hk9 := h.1
                  replace h := h.2
                  refine je_kr (rest := []) (je_runV (i := 0) (As := [.ref q2_213]) (rest := []) hx hb hml hown hts (kd_appD l g z_2 q60 b61 16 [] 0 1 q2_213 v2_213 t2_213 hbd62 hk9 [(q2_213, zTo g v2_213), (v2_213, zTb g t2_213)] rfl rfl) cw_J4_append_15ec4 q_794 rfl rfl ⟨by rw [hRf]; exact (Nat.le_of_ble_eq_true rfl), by rw [hRl]; exact (Nat.le_of_ble_eq_true rfl)⟩ hW rfl rfl rfl hl.1 rfl (Nat.le_of_ble_eq_true rfl) dL_lines_229 ⟨(zc1 (D := 3) g57 (Nat.le_of_ble_eq_true rfl)), (zc1 (D := 148) g58 (Nat.le_of_ble_eq_true rfl))⟩) hW (fun u9 H locs h9 hW => ?_)
                  clear hk9
                  obtain ⟨b63, c64⟩ := u9
                  have hbd65 : zbd ([] ++ t2_213) c64 := h9
                  show W _ _ _ _ _ _ _ _ _ _ _ _ _ _ _ (F0 m _ ls [.ref q60])
                  have hW : zl_Wd g [(q60, zSo g b63 ([] ++ t2_213).length), (b63, zBb g c64 ([] ++ t2_213)), (q2_213, zTo g v2_213), (v2_213, zTb g t2_213)] z_2 s H locs := hW
                  refine lv_aload_n hx hb dL_lines_232 rfl (lv_at hl 0 rfl) ?_
                  refine lv_iload_n hx hb dL_lines_233 rfl (lv_at hl 3 rfl) ?_
                  have y66 := h.1
                  replace h := h.2
                  refine zl_ki (g := g) (rest := [.ref q60]) (zl_runV (g := g) (As := [.int x3_213]) (rest := [.ref q60]) hx hb hml hown hts (zD_doorOf l hst (zl_re g H.size) z_2 x3_213 y66) cv_X6_doorOf q_712 rfl rfl ⟨by rw [hRf]; exact (Nat.le_of_ble_eq_true rfl), by rw [hRl]; exact (Nat.le_of_ble_eq_true rfl)⟩ hW (Or.inl (Nat.le_of_ble_eq_true rfl)) sl_0 rfl rfl hl.1 rfl (Nat.le_of_ble_eq_true rfl) dL_lines_234 ⟨(zc1 (D := 4) g57 (Nat.le_of_ble_eq_true rfl)), (zc1 (D := 154) g58 (Nat.le_of_ble_eq_true rfl))⟩) hW (fun r9 z9 H locs h9 hW => ?_)
                  clear y66
                  obtain ⟨rfl, e9⟩ := h9
                  rw [e9, s_doorOf_z] at hW
                  refine lv_iload_n hx hb dL_lines_237 rfl (lv_at hl 1 rfl) ?_
                  refine lv_icmp_ne (tgt := 255) hx hb dL_lines_238 (by decide) (fun k67 => ?_) (fun k67 => ?_)
                  · replace h := h.2 k67
                    refine sw_ldcW hx hb hown (hW.2.2.2.2.2.2.2.2.2.1 10 (Nat.le_of_ble_eq_true rfl)).2.2.2.2 dL_lines_255 ?_
                    have hk9 := h.1
                    replace h := h.2
                    refine je_kr (rest := []) (je_runV (i := 0) (As := [.ref (sw_sk g 10)]) (rest := []) hx hb hml hown hts (kd_appC l g z_2 q60 b63 c64 ([] ++ t2_213) 10 (Nat.le_of_ble_eq_true rfl) hbd65 hk9 [(q2_213, zTo g v2_213), (v2_213, zTb g t2_213)]) cw_J4_append_15ec4 q_794 rfl rfl ⟨by rw [hRf]; exact (Nat.le_of_ble_eq_true rfl), by rw [hRl]; exact (Nat.le_of_ble_eq_true rfl)⟩ hW rfl rfl rfl hl.1 rfl (Nat.le_of_ble_eq_true rfl) dL_lines_258 ⟨(zc1 (D := 5) g57 (Nat.le_of_ble_eq_true rfl)), (zc1 (D := 282) g58 (Nat.le_of_ble_eq_true rfl))⟩) hW (fun u9 H locs h9 hW => ?_)
                    clear hk9
                    obtain ⟨b68, c69⟩ := u9
                    have hbd70 : zbd (([] ++ t2_213) ++ zsb 10) c69 := h9
                    show W _ _ _ _ _ _ _ _ _ _ _ _ _ _ _ (F0 m _ ls [.ref q60])
                    have hW : zl_Wd g [(q60, zSo g b68 (([] ++ t2_213) ++ zsb 10).length), (b68, zBb g c69 (([] ++ t2_213) ++ zsb 10)), (q2_213, zTo g v2_213), (v2_213, zTb g t2_213)] z_2 s H locs := hW
                    have hk9 := h.1
                    replace h := h.2
                    refine je_kr (rest := []) (je_runV (i := 0) (As := []) (rest := []) hx hb hml hown hts (kd_str l g z_2 q60 b68 c69 (([] ++ t2_213) ++ zsb 10) hk9 hbd70 [(q2_213, zTo g v2_213), (v2_213, zTb g t2_213)]) cw_J4_toString_0e30d q_942 rfl rfl ⟨by rw [hRf]; exact (Nat.le_of_ble_eq_true rfl), by rw [hRl]; exact (Nat.le_of_ble_eq_true rfl)⟩ hW rfl rfl rfl hl.1 rfl (Nat.le_of_ble_eq_true rfl) dL_lines_261 ⟨(zc1 (D := 7) g57 (Nat.le_of_ble_eq_true rfl)), (zc1 (D := 350) g58 (Nat.le_of_ble_eq_true rfl))⟩) hW (fun u9 H locs h9 hW => ?_)
                    clear hk9
                    obtain ⟨v71, w72⟩ := u9
                    show W _ _ _ _ _ _ _ _ _ _ _ _ _ _ _ (F0 m _ ls [.ref v71])
                    have hW : zl_Wd g [(v71, zTo g w72), (w72, zTb g (([] ++ t2_213) ++ zsb 10)), (q2_213, zTo g v2_213), (v2_213, zTb g t2_213)] z_2 s H locs := hW
                    refine lv_astore_n (lv' := [(2, .ref v71), (0, .ref (sw_ad g 0)), (1, .int x1_2), (3, .int x3_213)]) hx hb dL_lines_264 rfl hl (Nat.le_of_ble_eq_true rfl) rfl (fun ls hl => ?_)
                    obtain ⟨v73, ev73⟩ : ∃ z : Int32, z = x3_213 + (1 : Int32) := ⟨_, rfl⟩
                    replace h := h v73 ev73
                    refine lv_iinc (v := v73) (lv' := [(3, .int v73), (2, .ref v71), (0, .ref (sw_ad g 0)), (1, .int x1_2)]) hx hb dL_lines_265 hl (k := 3) rfl (by rw [ev73]; rfl) (Nat.le_of_ble_eq_true rfl) rfl (fun ls hl => ?_)
                    refine lv_goto (tgt := 213) hx hb dL_lines_268 (by decide) ?_
                    have hW := zl_sub (E' := [(v71, zTo g w72), (w72, zTb g (([] ++ t2_213) ++ zsb 10))]) hW [0, 1] (by decide) rfl
                    exact ih213 (([] ++ t2_213) ++ zsb 10) v73 _ _ _ _ _ _ _ h (zc10 (zc1 (D := 7) g55 (Nat.le_of_ble_eq_true rfl)) hTcn213 hcn213) (zc10 (zc1 (D := 350) g56 (Nat.le_of_ble_eq_true rfl)) hTsn213 hsn213) hW (lv_sub hl [2, 3, 1, 0] rfl)
                  · replace h := h.1 k67
                    refine lv_aload_n hx hb dL_lines_241 rfl (lv_at hl 0 rfl) ?_
                    refine lv_iload_n hx hb dL_lines_242 rfl (lv_at hl 3 rfl) ?_
                    have y74 := h.1
                    replace h := h.2
                    refine zl_ki (g := g) (rest := [.ref q60]) (zl_runV (g := g) (As := [.int x3_213]) (rest := [.ref q60]) hx hb hml hown hts (zD_isRevoked l hst (zl_re g H.size) z_2 x3_213 y74) cv_X6_isRevoked q_725 rfl rfl ⟨by rw [hRf]; exact (Nat.le_of_ble_eq_true rfl), by rw [hRl]; exact (Nat.le_of_ble_eq_true rfl)⟩ hW (Or.inl (Nat.le_of_ble_eq_true rfl)) sl_0 rfl rfl hl.1 rfl (Nat.le_of_ble_eq_true rfl) dL_lines_243 ⟨(zc1 (D := 5) g57 (Nat.le_of_ble_eq_true rfl)), (zc1 (D := 160) g58 (Nat.le_of_ble_eq_true rfl))⟩) hW (fun r9 z9 H locs h9 hW => ?_)
                    clear y74
                    obtain ⟨rfl, e9⟩ := h9
                    rw [e9, s_isRevoked_z] at hW
                    refine lv_if_ne (tgt := 255) hx hb dL_lines_246 (by decide) (fun k75 => ?_) (fun k75 => ?_)
                    · replace h := h.2 k75
                      refine sw_ldcW hx hb hown (hW.2.2.2.2.2.2.2.2.2.1 10 (Nat.le_of_ble_eq_true rfl)).2.2.2.2 dL_lines_255 ?_
                      have hk9 := h.1
                      replace h := h.2
                      refine je_kr (rest := []) (je_runV (i := 0) (As := [.ref (sw_sk g 10)]) (rest := []) hx hb hml hown hts (kd_appC l g z_2 q60 b63 c64 ([] ++ t2_213) 10 (Nat.le_of_ble_eq_true rfl) hbd65 hk9 [(q2_213, zTo g v2_213), (v2_213, zTb g t2_213)]) cw_J4_append_15ec4 q_794 rfl rfl ⟨by rw [hRf]; exact (Nat.le_of_ble_eq_true rfl), by rw [hRl]; exact (Nat.le_of_ble_eq_true rfl)⟩ hW rfl rfl rfl hl.1 rfl (Nat.le_of_ble_eq_true rfl) dL_lines_258 ⟨(zc1 (D := 6) g57 (Nat.le_of_ble_eq_true rfl)), (zc1 (D := 288) g58 (Nat.le_of_ble_eq_true rfl))⟩) hW (fun u9 H locs h9 hW => ?_)
                      clear hk9
                      obtain ⟨b76, c77⟩ := u9
                      have hbd78 : zbd (([] ++ t2_213) ++ zsb 10) c77 := h9
                      show W _ _ _ _ _ _ _ _ _ _ _ _ _ _ _ (F0 m _ ls [.ref q60])
                      have hW : zl_Wd g [(q60, zSo g b76 (([] ++ t2_213) ++ zsb 10).length), (b76, zBb g c77 (([] ++ t2_213) ++ zsb 10)), (q2_213, zTo g v2_213), (v2_213, zTb g t2_213)] z_2 s H locs := hW
                      have hk9 := h.1
                      replace h := h.2
                      refine je_kr (rest := []) (je_runV (i := 0) (As := []) (rest := []) hx hb hml hown hts (kd_str l g z_2 q60 b76 c77 (([] ++ t2_213) ++ zsb 10) hk9 hbd78 [(q2_213, zTo g v2_213), (v2_213, zTb g t2_213)]) cw_J4_toString_0e30d q_942 rfl rfl ⟨by rw [hRf]; exact (Nat.le_of_ble_eq_true rfl), by rw [hRl]; exact (Nat.le_of_ble_eq_true rfl)⟩ hW rfl rfl rfl hl.1 rfl (Nat.le_of_ble_eq_true rfl) dL_lines_261 ⟨(zc1 (D := 8) g57 (Nat.le_of_ble_eq_true rfl)), (zc1 (D := 356) g58 (Nat.le_of_ble_eq_true rfl))⟩) hW (fun u9 H locs h9 hW => ?_)
                      clear hk9
                      obtain ⟨v79, w80⟩ := u9
                      show W _ _ _ _ _ _ _ _ _ _ _ _ _ _ _ (F0 m _ ls [.ref v79])
                      have hW : zl_Wd g [(v79, zTo g w80), (w80, zTb g (([] ++ t2_213) ++ zsb 10)), (q2_213, zTo g v2_213), (v2_213, zTb g t2_213)] z_2 s H locs := hW
                      refine lv_astore_n (lv' := [(2, .ref v79), (0, .ref (sw_ad g 0)), (1, .int x1_2), (3, .int x3_213)]) hx hb dL_lines_264 rfl hl (Nat.le_of_ble_eq_true rfl) rfl (fun ls hl => ?_)
                      obtain ⟨v81, ev81⟩ : ∃ z : Int32, z = x3_213 + (1 : Int32) := ⟨_, rfl⟩
                      replace h := h v81 ev81
                      refine lv_iinc (v := v81) (lv' := [(3, .int v81), (2, .ref v79), (0, .ref (sw_ad g 0)), (1, .int x1_2)]) hx hb dL_lines_265 hl (k := 3) rfl (by rw [ev81]; rfl) (Nat.le_of_ble_eq_true rfl) rfl (fun ls hl => ?_)
                      refine lv_goto (tgt := 213) hx hb dL_lines_268 (by decide) ?_
                      have hW := zl_sub (E' := [(v79, zTo g w80), (w80, zTb g (([] ++ t2_213) ++ zsb 10))]) hW [0, 1] (by decide) rfl
                      exact ih213 (([] ++ t2_213) ++ zsb 10) v81 _ _ _ _ _ _ _ h (zc10 (zc1 (D := 8) g55 (Nat.le_of_ble_eq_true rfl)) hTcn213 hcn213) (zc10 (zc1 (D := 356) g56 (Nat.le_of_ble_eq_true rfl)) hTsn213 hsn213) hW (lv_sub hl [2, 3, 1, 0] rfl)
                    · replace h := h.1 k75
                      refine sw_ldcW hx hb hown (hW.2.2.2.2.2.2.2.2.2.1 14 (Nat.le_of_ble_eq_true rfl)).2.2.2.2 dL_lines_249 ?_
                      refine lv_goto (tgt := 258) hx hb dL_lines_252 (by decide) ?_
                      have hk9 := h.1
                      replace h := h.2
                      refine je_kr (rest := []) (je_runV (i := 0) (As := [.ref (sw_sk g 14)]) (rest := []) hx hb hml hown hts (kd_appC l g z_2 q60 b63 c64 ([] ++ t2_213) 14 (Nat.le_of_ble_eq_true rfl) hbd65 hk9 [(q2_213, zTo g v2_213), (v2_213, zTb g t2_213)]) cw_J4_append_15ec4 q_794 rfl rfl ⟨by rw [hRf]; exact (Nat.le_of_ble_eq_true rfl), by rw [hRl]; exact (Nat.le_of_ble_eq_true rfl)⟩ hW rfl rfl rfl hl.1 rfl (Nat.le_of_ble_eq_true rfl) dL_lines_258 ⟨(zc1 (D := 6) g57 (Nat.le_of_ble_eq_true rfl)), (zc1 (D := 288) g58 (Nat.le_of_ble_eq_true rfl))⟩) hW (fun u9 H locs h9 hW => ?_)
                      clear hk9
                      obtain ⟨b82, c83⟩ := u9
                      have hbd84 : zbd (([] ++ t2_213) ++ zsb 14) c83 := h9
                      show W _ _ _ _ _ _ _ _ _ _ _ _ _ _ _ (F0 m _ ls [.ref q60])
                      have hW : zl_Wd g [(q60, zSo g b82 (([] ++ t2_213) ++ zsb 14).length), (b82, zBb g c83 (([] ++ t2_213) ++ zsb 14)), (q2_213, zTo g v2_213), (v2_213, zTb g t2_213)] z_2 s H locs := hW
                      have hk9 := h.1
                      replace h := h.2
                      refine je_kr (rest := []) (je_runV (i := 0) (As := []) (rest := []) hx hb hml hown hts (kd_str l g z_2 q60 b82 c83 (([] ++ t2_213) ++ zsb 14) hk9 hbd84 [(q2_213, zTo g v2_213), (v2_213, zTb g t2_213)]) cw_J4_toString_0e30d q_942 rfl rfl ⟨by rw [hRf]; exact (Nat.le_of_ble_eq_true rfl), by rw [hRl]; exact (Nat.le_of_ble_eq_true rfl)⟩ hW rfl rfl rfl hl.1 rfl (Nat.le_of_ble_eq_true rfl) dL_lines_261 ⟨(zc1 (D := 8) g57 (Nat.le_of_ble_eq_true rfl)), (zc1 (D := 356) g58 (Nat.le_of_ble_eq_true rfl))⟩) hW (fun u9 H locs h9 hW => ?_)
                      clear hk9
                      obtain ⟨v85, w86⟩ := u9
                      show W _ _ _ _ _ _ _ _ _ _ _ _ _ _ _ (F0 m _ ls [.ref v85])
                      have hW : zl_Wd g [(v85, zTo g w86), (w86, zTb g (([] ++ t2_213) ++ zsb 14)), (q2_213, zTo g v2_213), (v2_213, zTb g t2_213)] z_2 s H locs := hW
                      refine lv_astore_n (lv' := [(2, .ref v85), (0, .ref (sw_ad g 0)), (1, .int x1_2), (3, .int x3_213)]) hx hb dL_lines_264 rfl hl (Nat.le_of_ble_eq_true rfl) rfl (fun ls hl => ?_)
                      obtain ⟨v87, ev87⟩ : ∃ z : Int32, z = x3_213 + (1 : Int32) := ⟨_, rfl⟩
                      replace h := h v87 ev87
                      refine lv_iinc (v := v87) (lv' := [(3, .int v87), (2, .ref v85), (0, .ref (sw_ad g 0)), (1, .int x1_2)]) hx hb dL_lines_265 hl (k := 3) rfl (by rw [ev87]; rfl) (Nat.le_of_ble_eq_true rfl) rfl (fun ls hl => ?_)
                      refine lv_goto (tgt := 213) hx hb dL_lines_268 (by decide) ?_
                      have hW := zl_sub (E' := [(v85, zTo g w86), (w86, zTb g (([] ++ t2_213) ++ zsb 14))]) hW [0, 1] (by decide) rfl
                      exact ih213 (([] ++ t2_213) ++ zsb 14) v87 _ _ _ _ _ _ _ h (zc10 (zc1 (D := 8) g55 (Nat.le_of_ble_eq_true rfl)) hTcn213 hcn213) (zc10 (zc1 (D := 356) g56 (Nat.le_of_ble_eq_true rfl)) hTsn213 hsn213) hW (lv_sub hl [2, 3, 1, 0] rfl)
            exact key213 9 t2_211 (1 : Int32) _ _ _ _ _ _ _ h (Nat.le_of_eq hCL213.symm) (Nat.le_of_eq hSL213.symm) hW (lv_sub hl [1, 2, 3, 0] rfl)
          have g88 : cx45 + 56 ≤ CJ211 := Nat.le_of_eq hCJ211.symm
          have g89 : sx45 + 958 ≤ SJ211 := Nat.le_of_eq hSJ211.symm
          refine lv_if_lt (tgt := 201) hx hb dL_lines_171 (by decide) (fun k90 => ?_) (fun k90 => ?_)
          · replace h := h.1 k90
            refine sw_ldcW hx hb hown (hW.2.2.2.2.2.2.2.2.2.1 10 (Nat.le_of_ble_eq_true rfl)).2.2.2.2 dL_lines_201 ?_
            have hk9 := h.1
            replace h := h.2
            refine je_kr (rest := []) (je_runV (i := 0) (As := [.ref (sw_sk g 10)]) (rest := []) hx hb hml hown hts (kd_appC l g z_2 q36 b39 c40 ([] ++ t2_45k) 10 (Nat.le_of_ble_eq_true rfl) hbd41 hk9 [(q2_45k, zTo g v2_45k), (v2_45k, zTb g t2_45k)]) cw_J4_append_15ec4 q_794 rfl rfl ⟨by rw [hRf]; exact (Nat.le_of_ble_eq_true rfl), by rw [hRl]; exact (Nat.le_of_ble_eq_true rfl)⟩ hW rfl rfl rfl hl.1 rfl (Nat.le_of_ble_eq_true rfl) dL_lines_204 ⟨(zc1 (D := 26) g32 (Nat.le_of_ble_eq_true rfl)), (zc1 (D := 411) g34 (Nat.le_of_ble_eq_true rfl))⟩) hW (fun u9 H locs h9 hW => ?_)
            clear hk9
            obtain ⟨b91, c92⟩ := u9
            have hbd93 : zbd (([] ++ t2_45k) ++ zsb 10) c92 := h9
            show W _ _ _ _ _ _ _ _ _ _ _ _ _ _ _ (F0 m _ ls [.ref q36])
            have hW : zl_Wd g [(q36, zSo g b91 (([] ++ t2_45k) ++ zsb 10).length), (b91, zBb g c92 (([] ++ t2_45k) ++ zsb 10)), (q2_45k, zTo g v2_45k), (v2_45k, zTb g t2_45k)] z_2 s H locs := hW
            have hk9 := h.1
            replace h := h.2
            refine je_kr (rest := []) (je_runV (i := 0) (As := []) (rest := []) hx hb hml hown hts (kd_str l g z_2 q36 b91 c92 (([] ++ t2_45k) ++ zsb 10) hk9 hbd93 [(q2_45k, zTo g v2_45k), (v2_45k, zTb g t2_45k)]) cw_J4_toString_0e30d q_942 rfl rfl ⟨by rw [hRf]; exact (Nat.le_of_ble_eq_true rfl), by rw [hRl]; exact (Nat.le_of_ble_eq_true rfl)⟩ hW rfl rfl rfl hl.1 rfl (Nat.le_of_ble_eq_true rfl) dL_lines_207 ⟨(zc1 (D := 28) g32 (Nat.le_of_ble_eq_true rfl)), (zc1 (D := 479) g34 (Nat.le_of_ble_eq_true rfl))⟩) hW (fun u9 H locs h9 hW => ?_)
            clear hk9
            obtain ⟨v94, w95⟩ := u9
            show W _ _ _ _ _ _ _ _ _ _ _ _ _ _ _ (F0 m _ ls [.ref v94])
            have hW : zl_Wd g [(v94, zTo g w95), (w95, zTb g (([] ++ t2_45k) ++ zsb 10)), (q2_45k, zTo g v2_45k), (v2_45k, zTb g t2_45k)] z_2 s H locs := hW
            refine lv_astore_n (lv' := [(2, .ref v94), (0, .ref (sw_ad g 0)), (1, .int x1_2)]) hx hb dL_lines_210 rfl hl (Nat.le_of_ble_eq_true rfl) rfl (fun ls hl => ?_)
            have hW := zl_sub (E' := [(v94, zTo g w95), (w95, zTb g (([] ++ t2_45k) ++ zsb 10))]) hW [0, 1] (by decide) rfl
            exact hJ211 (([] ++ t2_45k) ++ zsb 10) v94 w95 _ _ _ _ _ h (zc1 (D := 28) g88 (Nat.le_of_ble_eq_true rfl)) (zc1 (D := 479) g89 (Nat.le_of_ble_eq_true rfl)) hW (lv_sub hl [1, 2, 0] rfl)
          · replace h := h.2 k90
            refine je_new (ci := 8) hx hb hts hown qf_B tyJ4 tyJ4_ok rfl q_773 q_774 q_24 hW (fs := [.null, .int 0, .int 0, .int 0]) (by intro j hj; have h9 : j = 0 ∨ j = 1 ∨ j = 2 ∨ j = 3 := (by omega); rcases h9 with rfl | rfl | rfl | rfl <;> rfl) (zc1 (D := 26) g32 (Nat.le_of_ble_eq_true rfl)) (zc1 (D := 287) g34 (Nat.le_of_ble_eq_true rfl)) dL_lines_174 (fun q96 H hW => ?_)
            replace hW := je_mv0 (E1 := [(q36, zSo g b39 ([] ++ t2_45k).length), (b39, zBb g c40 ([] ++ t2_45k)), (q2_45k, zTo g v2_45k), (v2_45k, zTb g t2_45k)]) hW
            have hW : zl_Wd g [(q96, .inr (8, [.null, .int 0, .int 0, .int 0])), (q36, zSo g b39 ([] ++ t2_45k).length), (b39, zBb g c40 ([] ++ t2_45k)), (q2_45k, zTo g v2_45k), (v2_45k, zTb g t2_45k)] z_2 s H locs := hW
            refine lv_dup hx hb dL_lines_177 rfl ?_
            refine je_kv (rest := [.ref q96, .ref q36]) (je_runI (As := []) (rest := [.ref q96, .ref q36]) hx hb hml hown hts (kc_sb l g z_2 q96 [(q36, zSo g b39 ([] ++ t2_45k).length), (b39, zBb g c40 ([] ++ t2_45k)), (q2_45k, zTo g v2_45k), (v2_45k, zTb g t2_45k)]) ci_J4_init_da8c8 q_775 rfl rfl ⟨by rw [hRf]; exact (Nat.le_of_ble_eq_true rfl), by rw [hRl]; exact (Nat.le_of_ble_eq_true rfl)⟩ hW rfl hl.1 rfl (Nat.le_of_ble_eq_true rfl) dL_lines_178 ⟨(zc1 (D := 27) g32 (Nat.le_of_ble_eq_true rfl)), (zc1 (D := 303) g34 (Nat.le_of_ble_eq_true rfl))⟩) hW (fun b97 H locs h9 hW => ?_)
            have hW : zl_Wd g [(q96, zSo g b97 0), (b97, zBb g 16 []), (q36, zSo g b39 ([] ++ t2_45k).length), (b39, zBb g c40 ([] ++ t2_45k)), (q2_45k, zTo g v2_45k), (v2_45k, zTb g t2_45k)] z_2 s H locs := hW
            have hbd98 : zbd [] 16 := ⟨by decide, by decide⟩
            refine sw_ldcW hx hb hown (hW.2.2.2.2.2.2.2.2.2.1 13 (Nat.le_of_ble_eq_true rfl)).2.2.2.2 dL_lines_181 ?_
            have hk9 := h.1
            replace h := h.2
            refine je_kr (rest := [.ref q36]) (je_runV (i := 0) (As := [.ref (sw_sk g 13)]) (rest := [.ref q36]) hx hb hml hown hts (kd_appC l g z_2 q96 b97 16 [] 13 (Nat.le_of_ble_eq_true rfl) hbd98 hk9 [(q36, zSo g b39 ([] ++ t2_45k).length), (b39, zBb g c40 ([] ++ t2_45k)), (q2_45k, zTo g v2_45k), (v2_45k, zTb g t2_45k)]) cw_J4_append_15ec4 q_794 rfl rfl ⟨by rw [hRf]; exact (Nat.le_of_ble_eq_true rfl), by rw [hRl]; exact (Nat.le_of_ble_eq_true rfl)⟩ hW rfl rfl rfl hl.1 rfl (Nat.le_of_ble_eq_true rfl) dL_lines_184 ⟨(zc1 (D := 28) g32 (Nat.le_of_ble_eq_true rfl)), (zc1 (D := 431) g34 (Nat.le_of_ble_eq_true rfl))⟩) hW (fun u9 H locs h9 hW => ?_)
            clear hk9
            obtain ⟨b99, c100⟩ := u9
            have hbd101 : zbd ([] ++ zsb 13) c100 := h9
            show W _ _ _ _ _ _ _ _ _ _ _ _ _ _ _ (F0 m _ ls [.ref q96, .ref q36])
            have hW : zl_Wd g [(q96, zSo g b99 ([] ++ zsb 13).length), (b99, zBb g c100 ([] ++ zsb 13)), (q36, zSo g b39 ([] ++ t2_45k).length), (b39, zBb g c40 ([] ++ t2_45k)), (q2_45k, zTo g v2_45k), (v2_45k, zTb g t2_45k)] z_2 s H locs := hW
            refine lv_aload_n hx hb dL_lines_187 rfl (lv_at hl 0 rfl) ?_
            refine lv_iload_n hx hb dL_lines_188 rfl (lv_at hl 1 rfl) ?_
            refine zl_ki (g := g) (rest := [.ref q96, .ref q36]) (zl_runS (g := g) (As := [.ref (sw_ad g 0), .int x1_2]) (rest := [.ref q96, .ref q36]) hx hb hml hown hts (kL_median l hst (zl_re g H.size) x1_2 z_2 _ h) cs_L_median q_523 rfl rfl ⟨by rw [hRf]; exact (Nat.le_of_ble_eq_true rfl), by rw [hRl]; exact (Nat.le_of_ble_eq_true rfl)⟩ hW rfl hl.1 rfl (Nat.le_of_ble_eq_true rfl) dL_lines_189 ⟨(zc1 (D := 50) g32 (Nat.le_of_ble_eq_true rfl)), (zc1 (D := 566) g34 (Nat.le_of_ble_eq_true rfl))⟩) hW (fun r102 z9 H locs h hW => ?_)
            obtain ⟨h, e9⟩ := h
            rw [e9] at hW
            obtain ⟨n106, ⟨hn106, en106, hk9⟩, h⟩ := h
            rw [show Value.int r102 = Value.int (nI n106) from congrArg Value.int en106]
            refine je_kr (rest := [.ref q36]) (je_runV (i := 0) (As := [.int (nI n106)]) (rest := [.ref q36]) hx hb hml hown hts (kd_appi l g z_2 q96 b99 c100 ([] ++ zsb 13) n106 hn106 hbd101 hk9 [(q36, zSo g b39 ([] ++ t2_45k).length), (b39, zBb g c40 ([] ++ t2_45k)), (q2_45k, zTo g v2_45k), (v2_45k, zTb g t2_45k)]) cw_J4_append_bf812 q_919 rfl rfl ⟨by rw [hRf]; exact (Nat.le_of_ble_eq_true rfl), by rw [hRl]; exact (Nat.le_of_ble_eq_true rfl)⟩ hW rfl rfl rfl hl.1 rfl (Nat.le_of_ble_eq_true rfl) dL_lines_192 ⟨(zc1 (D := 51) g32 (Nat.le_of_ble_eq_true rfl)), (zc1 (D := 694) g34 (Nat.le_of_ble_eq_true rfl))⟩) hW (fun u9 H locs h9 hW => ?_)
            clear hk9
            obtain ⟨b103, c104⟩ := u9
            have hbd105 : zbd (([] ++ zsb 13) ++ zdec n106) c104 := h9
            show W _ _ _ _ _ _ _ _ _ _ _ _ _ _ _ (F0 m _ ls [.ref q96, .ref q36])
            have hW : zl_Wd g [(q96, zSo g b103 (([] ++ zsb 13) ++ zdec n106).length), (b103, zBb g c104 (([] ++ zsb 13) ++ zdec n106)), (q36, zSo g b39 ([] ++ t2_45k).length), (b39, zBb g c40 ([] ++ t2_45k)), (q2_45k, zTo g v2_45k), (v2_45k, zTb g t2_45k)] z_2 s H locs := hW
            have hk9 := h.1
            replace h := h.2
            refine je_kr (rest := [.ref q36]) (je_runV (i := 0) (As := []) (rest := [.ref q36]) hx hb hml hown hts (kd_str l g z_2 q96 b103 c104 (([] ++ zsb 13) ++ zdec n106) hk9 hbd105 [(q36, zSo g b39 ([] ++ t2_45k).length), (b39, zBb g c40 ([] ++ t2_45k)), (q2_45k, zTo g v2_45k), (v2_45k, zTb g t2_45k)]) cw_J4_toString_0e30d q_942 rfl rfl ⟨by rw [hRf]; exact (Nat.le_of_ble_eq_true rfl), by rw [hRl]; exact (Nat.le_of_ble_eq_true rfl)⟩ hW rfl rfl rfl hl.1 rfl (Nat.le_of_ble_eq_true rfl) dL_lines_195 ⟨(zc1 (D := 53) g32 (Nat.le_of_ble_eq_true rfl)), (zc1 (D := 762) g34 (Nat.le_of_ble_eq_true rfl))⟩) hW (fun u9 H locs h9 hW => ?_)
            clear hk9
            obtain ⟨v107, w108⟩ := u9
            show W _ _ _ _ _ _ _ _ _ _ _ _ _ _ _ (F0 m _ ls [.ref v107, .ref q36])
            have hW : zl_Wd g [(v107, zTo g w108), (w108, zTb g (([] ++ zsb 13) ++ zdec n106)), (q36, zSo g b39 ([] ++ t2_45k).length), (b39, zBb g c40 ([] ++ t2_45k)), (q2_45k, zTo g v2_45k), (v2_45k, zTb g t2_45k)] z_2 s H locs := hW
            refine lv_goto (tgt := 204) hx hb dL_lines_198 (by decide) ?_
            have hW := zl_sub (E' := [(q36, zSo g b39 ([] ++ t2_45k).length), (b39, zBb g c40 ([] ++ t2_45k)), (v107, zTo g w108), (w108, zTb g (([] ++ zsb 13) ++ zdec n106)), (q2_45k, zTo g v2_45k), (v2_45k, zTb g t2_45k)]) hW [2, 3, 0, 1, 4, 5] (by decide) rfl
            have hk9 := h.1
            replace h := h.2
            refine je_kr (rest := []) (je_runV (i := 0) (As := [.ref v107]) (rest := []) hx hb hml hown hts (kd_appD l g z_2 q36 b39 c40 ([] ++ t2_45k) 0 1 v107 w108 (([] ++ zsb 13) ++ zdec n106) hbd41 hk9 [(v107, zTo g w108), (w108, zTb g (([] ++ zsb 13) ++ zdec n106)), (q2_45k, zTo g v2_45k), (v2_45k, zTb g t2_45k)] rfl rfl) cw_J4_append_15ec4 q_794 rfl rfl ⟨by rw [hRf]; exact (Nat.le_of_ble_eq_true rfl), by rw [hRl]; exact (Nat.le_of_ble_eq_true rfl)⟩ hW rfl rfl rfl hl.1 rfl (Nat.le_of_ble_eq_true rfl) dL_lines_204 ⟨(zc1 (D := 54) g32 (Nat.le_of_ble_eq_true rfl)), (zc1 (D := 890) g34 (Nat.le_of_ble_eq_true rfl))⟩) hW (fun u9 H locs h9 hW => ?_)
            clear hk9
            obtain ⟨b109, c110⟩ := u9
            have hbd111 : zbd (([] ++ t2_45k) ++ (([] ++ zsb 13) ++ zdec n106)) c110 := h9
            show W _ _ _ _ _ _ _ _ _ _ _ _ _ _ _ (F0 m _ ls [.ref q36])
            have hW : zl_Wd g [(q36, zSo g b109 (([] ++ t2_45k) ++ (([] ++ zsb 13) ++ zdec n106)).length), (b109, zBb g c110 (([] ++ t2_45k) ++ (([] ++ zsb 13) ++ zdec n106))), (v107, zTo g w108), (w108, zTb g (([] ++ zsb 13) ++ zdec n106)), (q2_45k, zTo g v2_45k), (v2_45k, zTb g t2_45k)] z_2 s H locs := hW
            have hk9 := h.1
            replace h := h.2
            refine je_kr (rest := []) (je_runV (i := 0) (As := []) (rest := []) hx hb hml hown hts (kd_str l g z_2 q36 b109 c110 (([] ++ t2_45k) ++ (([] ++ zsb 13) ++ zdec n106)) hk9 hbd111 [(v107, zTo g w108), (w108, zTb g (([] ++ zsb 13) ++ zdec n106)), (q2_45k, zTo g v2_45k), (v2_45k, zTb g t2_45k)]) cw_J4_toString_0e30d q_942 rfl rfl ⟨by rw [hRf]; exact (Nat.le_of_ble_eq_true rfl), by rw [hRl]; exact (Nat.le_of_ble_eq_true rfl)⟩ hW rfl rfl rfl hl.1 rfl (Nat.le_of_ble_eq_true rfl) dL_lines_207 ⟨(zc1 (D := 56) g32 (Nat.le_of_ble_eq_true rfl)), (zc1 (D := 958) g34 (Nat.le_of_ble_eq_true rfl))⟩) hW (fun u9 H locs h9 hW => ?_)
            clear hk9
            obtain ⟨v112, w113⟩ := u9
            show W _ _ _ _ _ _ _ _ _ _ _ _ _ _ _ (F0 m _ ls [.ref v112])
            have hW : zl_Wd g [(v112, zTo g w113), (w113, zTb g (([] ++ t2_45k) ++ (([] ++ zsb 13) ++ zdec n106))), (v107, zTo g w108), (w108, zTb g (([] ++ zsb 13) ++ zdec n106)), (q2_45k, zTo g v2_45k), (v2_45k, zTb g t2_45k)] z_2 s H locs := hW
            refine lv_astore_n (lv' := [(2, .ref v112), (0, .ref (sw_ad g 0)), (1, .int x1_2)]) hx hb dL_lines_210 rfl hl (Nat.le_of_ble_eq_true rfl) rfl (fun ls hl => ?_)
            have hW := zl_sub (E' := [(v112, zTo g w113), (w113, zTb g (([] ++ t2_45k) ++ (([] ++ zsb 13) ++ zdec n106)))]) hW [0, 1] (by decide) rfl
            exact hJ211 (([] ++ t2_45k) ++ (([] ++ zsb 13) ++ zdec n106)) v112 w113 _ _ _ _ _ h (zc1 (D := 56) g88 (Nat.le_of_ble_eq_true rfl)) (zc1 (D := 958) g89 (Nat.le_of_ble_eq_true rfl)) hW (lv_sub hl [1, 2, 0] rfl)
        have key45 : ∀ (n45 : Nat) (t2_45 : List Nat) (x3_45 : Int32) (q2_45 : Nat) (v2_45 : Nat) (H : Heap) (locs : List Loc) (ls : Array Slot) (cn45 sn45 : Nat), lL_lines_45 x1_2 z_2 (fun t2_45k => ztx ([] ++ t2_45k) ∧ (wL_median x1_2  z_2 (fun r42 => (r42 < 0 → (ztx (([] ++ t2_45k) ++ (zsb 10)) ∧ (ztx (([] ++ t2_45k) ++ zsb 10) ∧ (jL_lines_211 x1_2 z_2 Q (fun x1_2 z_2 => lL_lines_2 Q (fun z_2k => ∀ zp3 : zG, zp3 = (s_writeDoor z_2k ((nI (z_2k.1 0)))).2.2 → (((zv (s_writeDoor z_2k ((nI (z_2k.1 0)))) [(-11)]) = (-11 : Int32) → (∀ zp5 : zG, zp5 = (s_writeDoor zp3 ((-1 : Int32))).2.2 → (((zv (s_writeDoor zp3 ((-1 : Int32))) [(-11)]) = (-11 : Int32) → (∀ zp7 : zG, zp7 = (s_writeExaminer zp5 ((nI (zp5.1 1)))).2.2 → (((zv (s_writeExaminer zp5 ((nI (zp5.1 1)))) [(-11)]) = (-11 : Int32) → (Q (1 : Int32) zp7)) ∧ (¬ (zv (s_writeExaminer zp5 ((nI (zp5.1 1)))) [(-11)]) = (-11 : Int32) → (Q (0 : Int32) zp7))))) ∧ (¬ (zv (s_writeDoor zp3 ((-1 : Int32))) [(-11)]) = (-11 : Int32) → (Q (0 : Int32) zp5))))) ∧ (¬ (zv (s_writeDoor z_2k ((nI (z_2k.1 0)))) [(-11)]) = (-11 : Int32) → (Q (0 : Int32) zp3)))) n2 x1_2 z_2) (([] ++ t2_45k) ++ zsb 10))))) ∧ (¬ r42 < 0 → (ztx ([] ++ (zsb 13)) ∧ (wL_median x1_2  z_2 (fun r102 => ∃ n106 : Nat, (n106 < 100 ∧ r102 = nI n106 ∧ ztx (([] ++ zsb 13) ++ zdec n106)) ∧ (ztx (([] ++ zsb 13) ++ zdec n106) ∧ (ztx (([] ++ t2_45k) ++ (([] ++ zsb 13) ++ zdec n106)) ∧ (ztx (([] ++ t2_45k) ++ (([] ++ zsb 13) ++ zdec n106)) ∧ (jL_lines_211 x1_2 z_2 Q (fun x1_2 z_2 => lL_lines_2 Q (fun z_2k => ∀ zp3 : zG, zp3 = (s_writeDoor z_2k ((nI (z_2k.1 0)))).2.2 → (((zv (s_writeDoor z_2k ((nI (z_2k.1 0)))) [(-11)]) = (-11 : Int32) → (∀ zp5 : zG, zp5 = (s_writeDoor zp3 ((-1 : Int32))).2.2 → (((zv (s_writeDoor zp3 ((-1 : Int32))) [(-11)]) = (-11 : Int32) → (∀ zp7 : zG, zp7 = (s_writeExaminer zp5 ((nI (zp5.1 1)))).2.2 → (((zv (s_writeExaminer zp5 ((nI (zp5.1 1)))) [(-11)]) = (-11 : Int32) → (Q (1 : Int32) zp7)) ∧ (¬ (zv (s_writeExaminer zp5 ((nI (zp5.1 1)))) [(-11)]) = (-11 : Int32) → (Q (0 : Int32) zp7))))) ∧ (¬ (zv (s_writeDoor zp3 ((-1 : Int32))) [(-11)]) = (-11 : Int32) → (Q (0 : Int32) zp5))))) ∧ (¬ (zv (s_writeDoor z_2k ((nI (z_2k.1 0)))) [(-11)]) = (-11 : Int32) → (Q (0 : Int32) zp3)))) n2 x1_2 z_2) (([] ++ t2_45k) ++ (([] ++ zsb 13) ++ zdec n106))))))))))))) n45 t2_45 x3_45 → cn45 + n45 * 24 ≤ CL45 → sn45 + n45 * 1190 ≤ SL45 → zl_Wd g [(q2_45, zTo g v2_45), (v2_45, zTb g t2_45)] z_2 s H locs → lv_has ls 5 [(0, .ref (sw_ad g 0)), (1, .int x1_2), (2, .ref q2_45), (3, .int x3_45)] → W p l e R s m args below meth c H locs cn45 sn45 Q0 (F0 m 45 ls []) := by
          intro n45
          induction n45 with
          | zero =>
            intro t2_45 x3_45 q2_45 v2_45 H locs ls cn45 sn45 h
            exact False.elim h
          | succ n45 ih45 =>
            intro t2_45 x3_45 q2_45 v2_45 H locs ls cn45 sn45 h hcn45 hsn45 hW hl
            rw [lL_lines_45.eq_2] at h
            obtain ⟨Tcn45, hTcn45⟩ : ∃ n : Nat, n = cn45 + 24 := ⟨_, rfl⟩
            obtain ⟨Tsn45, hTsn45⟩ : ∃ n : Nat, n = sn45 + 1190 := ⟨_, rfl⟩
            have g114 : cn45 + 24 ≤ Tcn45 := Nat.le_of_eq hTcn45.symm
            have g115 : sn45 + 1190 ≤ Tsn45 := Nat.le_of_eq hTsn45.symm
            have g116 : cn45 + 222 ≤ R.cells := zc9 (x := cn2) (D := 177) (s := 375) (t := 222) hcn45 hCL45 g11 (Nat.le_of_ble_eq_true rfl)
            have g117 : sn45 + 5772 ≤ R.slots := zc9 (x := sn2) (D := 8814) (s := 13396) (t := 5772) hsn45 hSL45 g12 (Nat.le_of_ble_eq_true rfl)
            refine lv_iload_n hx hb dL_lines_45 rfl (lv_at hl 3 rfl) ?_
            refine lv_aload_n hx hb dL_lines_46 rfl (lv_at hl 0 rfl) ?_
            refine zl_ki (g := g) (rest := [.int x3_45]) (zl_runV (g := g) (As := []) (rest := [.int x3_45]) hx hb hml hown hts (zD_examinerCount l (zl_re g H.size) z_2) cv_X6_examinerCount q_491 rfl rfl ⟨by rw [hRf]; exact (Nat.le_of_ble_eq_true rfl), by rw [hRl]; exact (Nat.le_of_ble_eq_true rfl)⟩ hW (Or.inl (Nat.le_of_ble_eq_true rfl)) sl_0 rfl rfl hl.1 rfl (Nat.le_of_ble_eq_true rfl) dL_lines_47 ⟨(zc1 (D := 0) g116 (Nat.le_of_ble_eq_true rfl)), (zc1 (D := 0) g117 (Nat.le_of_ble_eq_true rfl))⟩) hW (fun r9 z9 H locs h9 hW => ?_)
            obtain ⟨rfl, e9⟩ := h9
            rw [e9] at hW
            refine lv_icmp_ge (tgt := 155) hx hb dL_lines_50 (by decide) (fun k118 => ?_) (fun k118 => ?_)
            · replace h := h.1 k118
              exact hX45 t2_45 _ _ _ _ _ _ _ h (zc11 (zc1 (D := 0) g114 (Nat.le_of_ble_eq_true rfl)) hTcn45 hcn45) (zc11 (zc1 (D := 0) g115 (Nat.le_of_ble_eq_true rfl)) hTsn45 hsn45) hW (lv_sub hl [0, 1, 2] rfl)
            · replace h := h.2 k118
              refine lv_aload_n hx hb dL_lines_53 rfl (lv_at hl 0 rfl) ?_
              refine lv_iload_n hx hb dL_lines_54 rfl (lv_at hl 3 rfl) ?_
              refine lv_iload_n hx hb dL_lines_55 rfl (lv_at hl 1 rfl) ?_
              refine zl_ki (g := g) (rest := []) (zl_runH (g := g) (As := [.ref (sw_ad g 0), .int x3_45, .int x1_2]) (rest := []) hx hb hml hown hts (kL_gradeBy l hst (zl_re g H.size) z_2 x3_45 x1_2) ch_L_gradeBy q_513 rfl rfl ⟨by rw [hRf]; exact (Nat.le_of_ble_eq_true rfl), by rw [hRl]; exact (Nat.le_of_ble_eq_true rfl)⟩ hW rfl hl.1 rfl (Nat.le_of_ble_eq_true rfl) dL_lines_56 ⟨(zc1 (D := 3) g116 (Nat.le_of_ble_eq_true rfl)), (zc1 (D := 18) g117 (Nat.le_of_ble_eq_true rfl))⟩) hW (fun r9 z9 H locs h9 hW => ?_)
              obtain ⟨rfl, e9⟩ := h9
              rw [e9, s_gradeBy_z] at hW
              refine lv_topi (fun v119 ev119 => ?_)
              replace h := h v119 ev119
              refine lv_istore (lv' := [(4, .int v119), (0, .ref (sw_ad g 0)), (1, .int x1_2), (2, .ref q2_45), (3, .int x3_45)]) hx hb dL_lines_59 hl (Nat.le_of_ble_eq_true rfl) rfl (fun ls hl => ?_)
              refine je_new (ci := 8) hx hb hts hown qf_B tyJ4 tyJ4_ok rfl q_773 q_774 q_24 hW (fs := [.null, .int 0, .int 0, .int 0]) (by intro j hj; have h9 : j = 0 ∨ j = 1 ∨ j = 2 ∨ j = 3 := (by omega); rcases h9 with rfl | rfl | rfl | rfl <;> rfl) (zc1 (D := 4) g116 (Nat.le_of_ble_eq_true rfl)) (zc1 (D := 22) g117 (Nat.le_of_ble_eq_true rfl)) dL_lines_61 (fun q120 H hW => ?_)
              replace hW := je_mv0 (E1 := [(q2_45, zTo g v2_45), (v2_45, zTb g t2_45)]) hW
              have hW : zl_Wd g [(q120, .inr (8, [.null, .int 0, .int 0, .int 0])), (q2_45, zTo g v2_45), (v2_45, zTb g t2_45)] z_2 s H locs := hW
              refine lv_dup hx hb dL_lines_64 rfl ?_
              refine je_kv (rest := [.ref q120]) (je_runI (As := []) (rest := [.ref q120]) hx hb hml hown hts (kc_sb l g z_2 q120 [(q2_45, zTo g v2_45), (v2_45, zTb g t2_45)]) ci_J4_init_da8c8 q_775 rfl rfl ⟨by rw [hRf]; exact (Nat.le_of_ble_eq_true rfl), by rw [hRl]; exact (Nat.le_of_ble_eq_true rfl)⟩ hW rfl hl.1 rfl (Nat.le_of_ble_eq_true rfl) dL_lines_65 ⟨(zc1 (D := 5) g116 (Nat.le_of_ble_eq_true rfl)), (zc1 (D := 38) g117 (Nat.le_of_ble_eq_true rfl))⟩) hW (fun b121 H locs h9 hW => ?_)
              have hW : zl_Wd g [(q120, zSo g b121 0), (b121, zBb g 16 []), (q2_45, zTo g v2_45), (v2_45, zTb g t2_45)] z_2 s H locs := hW
              have hbd122 : zbd [] 16 := ⟨by decide, by decide⟩
              refine lv_aload_n hx hb dL_lines_68 rfl (lv_at hl 3 rfl) ?_
              have hk9 := h.1
              replace h := h.2
              refine je_kr (rest := []) (je_runV (i := 0) (As := [.ref q2_45]) (rest := []) hx hb hml hown hts (kd_appD l g z_2 q120 b121 16 [] 0 1 q2_45 v2_45 t2_45 hbd122 hk9 [(q2_45, zTo g v2_45), (v2_45, zTb g t2_45)] rfl rfl) cw_J4_append_15ec4 q_794 rfl rfl ⟨by rw [hRf]; exact (Nat.le_of_ble_eq_true rfl), by rw [hRl]; exact (Nat.le_of_ble_eq_true rfl)⟩ hW rfl rfl rfl hl.1 rfl (Nat.le_of_ble_eq_true rfl) dL_lines_69 ⟨(zc1 (D := 6) g116 (Nat.le_of_ble_eq_true rfl)), (zc1 (D := 166) g117 (Nat.le_of_ble_eq_true rfl))⟩) hW (fun u9 H locs h9 hW => ?_)
              clear hk9
              obtain ⟨b123, c124⟩ := u9
              have hbd125 : zbd ([] ++ t2_45) c124 := h9
              show W _ _ _ _ _ _ _ _ _ _ _ _ _ _ _ (F0 m _ ls [.ref q120])
              have hW : zl_Wd g [(q120, zSo g b123 ([] ++ t2_45).length), (b123, zBb g c124 ([] ++ t2_45)), (q2_45, zTo g v2_45), (v2_45, zTb g t2_45)] z_2 s H locs := hW
              refine lv_aload_n hx hb dL_lines_72 rfl (lv_at hl 1 rfl) ?_
              refine lv_iload_n hx hb dL_lines_73 rfl (lv_at hl 4 rfl) ?_
              refine lv_iload_n hx hb dL_lines_74 rfl (lv_at hl 2 rfl) ?_
              have y126 := h.1
              replace h := h.2
              refine zl_ki (g := g) (rest := [.ref q120]) (zl_runV (g := g) (As := [.int x3_45, .int x1_2]) (rest := [.ref q120]) hx hb hml hown hts (zD_isAssigned l hst (zl_re g H.size) z_2 x3_45 x1_2 y126) cv_X6_isAssigned q_497 rfl rfl ⟨by rw [hRf]; exact (Nat.le_of_ble_eq_true rfl), by rw [hRl]; exact (Nat.le_of_ble_eq_true rfl)⟩ hW (Or.inl (Nat.le_of_ble_eq_true rfl)) sl_0 rfl rfl hl.1 rfl (Nat.le_of_ble_eq_true rfl) dL_lines_75 ⟨(zc1 (D := 8) g116 (Nat.le_of_ble_eq_true rfl)), (zc1 (D := 178) g117 (Nat.le_of_ble_eq_true rfl))⟩) hW (fun r9 z9 H locs h9 hW => ?_)
              clear y126
              obtain ⟨rfl, e9⟩ := h9
              rw [e9, s_isAssigned_z] at hW
              refine lv_if_eq (tgt := 104) hx hb dL_lines_78 (by decide) (fun k127 => ?_) (fun k127 => ?_)
              · replace h := h.1 k127
                refine sw_ldcW hx hb hown (hW.2.2.2.2.2.2.2.2.2.1 10 (Nat.le_of_ble_eq_true rfl)).2.2.2.2 dL_lines_104 ?_
                have hk9 := h.1
                replace h := h.2
                refine je_kr (rest := []) (je_runV (i := 0) (As := [.ref (sw_sk g 10)]) (rest := []) hx hb hml hown hts (kd_appC l g z_2 q120 b123 c124 ([] ++ t2_45) 10 (Nat.le_of_ble_eq_true rfl) hbd125 hk9 [(q2_45, zTo g v2_45), (v2_45, zTb g t2_45)]) cw_J4_append_15ec4 q_794 rfl rfl ⟨by rw [hRf]; exact (Nat.le_of_ble_eq_true rfl), by rw [hRl]; exact (Nat.le_of_ble_eq_true rfl)⟩ hW rfl rfl rfl hl.1 rfl (Nat.le_of_ble_eq_true rfl) dL_lines_107 ⟨(zc1 (D := 9) g116 (Nat.le_of_ble_eq_true rfl)), (zc1 (D := 306) g117 (Nat.le_of_ble_eq_true rfl))⟩) hW (fun u9 H locs h9 hW => ?_)
                clear hk9
                obtain ⟨b128, c129⟩ := u9
                have hbd130 : zbd (([] ++ t2_45) ++ zsb 10) c129 := h9
                show W _ _ _ _ _ _ _ _ _ _ _ _ _ _ _ (F0 m _ ls [.ref q120])
                have hW : zl_Wd g [(q120, zSo g b128 (([] ++ t2_45) ++ zsb 10).length), (b128, zBb g c129 (([] ++ t2_45) ++ zsb 10)), (q2_45, zTo g v2_45), (v2_45, zTb g t2_45)] z_2 s H locs := hW
                refine lv_iload hx hb dL_lines_110 (lv_at hl 0 rfl) ?_
                refine lv_if_lt (tgt := 139) hx hb dL_lines_112 (by decide) (fun k131 => ?_) (fun k131 => ?_)
                · replace h := h.1 k131
                  refine sw_ldcW hx hb hown (hW.2.2.2.2.2.2.2.2.2.1 10 (Nat.le_of_ble_eq_true rfl)).2.2.2.2 dL_lines_139 ?_
                  have hk9 := h.1
                  replace h := h.2
                  refine je_kr (rest := []) (je_runV (i := 0) (As := [.ref (sw_sk g 10)]) (rest := []) hx hb hml hown hts (kd_appC l g z_2 q120 b128 c129 (([] ++ t2_45) ++ zsb 10) 10 (Nat.le_of_ble_eq_true rfl) hbd130 hk9 [(q2_45, zTo g v2_45), (v2_45, zTb g t2_45)]) cw_J4_append_15ec4 q_794 rfl rfl ⟨by rw [hRf]; exact (Nat.le_of_ble_eq_true rfl), by rw [hRl]; exact (Nat.le_of_ble_eq_true rfl)⟩ hW rfl rfl rfl hl.1 rfl (Nat.le_of_ble_eq_true rfl) dL_lines_142 ⟨(zc1 (D := 10) g116 (Nat.le_of_ble_eq_true rfl)), (zc1 (D := 434) g117 (Nat.le_of_ble_eq_true rfl))⟩) hW (fun u9 H locs h9 hW => ?_)
                  clear hk9
                  obtain ⟨b132, c133⟩ := u9
                  have hbd134 : zbd ((([] ++ t2_45) ++ zsb 10) ++ zsb 10) c133 := h9
                  show W _ _ _ _ _ _ _ _ _ _ _ _ _ _ _ (F0 m _ ls [.ref q120])
                  have hW : zl_Wd g [(q120, zSo g b132 ((([] ++ t2_45) ++ zsb 10) ++ zsb 10).length), (b132, zBb g c133 ((([] ++ t2_45) ++ zsb 10) ++ zsb 10)), (q2_45, zTo g v2_45), (v2_45, zTb g t2_45)] z_2 s H locs := hW
                  have hk9 := h.1
                  replace h := h.2
                  refine je_kr (rest := []) (je_runV (i := 0) (As := []) (rest := []) hx hb hml hown hts (kd_str l g z_2 q120 b132 c133 ((([] ++ t2_45) ++ zsb 10) ++ zsb 10) hk9 hbd134 [(q2_45, zTo g v2_45), (v2_45, zTb g t2_45)]) cw_J4_toString_0e30d q_942 rfl rfl ⟨by rw [hRf]; exact (Nat.le_of_ble_eq_true rfl), by rw [hRl]; exact (Nat.le_of_ble_eq_true rfl)⟩ hW rfl rfl rfl hl.1 rfl (Nat.le_of_ble_eq_true rfl) dL_lines_145 ⟨(zc1 (D := 12) g116 (Nat.le_of_ble_eq_true rfl)), (zc1 (D := 502) g117 (Nat.le_of_ble_eq_true rfl))⟩) hW (fun u9 H locs h9 hW => ?_)
                  clear hk9
                  obtain ⟨v135, w136⟩ := u9
                  show W _ _ _ _ _ _ _ _ _ _ _ _ _ _ _ (F0 m _ ls [.ref v135])
                  have hW : zl_Wd g [(v135, zTo g w136), (w136, zTb g ((([] ++ t2_45) ++ zsb 10) ++ zsb 10)), (q2_45, zTo g v2_45), (v2_45, zTb g t2_45)] z_2 s H locs := hW
                  refine lv_astore_n (lv' := [(2, .ref v135), (4, .int v119), (0, .ref (sw_ad g 0)), (1, .int x1_2), (3, .int x3_45)]) hx hb dL_lines_148 rfl hl (Nat.le_of_ble_eq_true rfl) rfl (fun ls hl => ?_)
                  obtain ⟨v137, ev137⟩ : ∃ z : Int32, z = x3_45 + (1 : Int32) := ⟨_, rfl⟩
                  replace h := h v137 ev137
                  refine lv_iinc (v := v137) (lv' := [(3, .int v137), (2, .ref v135), (4, .int v119), (0, .ref (sw_ad g 0)), (1, .int x1_2)]) hx hb dL_lines_149 hl (k := 4) rfl (by rw [ev137]; rfl) (Nat.le_of_ble_eq_true rfl) rfl (fun ls hl => ?_)
                  refine lv_goto (tgt := 45) hx hb dL_lines_152 (by decide) ?_
                  have hW := zl_sub (E' := [(v135, zTo g w136), (w136, zTb g ((([] ++ t2_45) ++ zsb 10) ++ zsb 10))]) hW [0, 1] (by decide) rfl
                  exact ih45 ((([] ++ t2_45) ++ zsb 10) ++ zsb 10) v137 _ _ _ _ _ _ _ h (zc10 (zc1 (D := 12) g114 (Nat.le_of_ble_eq_true rfl)) hTcn45 hcn45) (zc10 (zc1 (D := 502) g115 (Nat.le_of_ble_eq_true rfl)) hTsn45 hsn45) hW (lv_sub hl [3, 4, 1, 0] rfl)
                · replace h := h.2 k131
                  refine je_new (ci := 8) hx hb hts hown qf_B tyJ4 tyJ4_ok rfl q_773 q_774 q_24 hW (fs := [.null, .int 0, .int 0, .int 0]) (by intro j hj; have h9 : j = 0 ∨ j = 1 ∨ j = 2 ∨ j = 3 := (by omega); rcases h9 with rfl | rfl | rfl | rfl <;> rfl) (zc1 (D := 10) g116 (Nat.le_of_ble_eq_true rfl)) (zc1 (D := 310) g117 (Nat.le_of_ble_eq_true rfl)) dL_lines_115 (fun q138 H hW => ?_)
                  replace hW := je_mv0 (E1 := [(q120, zSo g b128 (([] ++ t2_45) ++ zsb 10).length), (b128, zBb g c129 (([] ++ t2_45) ++ zsb 10)), (q2_45, zTo g v2_45), (v2_45, zTb g t2_45)]) hW
                  have hW : zl_Wd g [(q138, .inr (8, [.null, .int 0, .int 0, .int 0])), (q120, zSo g b128 (([] ++ t2_45) ++ zsb 10).length), (b128, zBb g c129 (([] ++ t2_45) ++ zsb 10)), (q2_45, zTo g v2_45), (v2_45, zTb g t2_45)] z_2 s H locs := hW
                  refine lv_dup hx hb dL_lines_118 rfl ?_
                  refine je_kv (rest := [.ref q138, .ref q120]) (je_runI (As := []) (rest := [.ref q138, .ref q120]) hx hb hml hown hts (kc_sb l g z_2 q138 [(q120, zSo g b128 (([] ++ t2_45) ++ zsb 10).length), (b128, zBb g c129 (([] ++ t2_45) ++ zsb 10)), (q2_45, zTo g v2_45), (v2_45, zTb g t2_45)]) ci_J4_init_da8c8 q_775 rfl rfl ⟨by rw [hRf]; exact (Nat.le_of_ble_eq_true rfl), by rw [hRl]; exact (Nat.le_of_ble_eq_true rfl)⟩ hW rfl hl.1 rfl (Nat.le_of_ble_eq_true rfl) dL_lines_119 ⟨(zc1 (D := 11) g116 (Nat.le_of_ble_eq_true rfl)), (zc1 (D := 326) g117 (Nat.le_of_ble_eq_true rfl))⟩) hW (fun b139 H locs h9 hW => ?_)
                  have hW : zl_Wd g [(q138, zSo g b139 0), (b139, zBb g 16 []), (q120, zSo g b128 (([] ++ t2_45) ++ zsb 10).length), (b128, zBb g c129 (([] ++ t2_45) ++ zsb 10)), (q2_45, zTo g v2_45), (v2_45, zTb g t2_45)] z_2 s H locs := hW
                  have hbd140 : zbd [] 16 := ⟨by decide, by decide⟩
                  refine sw_ldcW hx hb hown (hW.2.2.2.2.2.2.2.2.2.1 12 (Nat.le_of_ble_eq_true rfl)).2.2.2.2 dL_lines_122 ?_
                  have hk9 := h.1
                  replace h := h.2
                  refine je_kr (rest := [.ref q120]) (je_runV (i := 0) (As := [.ref (sw_sk g 12)]) (rest := [.ref q120]) hx hb hml hown hts (kd_appC l g z_2 q138 b139 16 [] 12 (Nat.le_of_ble_eq_true rfl) hbd140 hk9 [(q120, zSo g b128 (([] ++ t2_45) ++ zsb 10).length), (b128, zBb g c129 (([] ++ t2_45) ++ zsb 10)), (q2_45, zTo g v2_45), (v2_45, zTb g t2_45)]) cw_J4_append_15ec4 q_794 rfl rfl ⟨by rw [hRf]; exact (Nat.le_of_ble_eq_true rfl), by rw [hRl]; exact (Nat.le_of_ble_eq_true rfl)⟩ hW rfl rfl rfl hl.1 rfl (Nat.le_of_ble_eq_true rfl) dL_lines_125 ⟨(zc1 (D := 12) g116 (Nat.le_of_ble_eq_true rfl)), (zc1 (D := 454) g117 (Nat.le_of_ble_eq_true rfl))⟩) hW (fun u9 H locs h9 hW => ?_)
                  clear hk9
                  obtain ⟨b141, c142⟩ := u9
                  have hbd143 : zbd ([] ++ zsb 12) c142 := h9
                  show W _ _ _ _ _ _ _ _ _ _ _ _ _ _ _ (F0 m _ ls [.ref q138, .ref q120])
                  have hW : zl_Wd g [(q138, zSo g b141 ([] ++ zsb 12).length), (b141, zBb g c142 ([] ++ zsb 12)), (q120, zSo g b128 (([] ++ t2_45) ++ zsb 10).length), (b128, zBb g c129 (([] ++ t2_45) ++ zsb 10)), (q2_45, zTo g v2_45), (v2_45, zTb g t2_45)] z_2 s H locs := hW
                  refine lv_iload hx hb dL_lines_128 (lv_at hl 0 rfl) ?_
                  obtain ⟨n147, ⟨hn147, en147, hk9⟩, h⟩ := h
                  rw [show Value.int v119 = Value.int (nI n147) from congrArg Value.int en147]
                  refine je_kr (rest := [.ref q120]) (je_runV (i := 0) (As := [.int (nI n147)]) (rest := [.ref q120]) hx hb hml hown hts (kd_appi l g z_2 q138 b141 c142 ([] ++ zsb 12) n147 hn147 hbd143 hk9 [(q120, zSo g b128 (([] ++ t2_45) ++ zsb 10).length), (b128, zBb g c129 (([] ++ t2_45) ++ zsb 10)), (q2_45, zTo g v2_45), (v2_45, zTb g t2_45)]) cw_J4_append_bf812 q_919 rfl rfl ⟨by rw [hRf]; exact (Nat.le_of_ble_eq_true rfl), by rw [hRl]; exact (Nat.le_of_ble_eq_true rfl)⟩ hW rfl rfl rfl hl.1 rfl (Nat.le_of_ble_eq_true rfl) dL_lines_130 ⟨(zc1 (D := 13) g116 (Nat.le_of_ble_eq_true rfl)), (zc1 (D := 582) g117 (Nat.le_of_ble_eq_true rfl))⟩) hW (fun u9 H locs h9 hW => ?_)
                  clear hk9
                  obtain ⟨b144, c145⟩ := u9
                  have hbd146 : zbd (([] ++ zsb 12) ++ zdec n147) c145 := h9
                  show W _ _ _ _ _ _ _ _ _ _ _ _ _ _ _ (F0 m _ ls [.ref q138, .ref q120])
                  have hW : zl_Wd g [(q138, zSo g b144 (([] ++ zsb 12) ++ zdec n147).length), (b144, zBb g c145 (([] ++ zsb 12) ++ zdec n147)), (q120, zSo g b128 (([] ++ t2_45) ++ zsb 10).length), (b128, zBb g c129 (([] ++ t2_45) ++ zsb 10)), (q2_45, zTo g v2_45), (v2_45, zTb g t2_45)] z_2 s H locs := hW
                  have hk9 := h.1
                  replace h := h.2
                  refine je_kr (rest := [.ref q120]) (je_runV (i := 0) (As := []) (rest := [.ref q120]) hx hb hml hown hts (kd_str l g z_2 q138 b144 c145 (([] ++ zsb 12) ++ zdec n147) hk9 hbd146 [(q120, zSo g b128 (([] ++ t2_45) ++ zsb 10).length), (b128, zBb g c129 (([] ++ t2_45) ++ zsb 10)), (q2_45, zTo g v2_45), (v2_45, zTb g t2_45)]) cw_J4_toString_0e30d q_942 rfl rfl ⟨by rw [hRf]; exact (Nat.le_of_ble_eq_true rfl), by rw [hRl]; exact (Nat.le_of_ble_eq_true rfl)⟩ hW rfl rfl rfl hl.1 rfl (Nat.le_of_ble_eq_true rfl) dL_lines_133 ⟨(zc1 (D := 15) g116 (Nat.le_of_ble_eq_true rfl)), (zc1 (D := 650) g117 (Nat.le_of_ble_eq_true rfl))⟩) hW (fun u9 H locs h9 hW => ?_)
                  clear hk9
                  obtain ⟨v148, w149⟩ := u9
                  show W _ _ _ _ _ _ _ _ _ _ _ _ _ _ _ (F0 m _ ls [.ref v148, .ref q120])
                  have hW : zl_Wd g [(v148, zTo g w149), (w149, zTb g (([] ++ zsb 12) ++ zdec n147)), (q120, zSo g b128 (([] ++ t2_45) ++ zsb 10).length), (b128, zBb g c129 (([] ++ t2_45) ++ zsb 10)), (q2_45, zTo g v2_45), (v2_45, zTb g t2_45)] z_2 s H locs := hW
                  refine lv_goto (tgt := 142) hx hb dL_lines_136 (by decide) ?_
                  have hW := zl_sub (E' := [(q120, zSo g b128 (([] ++ t2_45) ++ zsb 10).length), (b128, zBb g c129 (([] ++ t2_45) ++ zsb 10)), (v148, zTo g w149), (w149, zTb g (([] ++ zsb 12) ++ zdec n147)), (q2_45, zTo g v2_45), (v2_45, zTb g t2_45)]) hW [2, 3, 0, 1, 4, 5] (by decide) rfl
                  have hk9 := h.1
                  replace h := h.2
                  refine je_kr (rest := []) (je_runV (i := 0) (As := [.ref v148]) (rest := []) hx hb hml hown hts (kd_appD l g z_2 q120 b128 c129 (([] ++ t2_45) ++ zsb 10) 0 1 v148 w149 (([] ++ zsb 12) ++ zdec n147) hbd130 hk9 [(v148, zTo g w149), (w149, zTb g (([] ++ zsb 12) ++ zdec n147)), (q2_45, zTo g v2_45), (v2_45, zTb g t2_45)] rfl rfl) cw_J4_append_15ec4 q_794 rfl rfl ⟨by rw [hRf]; exact (Nat.le_of_ble_eq_true rfl), by rw [hRl]; exact (Nat.le_of_ble_eq_true rfl)⟩ hW rfl rfl rfl hl.1 rfl (Nat.le_of_ble_eq_true rfl) dL_lines_142 ⟨(zc1 (D := 16) g116 (Nat.le_of_ble_eq_true rfl)), (zc1 (D := 778) g117 (Nat.le_of_ble_eq_true rfl))⟩) hW (fun u9 H locs h9 hW => ?_)
                  clear hk9
                  obtain ⟨b150, c151⟩ := u9
                  have hbd152 : zbd ((([] ++ t2_45) ++ zsb 10) ++ (([] ++ zsb 12) ++ zdec n147)) c151 := h9
                  show W _ _ _ _ _ _ _ _ _ _ _ _ _ _ _ (F0 m _ ls [.ref q120])
                  have hW : zl_Wd g [(q120, zSo g b150 ((([] ++ t2_45) ++ zsb 10) ++ (([] ++ zsb 12) ++ zdec n147)).length), (b150, zBb g c151 ((([] ++ t2_45) ++ zsb 10) ++ (([] ++ zsb 12) ++ zdec n147))), (v148, zTo g w149), (w149, zTb g (([] ++ zsb 12) ++ zdec n147)), (q2_45, zTo g v2_45), (v2_45, zTb g t2_45)] z_2 s H locs := hW
                  have hk9 := h.1
                  replace h := h.2
                  refine je_kr (rest := []) (je_runV (i := 0) (As := []) (rest := []) hx hb hml hown hts (kd_str l g z_2 q120 b150 c151 ((([] ++ t2_45) ++ zsb 10) ++ (([] ++ zsb 12) ++ zdec n147)) hk9 hbd152 [(v148, zTo g w149), (w149, zTb g (([] ++ zsb 12) ++ zdec n147)), (q2_45, zTo g v2_45), (v2_45, zTb g t2_45)]) cw_J4_toString_0e30d q_942 rfl rfl ⟨by rw [hRf]; exact (Nat.le_of_ble_eq_true rfl), by rw [hRl]; exact (Nat.le_of_ble_eq_true rfl)⟩ hW rfl rfl rfl hl.1 rfl (Nat.le_of_ble_eq_true rfl) dL_lines_145 ⟨(zc1 (D := 18) g116 (Nat.le_of_ble_eq_true rfl)), (zc1 (D := 846) g117 (Nat.le_of_ble_eq_true rfl))⟩) hW (fun u9 H locs h9 hW => ?_)
                  clear hk9
                  obtain ⟨v153, w154⟩ := u9
                  show W _ _ _ _ _ _ _ _ _ _ _ _ _ _ _ (F0 m _ ls [.ref v153])
                  have hW : zl_Wd g [(v153, zTo g w154), (w154, zTb g ((([] ++ t2_45) ++ zsb 10) ++ (([] ++ zsb 12) ++ zdec n147))), (v148, zTo g w149), (w149, zTb g (([] ++ zsb 12) ++ zdec n147)), (q2_45, zTo g v2_45), (v2_45, zTb g t2_45)] z_2 s H locs := hW
                  refine lv_astore_n (lv' := [(2, .ref v153), (4, .int v119), (0, .ref (sw_ad g 0)), (1, .int x1_2), (3, .int x3_45)]) hx hb dL_lines_148 rfl hl (Nat.le_of_ble_eq_true rfl) rfl (fun ls hl => ?_)
                  obtain ⟨v155, ev155⟩ : ∃ z : Int32, z = x3_45 + (1 : Int32) := ⟨_, rfl⟩
                  replace h := h v155 ev155
                  refine lv_iinc (v := v155) (lv' := [(3, .int v155), (2, .ref v153), (4, .int v119), (0, .ref (sw_ad g 0)), (1, .int x1_2)]) hx hb dL_lines_149 hl (k := 4) rfl (by rw [ev155]; rfl) (Nat.le_of_ble_eq_true rfl) rfl (fun ls hl => ?_)
                  refine lv_goto (tgt := 45) hx hb dL_lines_152 (by decide) ?_
                  have hW := zl_sub (E' := [(v153, zTo g w154), (w154, zTb g ((([] ++ t2_45) ++ zsb 10) ++ (([] ++ zsb 12) ++ zdec n147)))]) hW [0, 1] (by decide) rfl
                  exact ih45 ((([] ++ t2_45) ++ zsb 10) ++ (([] ++ zsb 12) ++ zdec n147)) v155 _ _ _ _ _ _ _ h (zc10 (zc1 (D := 18) g114 (Nat.le_of_ble_eq_true rfl)) hTcn45 hcn45) (zc10 (zc1 (D := 846) g115 (Nat.le_of_ble_eq_true rfl)) hTsn45 hsn45) hW (lv_sub hl [3, 4, 1, 0] rfl)
              · replace h := h.2 k127
                refine je_new (ci := 8) hx hb hts hown qf_B tyJ4 tyJ4_ok rfl q_773 q_774 q_24 hW (fs := [.null, .int 0, .int 0, .int 0]) (by intro j hj; have h9 : j = 0 ∨ j = 1 ∨ j = 2 ∨ j = 3 := (by omega); rcases h9 with rfl | rfl | rfl | rfl <;> rfl) (zc1 (D := 9) g116 (Nat.le_of_ble_eq_true rfl)) (zc1 (D := 182) g117 (Nat.le_of_ble_eq_true rfl)) dL_lines_81 (fun q156 H hW => ?_)
                replace hW := je_mv0 (E1 := [(q120, zSo g b123 ([] ++ t2_45).length), (b123, zBb g c124 ([] ++ t2_45)), (q2_45, zTo g v2_45), (v2_45, zTb g t2_45)]) hW
                have hW : zl_Wd g [(q156, .inr (8, [.null, .int 0, .int 0, .int 0])), (q120, zSo g b123 ([] ++ t2_45).length), (b123, zBb g c124 ([] ++ t2_45)), (q2_45, zTo g v2_45), (v2_45, zTb g t2_45)] z_2 s H locs := hW
                refine lv_dup hx hb dL_lines_84 rfl ?_
                refine je_kv (rest := [.ref q156, .ref q120]) (je_runI (As := []) (rest := [.ref q156, .ref q120]) hx hb hml hown hts (kc_sb l g z_2 q156 [(q120, zSo g b123 ([] ++ t2_45).length), (b123, zBb g c124 ([] ++ t2_45)), (q2_45, zTo g v2_45), (v2_45, zTb g t2_45)]) ci_J4_init_da8c8 q_775 rfl rfl ⟨by rw [hRf]; exact (Nat.le_of_ble_eq_true rfl), by rw [hRl]; exact (Nat.le_of_ble_eq_true rfl)⟩ hW rfl hl.1 rfl (Nat.le_of_ble_eq_true rfl) dL_lines_85 ⟨(zc1 (D := 10) g116 (Nat.le_of_ble_eq_true rfl)), (zc1 (D := 198) g117 (Nat.le_of_ble_eq_true rfl))⟩) hW (fun b157 H locs h9 hW => ?_)
                have hW : zl_Wd g [(q156, zSo g b157 0), (b157, zBb g 16 []), (q120, zSo g b123 ([] ++ t2_45).length), (b123, zBb g c124 ([] ++ t2_45)), (q2_45, zTo g v2_45), (v2_45, zTb g t2_45)] z_2 s H locs := hW
                have hbd158 : zbd [] 16 := ⟨by decide, by decide⟩
                refine sw_ldcW hx hb hown (hW.2.2.2.2.2.2.2.2.2.1 11 (Nat.le_of_ble_eq_true rfl)).2.2.2.2 dL_lines_88 ?_
                have hk9 := h.1
                replace h := h.2
                refine je_kr (rest := [.ref q120]) (je_runV (i := 0) (As := [.ref (sw_sk g 11)]) (rest := [.ref q120]) hx hb hml hown hts (kd_appC l g z_2 q156 b157 16 [] 11 (Nat.le_of_ble_eq_true rfl) hbd158 hk9 [(q120, zSo g b123 ([] ++ t2_45).length), (b123, zBb g c124 ([] ++ t2_45)), (q2_45, zTo g v2_45), (v2_45, zTb g t2_45)]) cw_J4_append_15ec4 q_794 rfl rfl ⟨by rw [hRf]; exact (Nat.le_of_ble_eq_true rfl), by rw [hRl]; exact (Nat.le_of_ble_eq_true rfl)⟩ hW rfl rfl rfl hl.1 rfl (Nat.le_of_ble_eq_true rfl) dL_lines_91 ⟨(zc1 (D := 11) g116 (Nat.le_of_ble_eq_true rfl)), (zc1 (D := 326) g117 (Nat.le_of_ble_eq_true rfl))⟩) hW (fun u9 H locs h9 hW => ?_)
                clear hk9
                obtain ⟨b159, c160⟩ := u9
                have hbd161 : zbd ([] ++ zsb 11) c160 := h9
                show W _ _ _ _ _ _ _ _ _ _ _ _ _ _ _ (F0 m _ ls [.ref q156, .ref q120])
                have hW : zl_Wd g [(q156, zSo g b159 ([] ++ zsb 11).length), (b159, zBb g c160 ([] ++ zsb 11)), (q120, zSo g b123 ([] ++ t2_45).length), (b123, zBb g c124 ([] ++ t2_45)), (q2_45, zTo g v2_45), (v2_45, zTb g t2_45)] z_2 s H locs := hW
                refine lv_iload_n hx hb dL_lines_94 rfl (lv_at hl 4 rfl) ?_
                obtain ⟨n165, ⟨hn165, en165, hk9⟩, h⟩ := h
                rw [show Value.int x3_45 = Value.int (nI n165) from congrArg Value.int en165]
                refine je_kr (rest := [.ref q120]) (je_runV (i := 0) (As := [.int (nI n165)]) (rest := [.ref q120]) hx hb hml hown hts (kd_appi l g z_2 q156 b159 c160 ([] ++ zsb 11) n165 hn165 hbd161 hk9 [(q120, zSo g b123 ([] ++ t2_45).length), (b123, zBb g c124 ([] ++ t2_45)), (q2_45, zTo g v2_45), (v2_45, zTb g t2_45)]) cw_J4_append_bf812 q_919 rfl rfl ⟨by rw [hRf]; exact (Nat.le_of_ble_eq_true rfl), by rw [hRl]; exact (Nat.le_of_ble_eq_true rfl)⟩ hW rfl rfl rfl hl.1 rfl (Nat.le_of_ble_eq_true rfl) dL_lines_95 ⟨(zc1 (D := 12) g116 (Nat.le_of_ble_eq_true rfl)), (zc1 (D := 454) g117 (Nat.le_of_ble_eq_true rfl))⟩) hW (fun u9 H locs h9 hW => ?_)
                clear hk9
                obtain ⟨b162, c163⟩ := u9
                have hbd164 : zbd (([] ++ zsb 11) ++ zdec n165) c163 := h9
                show W _ _ _ _ _ _ _ _ _ _ _ _ _ _ _ (F0 m _ ls [.ref q156, .ref q120])
                have hW : zl_Wd g [(q156, zSo g b162 (([] ++ zsb 11) ++ zdec n165).length), (b162, zBb g c163 (([] ++ zsb 11) ++ zdec n165)), (q120, zSo g b123 ([] ++ t2_45).length), (b123, zBb g c124 ([] ++ t2_45)), (q2_45, zTo g v2_45), (v2_45, zTb g t2_45)] z_2 s H locs := hW
                have hk9 := h.1
                replace h := h.2
                refine je_kr (rest := [.ref q120]) (je_runV (i := 0) (As := []) (rest := [.ref q120]) hx hb hml hown hts (kd_str l g z_2 q156 b162 c163 (([] ++ zsb 11) ++ zdec n165) hk9 hbd164 [(q120, zSo g b123 ([] ++ t2_45).length), (b123, zBb g c124 ([] ++ t2_45)), (q2_45, zTo g v2_45), (v2_45, zTb g t2_45)]) cw_J4_toString_0e30d q_942 rfl rfl ⟨by rw [hRf]; exact (Nat.le_of_ble_eq_true rfl), by rw [hRl]; exact (Nat.le_of_ble_eq_true rfl)⟩ hW rfl rfl rfl hl.1 rfl (Nat.le_of_ble_eq_true rfl) dL_lines_98 ⟨(zc1 (D := 14) g116 (Nat.le_of_ble_eq_true rfl)), (zc1 (D := 522) g117 (Nat.le_of_ble_eq_true rfl))⟩) hW (fun u9 H locs h9 hW => ?_)
                clear hk9
                obtain ⟨v166, w167⟩ := u9
                show W _ _ _ _ _ _ _ _ _ _ _ _ _ _ _ (F0 m _ ls [.ref v166, .ref q120])
                have hW : zl_Wd g [(v166, zTo g w167), (w167, zTb g (([] ++ zsb 11) ++ zdec n165)), (q120, zSo g b123 ([] ++ t2_45).length), (b123, zBb g c124 ([] ++ t2_45)), (q2_45, zTo g v2_45), (v2_45, zTb g t2_45)] z_2 s H locs := hW
                refine lv_goto (tgt := 107) hx hb dL_lines_101 (by decide) ?_
                have hW := zl_sub (E' := [(q120, zSo g b123 ([] ++ t2_45).length), (b123, zBb g c124 ([] ++ t2_45)), (v166, zTo g w167), (w167, zTb g (([] ++ zsb 11) ++ zdec n165)), (q2_45, zTo g v2_45), (v2_45, zTb g t2_45)]) hW [2, 3, 0, 1, 4, 5] (by decide) rfl
                have hk9 := h.1
                replace h := h.2
                refine je_kr (rest := []) (je_runV (i := 0) (As := [.ref v166]) (rest := []) hx hb hml hown hts (kd_appD l g z_2 q120 b123 c124 ([] ++ t2_45) 0 1 v166 w167 (([] ++ zsb 11) ++ zdec n165) hbd125 hk9 [(v166, zTo g w167), (w167, zTb g (([] ++ zsb 11) ++ zdec n165)), (q2_45, zTo g v2_45), (v2_45, zTb g t2_45)] rfl rfl) cw_J4_append_15ec4 q_794 rfl rfl ⟨by rw [hRf]; exact (Nat.le_of_ble_eq_true rfl), by rw [hRl]; exact (Nat.le_of_ble_eq_true rfl)⟩ hW rfl rfl rfl hl.1 rfl (Nat.le_of_ble_eq_true rfl) dL_lines_107 ⟨(zc1 (D := 15) g116 (Nat.le_of_ble_eq_true rfl)), (zc1 (D := 650) g117 (Nat.le_of_ble_eq_true rfl))⟩) hW (fun u9 H locs h9 hW => ?_)
                clear hk9
                obtain ⟨b168, c169⟩ := u9
                have hbd170 : zbd (([] ++ t2_45) ++ (([] ++ zsb 11) ++ zdec n165)) c169 := h9
                show W _ _ _ _ _ _ _ _ _ _ _ _ _ _ _ (F0 m _ ls [.ref q120])
                have hW : zl_Wd g [(q120, zSo g b168 (([] ++ t2_45) ++ (([] ++ zsb 11) ++ zdec n165)).length), (b168, zBb g c169 (([] ++ t2_45) ++ (([] ++ zsb 11) ++ zdec n165))), (v166, zTo g w167), (w167, zTb g (([] ++ zsb 11) ++ zdec n165)), (q2_45, zTo g v2_45), (v2_45, zTb g t2_45)] z_2 s H locs := hW
                refine lv_iload hx hb dL_lines_110 (lv_at hl 0 rfl) ?_
                refine lv_if_lt (tgt := 139) hx hb dL_lines_112 (by decide) (fun k171 => ?_) (fun k171 => ?_)
                · replace h := h.1 k171
                  refine sw_ldcW hx hb hown (hW.2.2.2.2.2.2.2.2.2.1 10 (Nat.le_of_ble_eq_true rfl)).2.2.2.2 dL_lines_139 ?_
                  have hk9 := h.1
                  replace h := h.2
                  refine je_kr (rest := []) (je_runV (i := 0) (As := [.ref (sw_sk g 10)]) (rest := []) hx hb hml hown hts (kd_appC l g z_2 q120 b168 c169 (([] ++ t2_45) ++ (([] ++ zsb 11) ++ zdec n165)) 10 (Nat.le_of_ble_eq_true rfl) hbd170 hk9 [(v166, zTo g w167), (w167, zTb g (([] ++ zsb 11) ++ zdec n165)), (q2_45, zTo g v2_45), (v2_45, zTb g t2_45)]) cw_J4_append_15ec4 q_794 rfl rfl ⟨by rw [hRf]; exact (Nat.le_of_ble_eq_true rfl), by rw [hRl]; exact (Nat.le_of_ble_eq_true rfl)⟩ hW rfl rfl rfl hl.1 rfl (Nat.le_of_ble_eq_true rfl) dL_lines_142 ⟨(zc1 (D := 16) g116 (Nat.le_of_ble_eq_true rfl)), (zc1 (D := 778) g117 (Nat.le_of_ble_eq_true rfl))⟩) hW (fun u9 H locs h9 hW => ?_)
                  clear hk9
                  obtain ⟨b172, c173⟩ := u9
                  have hbd174 : zbd ((([] ++ t2_45) ++ (([] ++ zsb 11) ++ zdec n165)) ++ zsb 10) c173 := h9
                  show W _ _ _ _ _ _ _ _ _ _ _ _ _ _ _ (F0 m _ ls [.ref q120])
                  have hW : zl_Wd g [(q120, zSo g b172 ((([] ++ t2_45) ++ (([] ++ zsb 11) ++ zdec n165)) ++ zsb 10).length), (b172, zBb g c173 ((([] ++ t2_45) ++ (([] ++ zsb 11) ++ zdec n165)) ++ zsb 10)), (v166, zTo g w167), (w167, zTb g (([] ++ zsb 11) ++ zdec n165)), (q2_45, zTo g v2_45), (v2_45, zTb g t2_45)] z_2 s H locs := hW
                  have hk9 := h.1
                  replace h := h.2
                  refine je_kr (rest := []) (je_runV (i := 0) (As := []) (rest := []) hx hb hml hown hts (kd_str l g z_2 q120 b172 c173 ((([] ++ t2_45) ++ (([] ++ zsb 11) ++ zdec n165)) ++ zsb 10) hk9 hbd174 [(v166, zTo g w167), (w167, zTb g (([] ++ zsb 11) ++ zdec n165)), (q2_45, zTo g v2_45), (v2_45, zTb g t2_45)]) cw_J4_toString_0e30d q_942 rfl rfl ⟨by rw [hRf]; exact (Nat.le_of_ble_eq_true rfl), by rw [hRl]; exact (Nat.le_of_ble_eq_true rfl)⟩ hW rfl rfl rfl hl.1 rfl (Nat.le_of_ble_eq_true rfl) dL_lines_145 ⟨(zc1 (D := 18) g116 (Nat.le_of_ble_eq_true rfl)), (zc1 (D := 846) g117 (Nat.le_of_ble_eq_true rfl))⟩) hW (fun u9 H locs h9 hW => ?_)
                  clear hk9
                  obtain ⟨v175, w176⟩ := u9
                  show W _ _ _ _ _ _ _ _ _ _ _ _ _ _ _ (F0 m _ ls [.ref v175])
                  have hW : zl_Wd g [(v175, zTo g w176), (w176, zTb g ((([] ++ t2_45) ++ (([] ++ zsb 11) ++ zdec n165)) ++ zsb 10)), (v166, zTo g w167), (w167, zTb g (([] ++ zsb 11) ++ zdec n165)), (q2_45, zTo g v2_45), (v2_45, zTb g t2_45)] z_2 s H locs := hW
                  refine lv_astore_n (lv' := [(2, .ref v175), (4, .int v119), (0, .ref (sw_ad g 0)), (1, .int x1_2), (3, .int x3_45)]) hx hb dL_lines_148 rfl hl (Nat.le_of_ble_eq_true rfl) rfl (fun ls hl => ?_)
                  obtain ⟨v177, ev177⟩ : ∃ z : Int32, z = x3_45 + (1 : Int32) := ⟨_, rfl⟩
                  replace h := h v177 ev177
                  refine lv_iinc (v := v177) (lv' := [(3, .int v177), (2, .ref v175), (4, .int v119), (0, .ref (sw_ad g 0)), (1, .int x1_2)]) hx hb dL_lines_149 hl (k := 4) rfl (by rw [ev177]; rfl) (Nat.le_of_ble_eq_true rfl) rfl (fun ls hl => ?_)
                  refine lv_goto (tgt := 45) hx hb dL_lines_152 (by decide) ?_
                  have hW := zl_sub (E' := [(v175, zTo g w176), (w176, zTb g ((([] ++ t2_45) ++ (([] ++ zsb 11) ++ zdec n165)) ++ zsb 10))]) hW [0, 1] (by decide) rfl
                  exact ih45 ((([] ++ t2_45) ++ (([] ++ zsb 11) ++ zdec n165)) ++ zsb 10) v177 _ _ _ _ _ _ _ h (zc10 (zc1 (D := 18) g114 (Nat.le_of_ble_eq_true rfl)) hTcn45 hcn45) (zc10 (zc1 (D := 846) g115 (Nat.le_of_ble_eq_true rfl)) hTsn45 hsn45) hW (lv_sub hl [3, 4, 1, 0] rfl)
                · replace h := h.2 k171
                  refine je_new (ci := 8) hx hb hts hown qf_B tyJ4 tyJ4_ok rfl q_773 q_774 q_24 hW (fs := [.null, .int 0, .int 0, .int 0]) (by intro j hj; have h9 : j = 0 ∨ j = 1 ∨ j = 2 ∨ j = 3 := (by omega); rcases h9 with rfl | rfl | rfl | rfl <;> rfl) (zc1 (D := 16) g116 (Nat.le_of_ble_eq_true rfl)) (zc1 (D := 654) g117 (Nat.le_of_ble_eq_true rfl)) dL_lines_115 (fun q178 H hW => ?_)
                  replace hW := je_mv0 (E1 := [(q120, zSo g b168 (([] ++ t2_45) ++ (([] ++ zsb 11) ++ zdec n165)).length), (b168, zBb g c169 (([] ++ t2_45) ++ (([] ++ zsb 11) ++ zdec n165))), (v166, zTo g w167), (w167, zTb g (([] ++ zsb 11) ++ zdec n165)), (q2_45, zTo g v2_45), (v2_45, zTb g t2_45)]) hW
                  have hW : zl_Wd g [(q178, .inr (8, [.null, .int 0, .int 0, .int 0])), (q120, zSo g b168 (([] ++ t2_45) ++ (([] ++ zsb 11) ++ zdec n165)).length), (b168, zBb g c169 (([] ++ t2_45) ++ (([] ++ zsb 11) ++ zdec n165))), (v166, zTo g w167), (w167, zTb g (([] ++ zsb 11) ++ zdec n165)), (q2_45, zTo g v2_45), (v2_45, zTb g t2_45)] z_2 s H locs := hW
                  refine lv_dup hx hb dL_lines_118 rfl ?_
                  refine je_kv (rest := [.ref q178, .ref q120]) (je_runI (As := []) (rest := [.ref q178, .ref q120]) hx hb hml hown hts (kc_sb l g z_2 q178 [(q120, zSo g b168 (([] ++ t2_45) ++ (([] ++ zsb 11) ++ zdec n165)).length), (b168, zBb g c169 (([] ++ t2_45) ++ (([] ++ zsb 11) ++ zdec n165))), (v166, zTo g w167), (w167, zTb g (([] ++ zsb 11) ++ zdec n165)), (q2_45, zTo g v2_45), (v2_45, zTb g t2_45)]) ci_J4_init_da8c8 q_775 rfl rfl ⟨by rw [hRf]; exact (Nat.le_of_ble_eq_true rfl), by rw [hRl]; exact (Nat.le_of_ble_eq_true rfl)⟩ hW rfl hl.1 rfl (Nat.le_of_ble_eq_true rfl) dL_lines_119 ⟨(zc1 (D := 17) g116 (Nat.le_of_ble_eq_true rfl)), (zc1 (D := 670) g117 (Nat.le_of_ble_eq_true rfl))⟩) hW (fun b179 H locs h9 hW => ?_)
                  have hW : zl_Wd g [(q178, zSo g b179 0), (b179, zBb g 16 []), (q120, zSo g b168 (([] ++ t2_45) ++ (([] ++ zsb 11) ++ zdec n165)).length), (b168, zBb g c169 (([] ++ t2_45) ++ (([] ++ zsb 11) ++ zdec n165))), (v166, zTo g w167), (w167, zTb g (([] ++ zsb 11) ++ zdec n165)), (q2_45, zTo g v2_45), (v2_45, zTb g t2_45)] z_2 s H locs := hW
                  have hbd180 : zbd [] 16 := ⟨by decide, by decide⟩
                  refine sw_ldcW hx hb hown (hW.2.2.2.2.2.2.2.2.2.1 12 (Nat.le_of_ble_eq_true rfl)).2.2.2.2 dL_lines_122 ?_
                  have hk9 := h.1
                  replace h := h.2
                  refine je_kr (rest := [.ref q120]) (je_runV (i := 0) (As := [.ref (sw_sk g 12)]) (rest := [.ref q120]) hx hb hml hown hts (kd_appC l g z_2 q178 b179 16 [] 12 (Nat.le_of_ble_eq_true rfl) hbd180 hk9 [(q120, zSo g b168 (([] ++ t2_45) ++ (([] ++ zsb 11) ++ zdec n165)).length), (b168, zBb g c169 (([] ++ t2_45) ++ (([] ++ zsb 11) ++ zdec n165))), (v166, zTo g w167), (w167, zTb g (([] ++ zsb 11) ++ zdec n165)), (q2_45, zTo g v2_45), (v2_45, zTb g t2_45)]) cw_J4_append_15ec4 q_794 rfl rfl ⟨by rw [hRf]; exact (Nat.le_of_ble_eq_true rfl), by rw [hRl]; exact (Nat.le_of_ble_eq_true rfl)⟩ hW rfl rfl rfl hl.1 rfl (Nat.le_of_ble_eq_true rfl) dL_lines_125 ⟨(zc1 (D := 18) g116 (Nat.le_of_ble_eq_true rfl)), (zc1 (D := 798) g117 (Nat.le_of_ble_eq_true rfl))⟩) hW (fun u9 H locs h9 hW => ?_)
                  clear hk9
                  obtain ⟨b181, c182⟩ := u9
                  have hbd183 : zbd ([] ++ zsb 12) c182 := h9
                  show W _ _ _ _ _ _ _ _ _ _ _ _ _ _ _ (F0 m _ ls [.ref q178, .ref q120])
                  have hW : zl_Wd g [(q178, zSo g b181 ([] ++ zsb 12).length), (b181, zBb g c182 ([] ++ zsb 12)), (q120, zSo g b168 (([] ++ t2_45) ++ (([] ++ zsb 11) ++ zdec n165)).length), (b168, zBb g c169 (([] ++ t2_45) ++ (([] ++ zsb 11) ++ zdec n165))), (v166, zTo g w167), (w167, zTb g (([] ++ zsb 11) ++ zdec n165)), (q2_45, zTo g v2_45), (v2_45, zTb g t2_45)] z_2 s H locs := hW
                  refine lv_iload hx hb dL_lines_128 (lv_at hl 0 rfl) ?_
                  obtain ⟨n187, ⟨hn187, en187, hk9⟩, h⟩ := h
                  rw [show Value.int v119 = Value.int (nI n187) from congrArg Value.int en187]
                  refine je_kr (rest := [.ref q120]) (je_runV (i := 0) (As := [.int (nI n187)]) (rest := [.ref q120]) hx hb hml hown hts (kd_appi l g z_2 q178 b181 c182 ([] ++ zsb 12) n187 hn187 hbd183 hk9 [(q120, zSo g b168 (([] ++ t2_45) ++ (([] ++ zsb 11) ++ zdec n165)).length), (b168, zBb g c169 (([] ++ t2_45) ++ (([] ++ zsb 11) ++ zdec n165))), (v166, zTo g w167), (w167, zTb g (([] ++ zsb 11) ++ zdec n165)), (q2_45, zTo g v2_45), (v2_45, zTb g t2_45)]) cw_J4_append_bf812 q_919 rfl rfl ⟨by rw [hRf]; exact (Nat.le_of_ble_eq_true rfl), by rw [hRl]; exact (Nat.le_of_ble_eq_true rfl)⟩ hW rfl rfl rfl hl.1 rfl (Nat.le_of_ble_eq_true rfl) dL_lines_130 ⟨(zc1 (D := 19) g116 (Nat.le_of_ble_eq_true rfl)), (zc1 (D := 926) g117 (Nat.le_of_ble_eq_true rfl))⟩) hW (fun u9 H locs h9 hW => ?_)
                  clear hk9
                  obtain ⟨b184, c185⟩ := u9
                  have hbd186 : zbd (([] ++ zsb 12) ++ zdec n187) c185 := h9
                  show W _ _ _ _ _ _ _ _ _ _ _ _ _ _ _ (F0 m _ ls [.ref q178, .ref q120])
                  have hW : zl_Wd g [(q178, zSo g b184 (([] ++ zsb 12) ++ zdec n187).length), (b184, zBb g c185 (([] ++ zsb 12) ++ zdec n187)), (q120, zSo g b168 (([] ++ t2_45) ++ (([] ++ zsb 11) ++ zdec n165)).length), (b168, zBb g c169 (([] ++ t2_45) ++ (([] ++ zsb 11) ++ zdec n165))), (v166, zTo g w167), (w167, zTb g (([] ++ zsb 11) ++ zdec n165)), (q2_45, zTo g v2_45), (v2_45, zTb g t2_45)] z_2 s H locs := hW
                  have hk9 := h.1
                  replace h := h.2
                  refine je_kr (rest := [.ref q120]) (je_runV (i := 0) (As := []) (rest := [.ref q120]) hx hb hml hown hts (kd_str l g z_2 q178 b184 c185 (([] ++ zsb 12) ++ zdec n187) hk9 hbd186 [(q120, zSo g b168 (([] ++ t2_45) ++ (([] ++ zsb 11) ++ zdec n165)).length), (b168, zBb g c169 (([] ++ t2_45) ++ (([] ++ zsb 11) ++ zdec n165))), (v166, zTo g w167), (w167, zTb g (([] ++ zsb 11) ++ zdec n165)), (q2_45, zTo g v2_45), (v2_45, zTb g t2_45)]) cw_J4_toString_0e30d q_942 rfl rfl ⟨by rw [hRf]; exact (Nat.le_of_ble_eq_true rfl), by rw [hRl]; exact (Nat.le_of_ble_eq_true rfl)⟩ hW rfl rfl rfl hl.1 rfl (Nat.le_of_ble_eq_true rfl) dL_lines_133 ⟨(zc1 (D := 21) g116 (Nat.le_of_ble_eq_true rfl)), (zc1 (D := 994) g117 (Nat.le_of_ble_eq_true rfl))⟩) hW (fun u9 H locs h9 hW => ?_)
                  clear hk9
                  obtain ⟨v188, w189⟩ := u9
                  show W _ _ _ _ _ _ _ _ _ _ _ _ _ _ _ (F0 m _ ls [.ref v188, .ref q120])
                  have hW : zl_Wd g [(v188, zTo g w189), (w189, zTb g (([] ++ zsb 12) ++ zdec n187)), (q120, zSo g b168 (([] ++ t2_45) ++ (([] ++ zsb 11) ++ zdec n165)).length), (b168, zBb g c169 (([] ++ t2_45) ++ (([] ++ zsb 11) ++ zdec n165))), (v166, zTo g w167), (w167, zTb g (([] ++ zsb 11) ++ zdec n165)), (q2_45, zTo g v2_45), (v2_45, zTb g t2_45)] z_2 s H locs := hW
                  refine lv_goto (tgt := 142) hx hb dL_lines_136 (by decide) ?_
                  have hW := zl_sub (E' := [(q120, zSo g b168 (([] ++ t2_45) ++ (([] ++ zsb 11) ++ zdec n165)).length), (b168, zBb g c169 (([] ++ t2_45) ++ (([] ++ zsb 11) ++ zdec n165))), (v188, zTo g w189), (w189, zTb g (([] ++ zsb 12) ++ zdec n187)), (v166, zTo g w167), (w167, zTb g (([] ++ zsb 11) ++ zdec n165)), (q2_45, zTo g v2_45), (v2_45, zTb g t2_45)]) hW [2, 3, 0, 1, 4, 5, 6, 7] (by decide) rfl
                  have hk9 := h.1
                  replace h := h.2
                  refine je_kr (rest := []) (je_runV (i := 0) (As := [.ref v188]) (rest := []) hx hb hml hown hts (kd_appD l g z_2 q120 b168 c169 (([] ++ t2_45) ++ (([] ++ zsb 11) ++ zdec n165)) 0 1 v188 w189 (([] ++ zsb 12) ++ zdec n187) hbd170 hk9 [(v188, zTo g w189), (w189, zTb g (([] ++ zsb 12) ++ zdec n187)), (v166, zTo g w167), (w167, zTb g (([] ++ zsb 11) ++ zdec n165)), (q2_45, zTo g v2_45), (v2_45, zTb g t2_45)] rfl rfl) cw_J4_append_15ec4 q_794 rfl rfl ⟨by rw [hRf]; exact (Nat.le_of_ble_eq_true rfl), by rw [hRl]; exact (Nat.le_of_ble_eq_true rfl)⟩ hW rfl rfl rfl hl.1 rfl (Nat.le_of_ble_eq_true rfl) dL_lines_142 ⟨(zc1 (D := 22) g116 (Nat.le_of_ble_eq_true rfl)), (zc1 (D := 1122) g117 (Nat.le_of_ble_eq_true rfl))⟩) hW (fun u9 H locs h9 hW => ?_)
                  clear hk9
                  obtain ⟨b190, c191⟩ := u9
                  have hbd192 : zbd ((([] ++ t2_45) ++ (([] ++ zsb 11) ++ zdec n165)) ++ (([] ++ zsb 12) ++ zdec n187)) c191 := h9
                  show W _ _ _ _ _ _ _ _ _ _ _ _ _ _ _ (F0 m _ ls [.ref q120])
                  have hW : zl_Wd g [(q120, zSo g b190 ((([] ++ t2_45) ++ (([] ++ zsb 11) ++ zdec n165)) ++ (([] ++ zsb 12) ++ zdec n187)).length), (b190, zBb g c191 ((([] ++ t2_45) ++ (([] ++ zsb 11) ++ zdec n165)) ++ (([] ++ zsb 12) ++ zdec n187))), (v188, zTo g w189), (w189, zTb g (([] ++ zsb 12) ++ zdec n187)), (v166, zTo g w167), (w167, zTb g (([] ++ zsb 11) ++ zdec n165)), (q2_45, zTo g v2_45), (v2_45, zTb g t2_45)] z_2 s H locs := hW
                  have hk9 := h.1
                  replace h := h.2
                  refine je_kr (rest := []) (je_runV (i := 0) (As := []) (rest := []) hx hb hml hown hts (kd_str l g z_2 q120 b190 c191 ((([] ++ t2_45) ++ (([] ++ zsb 11) ++ zdec n165)) ++ (([] ++ zsb 12) ++ zdec n187)) hk9 hbd192 [(v188, zTo g w189), (w189, zTb g (([] ++ zsb 12) ++ zdec n187)), (v166, zTo g w167), (w167, zTb g (([] ++ zsb 11) ++ zdec n165)), (q2_45, zTo g v2_45), (v2_45, zTb g t2_45)]) cw_J4_toString_0e30d q_942 rfl rfl ⟨by rw [hRf]; exact (Nat.le_of_ble_eq_true rfl), by rw [hRl]; exact (Nat.le_of_ble_eq_true rfl)⟩ hW rfl rfl rfl hl.1 rfl (Nat.le_of_ble_eq_true rfl) dL_lines_145 ⟨(zc1 (D := 24) g116 (Nat.le_of_ble_eq_true rfl)), (zc1 (D := 1190) g117 (Nat.le_of_ble_eq_true rfl))⟩) hW (fun u9 H locs h9 hW => ?_)
                  clear hk9
                  obtain ⟨v193, w194⟩ := u9
                  show W _ _ _ _ _ _ _ _ _ _ _ _ _ _ _ (F0 m _ ls [.ref v193])
                  have hW : zl_Wd g [(v193, zTo g w194), (w194, zTb g ((([] ++ t2_45) ++ (([] ++ zsb 11) ++ zdec n165)) ++ (([] ++ zsb 12) ++ zdec n187))), (v188, zTo g w189), (w189, zTb g (([] ++ zsb 12) ++ zdec n187)), (v166, zTo g w167), (w167, zTb g (([] ++ zsb 11) ++ zdec n165)), (q2_45, zTo g v2_45), (v2_45, zTb g t2_45)] z_2 s H locs := hW
                  refine lv_astore_n (lv' := [(2, .ref v193), (4, .int v119), (0, .ref (sw_ad g 0)), (1, .int x1_2), (3, .int x3_45)]) hx hb dL_lines_148 rfl hl (Nat.le_of_ble_eq_true rfl) rfl (fun ls hl => ?_)
                  obtain ⟨v195, ev195⟩ : ∃ z : Int32, z = x3_45 + (1 : Int32) := ⟨_, rfl⟩
                  replace h := h v195 ev195
                  refine lv_iinc (v := v195) (lv' := [(3, .int v195), (2, .ref v193), (4, .int v119), (0, .ref (sw_ad g 0)), (1, .int x1_2)]) hx hb dL_lines_149 hl (k := 4) rfl (by rw [ev195]; rfl) (Nat.le_of_ble_eq_true rfl) rfl (fun ls hl => ?_)
                  refine lv_goto (tgt := 45) hx hb dL_lines_152 (by decide) ?_
                  have hW := zl_sub (E' := [(v193, zTo g w194), (w194, zTb g ((([] ++ t2_45) ++ (([] ++ zsb 11) ++ zdec n165)) ++ (([] ++ zsb 12) ++ zdec n187)))]) hW [0, 1] (by decide) rfl
                  exact ih45 ((([] ++ t2_45) ++ (([] ++ zsb 11) ++ zdec n165)) ++ (([] ++ zsb 12) ++ zdec n187)) v195 _ _ _ _ _ _ _ h (zc10 (zc1 (D := 24) g114 (Nat.le_of_ble_eq_true rfl)) hTcn45 hcn45) (zc10 (zc1 (D := 1190) g115 (Nat.le_of_ble_eq_true rfl)) hTsn45 hsn45) hW (lv_sub hl [3, 4, 1, 0] rfl)
        exact key45 7 ((([] ++ zsb 10) ++ [n24]) ++ zdec n29) (0 : Int32) _ _ _ _ _ _ _ h (Nat.le_of_eq hCL45.symm) (Nat.le_of_eq hSL45.symm) hW (lv_sub hl [2, 3, 1, 0] rfl)
  exact key2 9 (0 : Int32) z _ _ _ _ _ h (Nat.le_of_eq hCL2.symm) (Nat.le_of_eq hSL2.symm) hW (lv_sub hl [1, 0] rfl)
