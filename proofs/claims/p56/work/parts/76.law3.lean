/-! The law's check of totals. -/
def jL_totals_244 (z : zG) (x1_15k : Int32) (x3_15k : Int64) (v4 : Int32) (t0_217 : Int32) (Q : Int32 → Prop) (t0_244 : Int32) : Prop :=
  (t0_217 = 0 → (Q (0 : Int32))) ∧ (¬ t0_217 = 0 → ((t0_244 = 0 → (Q (0 : Int32))) ∧ (¬ t0_244 = 0 → (((nI (zasg z.1)) = x1_15k → (((nI (zasg z.1)) = x1_15k → (((lg_cmp (lN (zall z.1)) x3_15k) = 0 → (((zv (s_doorOf z ((0 : Int32))) [(-13)]) = (-13 : Int32) → (((zv (s_doorOf z ((v4 + (1 : Int32)))) [(-13)]) = (-13 : Int32) → (((zv (s_isRevoked z ((0 : Int32))) [(-13)]) = (-13 : Int32) → (((zv (s_isRevoked z ((v4 + (1 : Int32)))) [(-13)]) = (-13 : Int32) → (Q (1 : Int32))) ∧ (¬ (zv (s_isRevoked z ((v4 + (1 : Int32)))) [(-13)]) = (-13 : Int32) → (Q (0 : Int32))))) ∧ (¬ (zv (s_isRevoked z ((0 : Int32))) [(-13)]) = (-13 : Int32) → (Q (0 : Int32))))) ∧ (¬ (zv (s_doorOf z ((v4 + (1 : Int32)))) [(-13)]) = (-13 : Int32) → (Q (0 : Int32))))) ∧ (¬ (zv (s_doorOf z ((0 : Int32))) [(-13)]) = (-13 : Int32) → (Q (0 : Int32))))) ∧ (¬ (lg_cmp (lN (zall z.1)) x3_15k) = 0 → (Q (0 : Int32))))) ∧ (¬ (nI (zasg z.1)) = x1_15k → (Q (0 : Int32))))) ∧ (¬ (nI (zasg z.1)) = x1_15k → (Q (0 : Int32)))))))
def jL_totals_217 (z : zG) (x1_15k : Int32) (x3_15k : Int64) (x5_15k : Int32) (x6_15k : Int32) (v4 : Int32) (Q : Int32 → Prop) (t0_217 : Int32) : Prop :=
  (x5_15k = 0 → (jL_totals_244 z x1_15k x3_15k v4 t0_217 Q (1 : Int32))) ∧ (¬ x5_15k = 0 → (zwr z.1 ≠ 0 ∧ (vf_n32 (FP.fdiv (FP.i2f x6_15k) (FP.i2f x5_15k)) ∧ (((Op.cmpValue (FP.fcmp (zshare z.1) (FP.fdiv (FP.i2f x6_15k) (FP.i2f x5_15k))) CmpOp.l) = 0 → (jL_totals_244 z x1_15k x3_15k v4 t0_217 Q (1 : Int32))) ∧ (¬ (Op.cmpValue (FP.fcmp (zshare z.1) (FP.fdiv (FP.i2f x6_15k) (FP.i2f x5_15k))) CmpOp.l) = 0 → (jL_totals_244 z x1_15k x3_15k v4 t0_217 Q (0 : Int32)))))))
def lL_totals_139 (z : zG) (x8_129 : Int32) (Q : Int32 → Prop) (K139 : Prop) : Nat → Int32 → Prop
  | 0, _ => False
  | n139 + 1, x9_139 => (x8_129 ≤ x9_139 → (K139)) ∧ (¬ x8_129 ≤ x9_139 → (((zv (s_doorOf z x9_139) [(-13)]) = (zv (s_doorOf z x8_129) [(-13)]) → (Q (0 : Int32))) ∧ (¬ (zv (s_doorOf z x9_139) [(-13)]) = (zv (s_doorOf z x8_129) [(-13)]) → (∀ v50 : Int32, v50 = x9_139 + (1 : Int32) → ((fun x9_139 => lL_totals_139 z x8_129 Q K139 n139 x9_139) v50)))))
def lL_totals_129 (z : zG) (v4 : Int32) (Q : Int32 → Prop) (K129 : Prop) : Nat → Int32 → Prop
  | 0, _ => False
  | n129 + 1, x8_129 => (v4 < x8_129 → (K129)) ∧ (¬ v4 < x8_129 → (lL_totals_139 z x8_129 Q (((zv (s_doorOf z x8_129) [(-13)]) < 0 → (Q (0 : Int32))) ∧ (¬ (zv (s_doorOf z x8_129) [(-13)]) < 0 → ((0 ≤ (zv (s_isRevoked z x8_129) [(-13)]) → (∀ v43 : Int32, v43 = x8_129 + (1 : Int32) → ((fun x8_129 => lL_totals_129 z v4 Q K129 n129 x8_129) v43))) ∧ (¬ 0 ≤ (zv (s_isRevoked z x8_129) [(-13)]) → (Q (0 : Int32)))))) 9 (1 : Int32)))
def lL_totals_83 (z : zG) (x7_15 : Int32) (K83 : Int64 → Prop) : Nat → Int64 → Int32 → Prop
  | 0, _, _ => False
  | n83 + 1, x3_83, x8_83 => ((nI (z.1 1)) ≤ x8_83 → (K83 x3_83)) ∧ (¬ (nI (z.1 1)) ≤ x8_83 → (∀ v82 : Int32, v82 = (if (0 : Int32) < (zv (s_gradeBy z x8_83 x7_15) [(-11), (-13)]) then (zv (s_gradeBy z x8_83 x7_15) [(-11), (-13)]) else (0 : Int32)) → (∀ v83 : Int64, v83 = (x3_83 + (v82).toInt64) → (∀ v84 : Int32, v84 = x8_83 + (1 : Int32) → ((fun x3_83 x8_83 => lL_totals_83 z x7_15 K83 n83 x3_83 x8_83) v83 v84)))))
def jL_totals_77 (z : zG) (x3_15 : Int64) (x6_15 : Int32) (x7_15 : Int32) (v57 : Int32) (v59 : Int32) (v65 : Int32) (N15 : Int32 → Int32 → Int64 → Int32 → Int32 → Int32 → Prop) (t0_77 : Int32) : Prop :=
  ∀ v71 : Int32, v71 = (x6_15 + t0_77) → (lL_totals_83 z x7_15 (fun x3_83k => ∀ v76 : Int32, v76 = x7_15 + (1 : Int32) → (N15 v57 v59 x3_83k v65 v71 v76)) 7 x3_15 (0 : Int32))
def jL_totals_58 (z : zG) (x3_15 : Int64) (x5_15 : Int32) (x6_15 : Int32) (x7_15 : Int32) (v57 : Int32) (v59 : Int32) (N15 : Int32 → Int32 → Int64 → Int32 → Int32 → Int32 → Prop) (t0_58 : Int32) : Prop :=
  ∀ v65 : Int32, v65 = (x5_15 + t0_58) → ((s_passes z x7_15).1 = 0 ∧ (((nI (s_passes z x7_15).2.1) = 0 → (jL_totals_77 z x3_15 x6_15 x7_15 v57 v59 v65 N15 (0 : Int32))) ∧ (¬ (nI (s_passes z x7_15).2.1) = 0 → (jL_totals_77 z x3_15 x6_15 x7_15 v57 v59 v65 N15 (1 : Int32)))))
def lL_totals_15 (z : zG) (K15 : Int32 → Int32 → Int64 → Int32 → Int32 → Prop) : Nat → Int32 → Int32 → Int64 → Int32 → Int32 → Int32 → Prop
  | 0, _, _, _, _, _, _ => False
  | n15 + 1, x1_15, x2_15, x3_15, x5_15, x6_15, x7_15 => ((nI (z.1 0)) ≤ x7_15 → (K15 x1_15 x2_15 x3_15 x5_15 x6_15)) ∧ (¬ (nI (z.1 0)) ≤ x7_15 → ((s_examinersOf z x7_15).1 = 0 ∧ (∀ v57 : Int32, v57 = (x1_15 + (nI (s_examinersOf z x7_15).2.1)) → ((s_gradesOf z x7_15).1 = 0 ∧ (∀ v59 : Int32, v59 = (x2_15 + (nI (s_gradesOf z x7_15).2.1)) → (wL_median x7_15  z (fun r60 => (r60 < 0 → (jL_totals_58 z x3_15 x5_15 x6_15 x7_15 v57 v59 (fun x1_15 x2_15 x3_15 x5_15 x6_15 x7_15 => lL_totals_15 z K15 n15 x1_15 x2_15 x3_15 x5_15 x6_15 x7_15) (0 : Int32))) ∧ (¬ r60 < 0 → (jL_totals_58 z x3_15 x5_15 x6_15 x7_15 v57 v59 (fun x1_15 x2_15 x3_15 x5_15 x6_15 x7_15 => lL_totals_15 z K15 n15 x1_15 x2_15 x3_15 x5_15 x6_15 x7_15) (1 : Int32))))))))))
def wL_totals  (z : zG) (Q : Int32 → Prop) : Prop :=
  ∀ v1 : Int64, v1 = (0 : Int64) → (lL_totals_15 z (fun x1_15k x2_15k x3_15k x5_15k x6_15k => ∀ v4 : Int32, v4 = (nI (z.1 3)) → (lL_totals_129 z v4 Q ((x2_15k = 0 → (jL_totals_217 z x1_15k x3_15k x5_15k x6_15k v4 Q (1 : Int32))) ∧ (¬ x2_15k = 0 → (zgn z.1 ≠ 0 ∧ (vf_n64 (FP.ddiv (FP.l2d x3_15k) (FP.i2d x2_15k)) ∧ (((Op.cmpValue (FP.dcmp (zmean z.1) (FP.ddiv (FP.l2d x3_15k) (FP.i2d x2_15k))) CmpOp.l) = 0 → (jL_totals_217 z x1_15k x3_15k x5_15k x6_15k v4 Q (1 : Int32))) ∧ (¬ (Op.cmpValue (FP.dcmp (zmean z.1) (FP.ddiv (FP.l2d x3_15k) (FP.i2d x2_15k))) CmpOp.l) = 0 → (jL_totals_217 z x1_15k x3_15k x5_15k x6_15k v4 Q (0 : Int32)))))))) 9 (1 : Int32))) 9 (0 : Int32) (0 : Int32) v1 (0 : Int32) (0 : Int32) (0 : Int32))
theorem cs_L_totals : sw_cS yL_totals cL_totals 10 (some .boolean) 1 := ⟨q_703, q_1, q_704, by decide +kernel⟩
set_option maxRecDepth 20000 in
set_option maxHeartbeats 4000000 in
theorem kL_totals (l : Launch) (hst : l.stackTraces = false) (g : sG)  (z : zG) (Q : Int32 → Prop) (h : wL_totals  z Q) : Met l yL_totals (sw_ws yL_totals cL_totals 10 (some .boolean)) { frames := 11, cells := 600, slots := 3627, locals := 209 } (va_Pc [.ref (sw_ad g 0)] (zl_Pr g z)) (va_Qi (fun r z' => Q r ∧ z' = z) (zl_Po g) (sw_A g)) 600 3627 (sw_A g) := by
  refine zl_met (by decide) (Nat.le_of_ble_eq_true rfl) ?_
  intro p e s m args below meth c ls hx hb hr hts hown hml hlocks hW hl
  have hown : s.vm.findClass RL = some m.cls := hown
  have hl : lv_has ls 10 [(0, .ref (sw_ad g 0))] := hl
  obtain ⟨R, hRe⟩ : ∃ R : Room, R = { frames := 11, cells := 600, slots := 3627, locals := 209 } := ⟨_, rfl⟩
  rw [← hRe]
  have hRf : R.frames = 11 := by rw [hRe]
  have hRc : R.cells = 600 := by rw [hRe]
  have hRs : R.slots = 3627 := by rw [hRe]
  have hRl : R.locals = 209 := by rw [hRe]
  clear hRe
  have gc0 : 0 + 600 ≤ R.cells := by rw [hRc]; exact (Nat.le_of_ble_eq_true rfl)
  have gs0 : 0 + 3627 ≤ R.slots := by rw [hRs]; exact (Nat.le_of_ble_eq_true rfl)
  obtain ⟨Q0, hQ0⟩ : ∃ Q0 : State → Prop, Q0 = MQ below (va_Qi (fun r z' => Q r ∧ z' = z) (zl_Po g) (sw_A g)) args s 600 3627 (sw_A g) := ⟨_, rfl⟩
  rw [← hQ0]
  generalize hHs : s.heap = H at hW ⊢
  generalize hLo : ([] : List Loc) = locs at hW ⊢
  unfold wL_totals at h
  refine lv_iconst (v := 0) hx hb dL_totals_0 (by decide) ?_
  refine lv_istore_n (lv' := [(1, .int (0 : Int32)), (0, .ref (sw_ad g 0))]) hx hb dL_totals_1 rfl hl (Nat.le_of_ble_eq_true rfl) rfl (fun ls hl => ?_)
  refine lv_iconst (v := 0) hx hb dL_totals_2 (by decide) ?_
  refine lv_istore_n (lv' := [(2, .int (0 : Int32)), (1, .int (0 : Int32)), (0, .ref (sw_ad g 0))]) hx hb dL_totals_3 rfl hl (Nat.le_of_ble_eq_true rfl) rfl (fun ls hl => ?_)
  refine lv_lconst (v := 0) hx hb dL_totals_4 (by decide) ?_
  refine lv_topl (fun v1 ev1 => ?_)
  replace h := h v1 ev1
  refine lv_lstore_n (lv' := [(3, .long v1), (2, .int (0 : Int32)), (1, .int (0 : Int32)), (0, .ref (sw_ad g 0))]) hx hb dL_totals_5 rfl hl (Nat.le_of_ble_eq_true rfl) rfl (fun ls hl => ?_)
  refine lv_iconst (v := 0) hx hb dL_totals_6 (by decide) ?_
  refine lv_istore (lv' := [(5, .int (0 : Int32)), (3, .long v1), (2, .int (0 : Int32)), (1, .int (0 : Int32)), (0, .ref (sw_ad g 0))]) hx hb dL_totals_7 hl (Nat.le_of_ble_eq_true rfl) rfl (fun ls hl => ?_)
  refine lv_iconst (v := 0) hx hb dL_totals_9 (by decide) ?_
  refine lv_istore (lv' := [(6, .int (0 : Int32)), (5, .int (0 : Int32)), (3, .long v1), (2, .int (0 : Int32)), (1, .int (0 : Int32)), (0, .ref (sw_ad g 0))]) hx hb dL_totals_10 hl (Nat.le_of_ble_eq_true rfl) rfl (fun ls hl => ?_)
  refine lv_iconst (v := 0) hx hb dL_totals_12 (by decide) ?_
  refine lv_istore (lv' := [(7, .int (0 : Int32)), (6, .int (0 : Int32)), (5, .int (0 : Int32)), (3, .long v1), (2, .int (0 : Int32)), (1, .int (0 : Int32)), (0, .ref (sw_ad g 0))]) hx hb dL_totals_13 hl (Nat.le_of_ble_eq_true rfl) rfl (fun ls hl => ?_)
  obtain ⟨CL15, hCL15⟩ : ∃ n : Nat, n = 0 + 414 := ⟨_, rfl⟩
  obtain ⟨SL15, hSL15⟩ : ∃ n : Nat, n = 0 + 2511 := ⟨_, rfl⟩
  have hX15 : ∀ (x1_15k : Int32) (x2_15k : Int32) (x3_15k : Int64) (x5_15k : Int32) (x6_15k : Int32)  (H : Heap) (locs : List Loc) (ls : Array Slot) (cx15 sx15 : Nat), (∀ v4 : Int32, v4 = (nI (z.1 3)) → (lL_totals_129 z v4 Q ((x2_15k = 0 → (jL_totals_217 z x1_15k x3_15k x5_15k x6_15k v4 Q (1 : Int32))) ∧ (¬ x2_15k = 0 → (zgn z.1 ≠ 0 ∧ (vf_n64 (FP.ddiv (FP.l2d x3_15k) (FP.i2d x2_15k)) ∧ (((Op.cmpValue (FP.dcmp (zmean z.1) (FP.ddiv (FP.l2d x3_15k) (FP.i2d x2_15k))) CmpOp.l) = 0 → (jL_totals_217 z x1_15k x3_15k x5_15k x6_15k v4 Q (1 : Int32))) ∧ (¬ (Op.cmpValue (FP.dcmp (zmean z.1) (FP.ddiv (FP.l2d x3_15k) (FP.i2d x2_15k))) CmpOp.l) = 0 → (jL_totals_217 z x1_15k x3_15k x5_15k x6_15k v4 Q (0 : Int32)))))))) 9 (1 : Int32))) → cx15 ≤ CL15 → sx15 ≤ SL15 → zl_Wd g [] z s H locs → lv_has ls 10 [(0, .ref (sw_ad g 0)), (1, .int x1_15k), (2, .int x2_15k), (3, .long x3_15k), (5, .int x5_15k), (6, .int x6_15k)] → W p l e R s m args below meth c H locs cx15 sx15 Q0 (F0 m 120 ls []) := by
    intro x1_15k x2_15k x3_15k x5_15k x6_15k  H locs ls cx15 sx15 h hcx15 hsx15 hW hl
    have g2 : cx15 + 186 ≤ R.cells := zc8 (x := 0) (D := 414) (s := 600) (s' := 186) hcx15 hCL15 gc0 (Nat.le_of_ble_eq_true rfl)
    have g3 : sx15 + 1116 ≤ R.slots := zc8 (x := 0) (D := 2511) (s := 3627) (s' := 1116) hsx15 hSL15 gs0 (Nat.le_of_ble_eq_true rfl)
    refine lv_aload_n hx hb dL_totals_120 rfl (lv_at hl 0 rfl) ?_
    refine zl_ki (g := g) (rest := []) (zl_runV (g := g) (As := []) (rest := []) hx hb hml hown hts (zD_entryCount l (zl_re g H.size) z) cv_X6_entryCount q_706 rfl rfl ⟨by rw [hRf]; exact (Nat.le_of_ble_eq_true rfl), by rw [hRl]; exact (Nat.le_of_ble_eq_true rfl)⟩ hW (Or.inl (Nat.le_of_ble_eq_true rfl)) sl_0 rfl rfl hl.1 rfl (Nat.le_of_ble_eq_true rfl) dL_totals_121 ⟨(zc1 (D := 0) g2 (Nat.le_of_ble_eq_true rfl)), (zc1 (D := 0) g3 (Nat.le_of_ble_eq_true rfl))⟩) hW (fun r9 z9 H locs h9 hW => ?_)
    obtain ⟨rfl, e9⟩ := h9
    rw [e9] at hW
    refine lv_topi (fun v4 ev4 => ?_)
    replace h := h v4 ev4
    refine lv_istore (lv' := [(7, .int v4), (0, .ref (sw_ad g 0)), (1, .int x1_15k), (2, .int x2_15k), (3, .long x3_15k), (5, .int x5_15k), (6, .int x6_15k)]) hx hb dL_totals_124 hl (Nat.le_of_ble_eq_true rfl) rfl (fun ls hl => ?_)
    refine lv_iconst (v := 1) hx hb dL_totals_126 (by decide) ?_
    refine lv_istore (lv' := [(8, .int (1 : Int32)), (7, .int v4), (0, .ref (sw_ad g 0)), (1, .int x1_15k), (2, .int x2_15k), (3, .long x3_15k), (5, .int x5_15k), (6, .int x6_15k)]) hx hb dL_totals_127 hl (Nat.le_of_ble_eq_true rfl) rfl (fun ls hl => ?_)
    obtain ⟨CL129, hCL129⟩ : ∃ n : Nat, n = cx15 + 0 + 180 := ⟨_, rfl⟩
    obtain ⟨SL129, hSL129⟩ : ∃ n : Nat, n = sx15 + 0 + 1080 := ⟨_, rfl⟩
    have hX129 : ∀   (H : Heap) (locs : List Loc) (ls : Array Slot) (cx129 sx129 : Nat), ((x2_15k = 0 → (jL_totals_217 z x1_15k x3_15k x5_15k x6_15k v4 Q (1 : Int32))) ∧ (¬ x2_15k = 0 → (zgn z.1 ≠ 0 ∧ (vf_n64 (FP.ddiv (FP.l2d x3_15k) (FP.i2d x2_15k)) ∧ (((Op.cmpValue (FP.dcmp (zmean z.1) (FP.ddiv (FP.l2d x3_15k) (FP.i2d x2_15k))) CmpOp.l) = 0 → (jL_totals_217 z x1_15k x3_15k x5_15k x6_15k v4 Q (1 : Int32))) ∧ (¬ (Op.cmpValue (FP.dcmp (zmean z.1) (FP.ddiv (FP.l2d x3_15k) (FP.i2d x2_15k))) CmpOp.l) = 0 → (jL_totals_217 z x1_15k x3_15k x5_15k x6_15k v4 Q (0 : Int32)))))))) → cx129 ≤ CL129 → sx129 ≤ SL129 → zl_Wd g [] z s H locs → lv_has ls 10 [(0, .ref (sw_ad g 0)), (1, .int x1_15k), (2, .int x2_15k), (3, .long x3_15k), (5, .int x5_15k), (6, .int x6_15k), (7, .int v4)] → W p l e R s m args below meth c H locs cx129 sx129 Q0 (F0 m 195 ls []) := by
      intro   H locs ls cx129 sx129 h hcx129 hsx129 hW hl
      have g5 : cx129 + 6 ≤ R.cells := zc8 (x := cx15) (D := 180) (s := 186) (s' := 6) hcx129 hCL129 g2 (Nat.le_of_ble_eq_true rfl)
      have g6 : sx129 + 36 ≤ R.slots := zc8 (x := sx15) (D := 1080) (s := 1116) (s' := 36) hsx129 hSL129 g3 (Nat.le_of_ble_eq_true rfl)
      refine lv_iload_n hx hb dL_totals_195 rfl (lv_at hl 2 rfl) ?_
      obtain ⟨CJ217, hCJ217⟩ : ∃ n : Nat, n = cx129 + 1 := ⟨_, rfl⟩
      obtain ⟨SJ217, hSJ217⟩ : ∃ n : Nat, n = sx129 + 6 := ⟨_, rfl⟩
      have hJ217 : ∀ (t0_217 : Int32) (H : Heap) (locs : List Loc) (ls : Array Slot) (cj217 sj217 : Nat), jL_totals_217 z x1_15k x3_15k x5_15k x6_15k v4 Q t0_217 → cj217 ≤ CJ217 → sj217 ≤ SJ217 → zl_Wd g [] z s H locs → lv_has ls 10 [(0, .ref (sw_ad g 0)), (1, .int x1_15k), (3, .long x3_15k), (5, .int x5_15k), (6, .int x6_15k), (7, .int v4)] → W p l e R s m args below meth c H locs cj217 sj217 Q0 (F0 m 217 ls [.int t0_217]) := by
        intro t0_217 H locs ls cj217 sj217 h hcj217 hsj217 hW hl
        unfold jL_totals_217 at h
        have g7 : cj217 + 5 ≤ R.cells := zc8 (x := cx129) (D := 1) (s := 6) (s' := 5) hcj217 hCJ217 g5 (Nat.le_of_ble_eq_true rfl)
        have g8 : sj217 + 30 ≤ R.slots := zc8 (x := sx129) (D := 6) (s := 36) (s' := 30) hsj217 hSJ217 g6 (Nat.le_of_ble_eq_true rfl)
        refine lv_istore (lv' := [(8, .int t0_217), (0, .ref (sw_ad g 0)), (1, .int x1_15k), (3, .long x3_15k), (5, .int x5_15k), (6, .int x6_15k), (7, .int v4)]) hx hb dL_totals_217 hl (Nat.le_of_ble_eq_true rfl) rfl (fun ls hl => ?_)
        refine lv_iload hx hb dL_totals_219 (lv_at hl 4 rfl) ?_
        obtain ⟨CJ244, hCJ244⟩ : ∃ n : Nat, n = cj217 + 1 := ⟨_, rfl⟩
        obtain ⟨SJ244, hSJ244⟩ : ∃ n : Nat, n = sj217 + 6 := ⟨_, rfl⟩
        have hJ244 : ∀ (t0_244 : Int32) (H : Heap) (locs : List Loc) (ls : Array Slot) (cj244 sj244 : Nat), jL_totals_244 z x1_15k x3_15k v4 t0_217 Q t0_244 → cj244 ≤ CJ244 → sj244 ≤ SJ244 → zl_Wd g [] z s H locs → lv_has ls 10 [(0, .ref (sw_ad g 0)), (1, .int x1_15k), (3, .long x3_15k), (7, .int v4), (8, .int t0_217)] → W p l e R s m args below meth c H locs cj244 sj244 Q0 (F0 m 244 ls [.int t0_244]) := by
          intro t0_244 H locs ls cj244 sj244 h hcj244 hsj244 hW hl
          unfold jL_totals_244 at h
          have g9 : cj244 + 4 ≤ R.cells := zc8 (x := cj217) (D := 1) (s := 5) (s' := 4) hcj244 hCJ244 g7 (Nat.le_of_ble_eq_true rfl)
          have g10 : sj244 + 24 ≤ R.slots := zc8 (x := sj217) (D := 6) (s := 30) (s' := 24) hsj244 hSJ244 g8 (Nat.le_of_ble_eq_true rfl)
          refine lv_istore (lv' := [(9, .int t0_244), (0, .ref (sw_ad g 0)), (1, .int x1_15k), (3, .long x3_15k), (7, .int v4), (8, .int t0_217)]) hx hb dL_totals_244 hl (Nat.le_of_ble_eq_true rfl) rfl (fun ls hl => ?_)
          refine lv_iload hx hb dL_totals_246 (lv_at hl 5 rfl) ?_
          refine lv_if_eq (tgt := 338) hx hb dL_totals_248 (by decide) (fun k11 => ?_) (fun k11 => ?_)
          · replace h := h.1 k11
            refine lv_iconst (v := 0) hx hb dL_totals_338 (by decide) ?_
            subst hQ0
            refine W.widen (k := 600) (n := 3627) (Nat.le_trans (zc1 (D := 0) g9 (Nat.le_of_ble_eq_true rfl)) (Nat.le_of_eq hRc)) (Nat.le_trans (zc1 (D := 0) g10 (Nat.le_of_ble_eq_true rfl)) (Nat.le_of_eq hRs)) ?_
            exact zl_ri hx hb hr hlocks hW (by decide) ⟨h, rfl⟩ dL_totals_339
          · replace h := h.2 k11
            refine lv_iload hx hb dL_totals_251 (lv_at hl 0 rfl) ?_
            refine lv_if_eq (tgt := 338) hx hb dL_totals_253 (by decide) (fun k12 => ?_) (fun k12 => ?_)
            · replace h := h.1 k12
              refine lv_iconst (v := 0) hx hb dL_totals_338 (by decide) ?_
              subst hQ0
              refine W.widen (k := 600) (n := 3627) (Nat.le_trans (zc1 (D := 0) g9 (Nat.le_of_ble_eq_true rfl)) (Nat.le_of_eq hRc)) (Nat.le_trans (zc1 (D := 0) g10 (Nat.le_of_ble_eq_true rfl)) (Nat.le_of_eq hRs)) ?_
              exact zl_ri hx hb hr hlocks hW (by decide) ⟨h, rfl⟩ dL_totals_339
            · replace h := h.2 k12
              refine lv_aload_n hx hb dL_totals_256 rfl (lv_at hl 1 rfl) ?_
              refine zl_ki (g := g) (rest := []) (zl_runV (g := g) (As := []) (rest := []) hx hb hml hown hts (zD_assignments l (zl_re g H.size) z) cv_X6_assignments q_749 rfl rfl ⟨by rw [hRf]; exact (Nat.le_of_ble_eq_true rfl), by rw [hRl]; exact (Nat.le_of_ble_eq_true rfl)⟩ hW (Or.inl (Nat.le_of_ble_eq_true rfl)) sl_0 rfl rfl hl.1 rfl (Nat.le_of_ble_eq_true rfl) dL_totals_257 ⟨(zc1 (D := 0) g9 (Nat.le_of_ble_eq_true rfl)), (zc1 (D := 0) g10 (Nat.le_of_ble_eq_true rfl))⟩) hW (fun r9 z9 H locs h9 hW => ?_)
              obtain ⟨rfl, e9⟩ := h9
              rw [e9] at hW
              refine lv_iload_n hx hb dL_totals_260 rfl (lv_at hl 2 rfl) ?_
              refine lv_icmp_ne (tgt := 338) hx hb dL_totals_261 (by decide) (fun k13 => ?_) (fun k13 => ?_)
              · replace h := h.2 k13
                refine lv_iconst (v := 0) hx hb dL_totals_338 (by decide) ?_
                subst hQ0
                refine W.widen (k := 600) (n := 3627) (Nat.le_trans (zc1 (D := 0) g9 (Nat.le_of_ble_eq_true rfl)) (Nat.le_of_eq hRc)) (Nat.le_trans (zc1 (D := 0) g10 (Nat.le_of_ble_eq_true rfl)) (Nat.le_of_eq hRs)) ?_
                exact zl_ri hx hb hr hlocks hW (by decide) ⟨h, rfl⟩ dL_totals_339
              · replace h := h.1 k13
                refine lv_aload_n hx hb dL_totals_264 rfl (lv_at hl 1 rfl) ?_
                refine zl_ki (g := g) (rest := []) (zl_runV (g := g) (As := []) (rest := []) hx hb hml hown hts (zD_assignmentsByDoors l (zl_re g H.size) z) cv_X6_assignmentsByDoors q_753 rfl rfl ⟨by rw [hRf]; exact (Nat.le_of_ble_eq_true rfl), by rw [hRl]; exact (Nat.le_of_ble_eq_true rfl)⟩ hW (Or.inl (Nat.le_of_ble_eq_true rfl)) sl_0 rfl rfl hl.1 rfl (Nat.le_of_ble_eq_true rfl) dL_totals_265 ⟨(zc1 (D := 0) g9 (Nat.le_of_ble_eq_true rfl)), (zc1 (D := 0) g10 (Nat.le_of_ble_eq_true rfl))⟩) hW (fun r9 z9 H locs h9 hW => ?_)
                obtain ⟨rfl, e9⟩ := h9
                rw [e9] at hW
                refine lv_iload_n hx hb dL_totals_268 rfl (lv_at hl 2 rfl) ?_
                refine lv_icmp_ne (tgt := 338) hx hb dL_totals_269 (by decide) (fun k14 => ?_) (fun k14 => ?_)
                · replace h := h.2 k14
                  refine lv_iconst (v := 0) hx hb dL_totals_338 (by decide) ?_
                  subst hQ0
                  refine W.widen (k := 600) (n := 3627) (Nat.le_trans (zc1 (D := 0) g9 (Nat.le_of_ble_eq_true rfl)) (Nat.le_of_eq hRc)) (Nat.le_trans (zc1 (D := 0) g10 (Nat.le_of_ble_eq_true rfl)) (Nat.le_of_eq hRs)) ?_
                  exact zl_ri hx hb hr hlocks hW (by decide) ⟨h, rfl⟩ dL_totals_339
                · replace h := h.1 k14
                  refine lv_aload_n hx hb dL_totals_272 rfl (lv_at hl 1 rfl) ?_
                  refine zl_kl (g := g) (rest := []) (zl_runV (g := g) (As := []) (rest := []) hx hb hml hown hts (zD_gradeTotal l (zl_re g H.size) z) cv_X6_gradeTotal q_757 rfl rfl ⟨by rw [hRf]; exact (Nat.le_of_ble_eq_true rfl), by rw [hRl]; exact (Nat.le_of_ble_eq_true rfl)⟩ hW (Or.inl (Nat.le_of_ble_eq_true rfl)) sl_0 rfl rfl hl.1 rfl (Nat.le_of_ble_eq_true rfl) dL_totals_273 ⟨(zc1 (D := 0) g9 (Nat.le_of_ble_eq_true rfl)), (zc1 (D := 0) g10 (Nat.le_of_ble_eq_true rfl))⟩) hW (fun r9 z9 H locs h9 hW => ?_)
                  obtain ⟨rfl, e9⟩ := h9
                  rw [e9] at hW
                  refine lv_lload_n hx hb dL_totals_276 rfl (lv_at hl 3 rfl) ?_
                  refine W.lcmp hx hb dL_totals_277 ?_
                  refine lv_if_ne (tgt := 338) hx hb dL_totals_278 (by decide) (fun k15 => ?_) (fun k15 => ?_)
                  · replace h := h.2 k15
                    refine lv_iconst (v := 0) hx hb dL_totals_338 (by decide) ?_
                    subst hQ0
                    refine W.widen (k := 600) (n := 3627) (Nat.le_trans (zc1 (D := 0) g9 (Nat.le_of_ble_eq_true rfl)) (Nat.le_of_eq hRc)) (Nat.le_trans (zc1 (D := 0) g10 (Nat.le_of_ble_eq_true rfl)) (Nat.le_of_eq hRs)) ?_
                    exact zl_ri hx hb hr hlocks hW (by decide) ⟨h, rfl⟩ dL_totals_339
                  · replace h := h.1 k15
                    refine lv_aload_n hx hb dL_totals_281 rfl (lv_at hl 1 rfl) ?_
                    refine zl_ki (g := g) (rest := []) (zl_runV (g := g) (As := []) (rest := []) hx hb hml hown hts (zD_isConsistent l (zl_re g H.size) z) cv_X6_isConsistent q_758 rfl rfl ⟨by rw [hRf]; exact (Nat.le_of_ble_eq_true rfl), by rw [hRl]; exact (Nat.le_of_ble_eq_true rfl)⟩ hW (Or.inl (Nat.le_of_ble_eq_true rfl)) sl_0 rfl rfl hl.1 rfl (Nat.le_of_ble_eq_true rfl) dL_totals_282 ⟨(zc1 (D := 0) g9 (Nat.le_of_ble_eq_true rfl)), (zc1 (D := 0) g10 (Nat.le_of_ble_eq_true rfl))⟩) hW (fun r9 z9 H locs h9 hW => ?_)
                    obtain ⟨rfl, e9⟩ := h9
                    rw [e9] at hW
                    refine lv_if_eq (tgt := 338) hx hb dL_totals_285 (by decide) (fun k => absurd k (by decide)) (fun _ => ?_)
                    refine lv_aload_n hx hb dL_totals_288 rfl (lv_at hl 1 rfl) ?_
                    refine lv_iconst (v := 0) hx hb dL_totals_289 (by decide) ?_
                    refine zl_ki (g := g) (rest := []) (zl_runH (g := g) (As := [.ref (sw_ad g 0), .int (0 : Int32)]) (rest := []) hx hb hml hown hts (kL_doorOf l hst (zl_re g H.size) z ((0 : Int32))) ch_L_doorOf q_710 rfl rfl ⟨by rw [hRf]; exact (Nat.le_of_ble_eq_true rfl), by rw [hRl]; exact (Nat.le_of_ble_eq_true rfl)⟩ hW rfl hl.1 rfl (Nat.le_of_ble_eq_true rfl) dL_totals_290 ⟨(zc1 (D := 1) g9 (Nat.le_of_ble_eq_true rfl)), (zc1 (D := 6) g10 (Nat.le_of_ble_eq_true rfl))⟩) hW (fun r9 z9 H locs h9 hW => ?_)
                    obtain ⟨rfl, e9⟩ := h9
                    rw [e9, s_doorOf_z] at hW
                    refine lv_bipush (v := -13) hx hb dL_totals_293 (by decide) ?_
                    refine lv_icmp_ne (tgt := 338) hx hb dL_totals_295 (by decide) (fun k16 => ?_) (fun k16 => ?_)
                    · replace h := h.2 k16
                      refine lv_iconst (v := 0) hx hb dL_totals_338 (by decide) ?_
                      subst hQ0
                      refine W.widen (k := 600) (n := 3627) (Nat.le_trans (zc1 (D := 1) g9 (Nat.le_of_ble_eq_true rfl)) (Nat.le_of_eq hRc)) (Nat.le_trans (zc1 (D := 6) g10 (Nat.le_of_ble_eq_true rfl)) (Nat.le_of_eq hRs)) ?_
                      exact zl_ri hx hb hr hlocks hW (by decide) ⟨h, rfl⟩ dL_totals_339
                    · replace h := h.1 k16
                      refine lv_aload_n hx hb dL_totals_298 rfl (lv_at hl 1 rfl) ?_
                      refine lv_iload hx hb dL_totals_299 (lv_at hl 4 rfl) ?_
                      refine lv_iconst (v := 1) hx hb dL_totals_301 (by decide) ?_
                      refine lv_iadd hx hb dL_totals_302 ?_
                      refine zl_ki (g := g) (rest := []) (zl_runH (g := g) (As := [.ref (sw_ad g 0), .int (v4 + (1 : Int32))]) (rest := []) hx hb hml hown hts (kL_doorOf l hst (zl_re g H.size) z ((v4 + (1 : Int32)))) ch_L_doorOf q_710 rfl rfl ⟨by rw [hRf]; exact (Nat.le_of_ble_eq_true rfl), by rw [hRl]; exact (Nat.le_of_ble_eq_true rfl)⟩ hW rfl hl.1 rfl (Nat.le_of_ble_eq_true rfl) dL_totals_303 ⟨(zc1 (D := 2) g9 (Nat.le_of_ble_eq_true rfl)), (zc1 (D := 12) g10 (Nat.le_of_ble_eq_true rfl))⟩) hW (fun r9 z9 H locs h9 hW => ?_)
                      obtain ⟨rfl, e9⟩ := h9
                      rw [e9, s_doorOf_z] at hW
                      refine lv_bipush (v := -13) hx hb dL_totals_306 (by decide) ?_
                      refine lv_icmp_ne (tgt := 338) hx hb dL_totals_308 (by decide) (fun k17 => ?_) (fun k17 => ?_)
                      · replace h := h.2 k17
                        refine lv_iconst (v := 0) hx hb dL_totals_338 (by decide) ?_
                        subst hQ0
                        refine W.widen (k := 600) (n := 3627) (Nat.le_trans (zc1 (D := 2) g9 (Nat.le_of_ble_eq_true rfl)) (Nat.le_of_eq hRc)) (Nat.le_trans (zc1 (D := 12) g10 (Nat.le_of_ble_eq_true rfl)) (Nat.le_of_eq hRs)) ?_
                        exact zl_ri hx hb hr hlocks hW (by decide) ⟨h, rfl⟩ dL_totals_339
                      · replace h := h.1 k17
                        refine lv_aload_n hx hb dL_totals_311 rfl (lv_at hl 1 rfl) ?_
                        refine lv_iconst (v := 0) hx hb dL_totals_312 (by decide) ?_
                        refine zl_ki (g := g) (rest := []) (zl_runH (g := g) (As := [.ref (sw_ad g 0), .int (0 : Int32)]) (rest := []) hx hb hml hown hts (kL_isRevoked l hst (zl_re g H.size) z ((0 : Int32))) ch_L_isRevoked q_723 rfl rfl ⟨by rw [hRf]; exact (Nat.le_of_ble_eq_true rfl), by rw [hRl]; exact (Nat.le_of_ble_eq_true rfl)⟩ hW rfl hl.1 rfl (Nat.le_of_ble_eq_true rfl) dL_totals_313 ⟨(zc1 (D := 3) g9 (Nat.le_of_ble_eq_true rfl)), (zc1 (D := 18) g10 (Nat.le_of_ble_eq_true rfl))⟩) hW (fun r9 z9 H locs h9 hW => ?_)
                        obtain ⟨rfl, e9⟩ := h9
                        rw [e9, s_isRevoked_z] at hW
                        refine lv_bipush (v := -13) hx hb dL_totals_316 (by decide) ?_
                        refine lv_icmp_ne (tgt := 338) hx hb dL_totals_318 (by decide) (fun k18 => ?_) (fun k18 => ?_)
                        · replace h := h.2 k18
                          refine lv_iconst (v := 0) hx hb dL_totals_338 (by decide) ?_
                          subst hQ0
                          refine W.widen (k := 600) (n := 3627) (Nat.le_trans (zc1 (D := 3) g9 (Nat.le_of_ble_eq_true rfl)) (Nat.le_of_eq hRc)) (Nat.le_trans (zc1 (D := 18) g10 (Nat.le_of_ble_eq_true rfl)) (Nat.le_of_eq hRs)) ?_
                          exact zl_ri hx hb hr hlocks hW (by decide) ⟨h, rfl⟩ dL_totals_339
                        · replace h := h.1 k18
                          refine lv_aload_n hx hb dL_totals_321 rfl (lv_at hl 1 rfl) ?_
                          refine lv_iload hx hb dL_totals_322 (lv_at hl 4 rfl) ?_
                          refine lv_iconst (v := 1) hx hb dL_totals_324 (by decide) ?_
                          refine lv_iadd hx hb dL_totals_325 ?_
                          refine zl_ki (g := g) (rest := []) (zl_runH (g := g) (As := [.ref (sw_ad g 0), .int (v4 + (1 : Int32))]) (rest := []) hx hb hml hown hts (kL_isRevoked l hst (zl_re g H.size) z ((v4 + (1 : Int32)))) ch_L_isRevoked q_723 rfl rfl ⟨by rw [hRf]; exact (Nat.le_of_ble_eq_true rfl), by rw [hRl]; exact (Nat.le_of_ble_eq_true rfl)⟩ hW rfl hl.1 rfl (Nat.le_of_ble_eq_true rfl) dL_totals_326 ⟨(zc1 (D := 4) g9 (Nat.le_of_ble_eq_true rfl)), (zc1 (D := 24) g10 (Nat.le_of_ble_eq_true rfl))⟩) hW (fun r9 z9 H locs h9 hW => ?_)
                          obtain ⟨rfl, e9⟩ := h9
                          rw [e9, s_isRevoked_z] at hW
                          refine lv_bipush (v := -13) hx hb dL_totals_329 (by decide) ?_
                          refine lv_icmp_ne (tgt := 338) hx hb dL_totals_331 (by decide) (fun k19 => ?_) (fun k19 => ?_)
                          · replace h := h.2 k19
                            refine lv_iconst (v := 0) hx hb dL_totals_338 (by decide) ?_
                            subst hQ0
                            refine W.widen (k := 600) (n := 3627) (Nat.le_trans (zc1 (D := 4) g9 (Nat.le_of_ble_eq_true rfl)) (Nat.le_of_eq hRc)) (Nat.le_trans (zc1 (D := 24) g10 (Nat.le_of_ble_eq_true rfl)) (Nat.le_of_eq hRs)) ?_
                            exact zl_ri hx hb hr hlocks hW (by decide) ⟨h, rfl⟩ dL_totals_339
                          · replace h := h.1 k19
                            refine lv_iconst (v := 1) hx hb dL_totals_334 (by decide) ?_
                            refine lv_goto (tgt := 339) hx hb dL_totals_335 (by decide) ?_
                            subst hQ0
                            refine W.widen (k := 600) (n := 3627) (Nat.le_trans (zc1 (D := 4) g9 (Nat.le_of_ble_eq_true rfl)) (Nat.le_of_eq hRc)) (Nat.le_trans (zc1 (D := 24) g10 (Nat.le_of_ble_eq_true rfl)) (Nat.le_of_eq hRs)) ?_
                            exact zl_ri hx hb hr hlocks hW (by decide) ⟨h, rfl⟩ dL_totals_339
        have g20 : cj217 + 1 ≤ CJ244 := Nat.le_of_eq hCJ244.symm
        have g21 : sj217 + 6 ≤ SJ244 := Nat.le_of_eq hSJ244.symm
        refine lv_if_eq (tgt := 239) hx hb dL_totals_221 (by decide) (fun k22 => ?_) (fun k22 => ?_)
        · replace h := h.1 k22
          refine lv_iconst (v := 1) hx hb dL_totals_239 (by decide) ?_
          refine lv_goto (tgt := 244) hx hb dL_totals_240 (by decide) ?_
          exact hJ244 (1 : Int32) _ _ _ _ _ h (zc1 (D := 0) g20 (Nat.le_of_ble_eq_true rfl)) (zc1 (D := 0) g21 (Nat.le_of_ble_eq_true rfl)) hW (lv_sub hl [1, 2, 3, 6, 0] rfl)
        · replace h := h.2 k22
          refine lv_aload_n hx hb dL_totals_224 rfl (lv_at hl 1 rfl) ?_
          have y23 := h.1
          replace h := h.2
          refine zl_kf (g := g) (rest := []) (zl_runV (g := g) (As := []) (rest := []) hx hb hml hown hts (zD_passShare l hst (zl_re g H.size) z y23) cv_X6_passShare q_745 rfl rfl ⟨by rw [hRf]; exact (Nat.le_of_ble_eq_true rfl), by rw [hRl]; exact (Nat.le_of_ble_eq_true rfl)⟩ hW (Or.inl (Nat.le_of_ble_eq_true rfl)) sl_0 rfl rfl hl.1 rfl (Nat.le_of_ble_eq_true rfl) dL_totals_225 ⟨(zc1 (D := 1) g7 (Nat.le_of_ble_eq_true rfl)), (zc1 (D := 6) g8 (Nat.le_of_ble_eq_true rfl))⟩) hW (fun r9 z9 H locs h9 hW => ?_)
          clear y23
          obtain ⟨rfl, e9⟩ := h9
          rw [e9] at hW
          refine lv_iload hx hb dL_totals_228 (lv_at hl 5 rfl) ?_
          refine lv_i2f hx hb dL_totals_230 ?_
          refine lv_iload hx hb dL_totals_231 (lv_at hl 4 rfl) ?_
          refine lv_i2f hx hb dL_totals_233 ?_
          have y24 := h.1
          replace h := h.2
          refine lv_fdiv hx hb dL_totals_234 y24 ?_
          refine lv_fcmp hx hb dL_totals_235 ?_
          refine lv_if_ne (tgt := 243) hx hb dL_totals_236 (by decide) (fun k25 => ?_) (fun k25 => ?_)
          · replace h := h.2 k25
            refine lv_iconst (v := 0) hx hb dL_totals_243 (by decide) ?_
            exact hJ244 (0 : Int32) _ _ _ _ _ h (zc1 (D := 1) g20 (Nat.le_of_ble_eq_true rfl)) (zc1 (D := 6) g21 (Nat.le_of_ble_eq_true rfl)) hW (lv_sub hl [1, 2, 3, 6, 0] rfl)
          · replace h := h.1 k25
            refine lv_iconst (v := 1) hx hb dL_totals_239 (by decide) ?_
            refine lv_goto (tgt := 244) hx hb dL_totals_240 (by decide) ?_
            exact hJ244 (1 : Int32) _ _ _ _ _ h (zc1 (D := 1) g20 (Nat.le_of_ble_eq_true rfl)) (zc1 (D := 6) g21 (Nat.le_of_ble_eq_true rfl)) hW (lv_sub hl [1, 2, 3, 6, 0] rfl)
      have g26 : cx129 + 1 ≤ CJ217 := Nat.le_of_eq hCJ217.symm
      have g27 : sx129 + 6 ≤ SJ217 := Nat.le_of_eq hSJ217.symm
      refine lv_if_eq (tgt := 212) hx hb dL_totals_196 (by decide) (fun k28 => ?_) (fun k28 => ?_)
      · replace h := h.1 k28
        refine lv_iconst (v := 1) hx hb dL_totals_212 (by decide) ?_
        refine lv_goto (tgt := 217) hx hb dL_totals_213 (by decide) ?_
        exact hJ217 (1 : Int32) _ _ _ _ _ h (zc1 (D := 0) g26 (Nat.le_of_ble_eq_true rfl)) (zc1 (D := 0) g27 (Nat.le_of_ble_eq_true rfl)) hW (lv_sub hl [0, 1, 3, 4, 5, 6] rfl)
      · replace h := h.2 k28
        refine lv_aload_n hx hb dL_totals_199 rfl (lv_at hl 0 rfl) ?_
        have y29 := h.1
        replace h := h.2
        refine zl_kd (g := g) (rest := []) (zl_runV (g := g) (As := []) (rest := []) hx hb hml hown hts (zD_meanGrade l hst (zl_re g H.size) z y29) cv_X6_meanGrade q_729 rfl rfl ⟨by rw [hRf]; exact (Nat.le_of_ble_eq_true rfl), by rw [hRl]; exact (Nat.le_of_ble_eq_true rfl)⟩ hW (Or.inl (Nat.le_of_ble_eq_true rfl)) sl_0 rfl rfl hl.1 rfl (Nat.le_of_ble_eq_true rfl) dL_totals_200 ⟨(zc1 (D := 1) g5 (Nat.le_of_ble_eq_true rfl)), (zc1 (D := 6) g6 (Nat.le_of_ble_eq_true rfl))⟩) hW (fun r9 z9 H locs h9 hW => ?_)
        clear y29
        obtain ⟨rfl, e9⟩ := h9
        rw [e9] at hW
        refine lv_lload_n hx hb dL_totals_203 rfl (lv_at hl 3 rfl) ?_
        refine lv_l2d hx hb dL_totals_204 ?_
        refine lv_iload_n hx hb dL_totals_205 rfl (lv_at hl 2 rfl) ?_
        refine lv_i2d hx hb dL_totals_206 ?_
        have y30 := h.1
        replace h := h.2
        refine lv_ddiv hx hb dL_totals_207 y30 ?_
        refine lv_dcmp hx hb dL_totals_208 ?_
        refine lv_if_ne (tgt := 216) hx hb dL_totals_209 (by decide) (fun k31 => ?_) (fun k31 => ?_)
        · replace h := h.2 k31
          refine lv_iconst (v := 0) hx hb dL_totals_216 (by decide) ?_
          exact hJ217 (0 : Int32) _ _ _ _ _ h (zc1 (D := 1) g26 (Nat.le_of_ble_eq_true rfl)) (zc1 (D := 6) g27 (Nat.le_of_ble_eq_true rfl)) hW (lv_sub hl [0, 1, 3, 4, 5, 6] rfl)
        · replace h := h.1 k31
          refine lv_iconst (v := 1) hx hb dL_totals_212 (by decide) ?_
          refine lv_goto (tgt := 217) hx hb dL_totals_213 (by decide) ?_
          exact hJ217 (1 : Int32) _ _ _ _ _ h (zc1 (D := 1) g26 (Nat.le_of_ble_eq_true rfl)) (zc1 (D := 6) g27 (Nat.le_of_ble_eq_true rfl)) hW (lv_sub hl [0, 1, 3, 4, 5, 6] rfl)
    have key129 : ∀ (n129 : Nat) (x8_129 : Int32)  (H : Heap) (locs : List Loc) (ls : Array Slot) (cn129 sn129 : Nat), lL_totals_129 z v4 Q ((x2_15k = 0 → (jL_totals_217 z x1_15k x3_15k x5_15k x6_15k v4 Q (1 : Int32))) ∧ (¬ x2_15k = 0 → (zgn z.1 ≠ 0 ∧ (vf_n64 (FP.ddiv (FP.l2d x3_15k) (FP.i2d x2_15k)) ∧ (((Op.cmpValue (FP.dcmp (zmean z.1) (FP.ddiv (FP.l2d x3_15k) (FP.i2d x2_15k))) CmpOp.l) = 0 → (jL_totals_217 z x1_15k x3_15k x5_15k x6_15k v4 Q (1 : Int32))) ∧ (¬ (Op.cmpValue (FP.dcmp (zmean z.1) (FP.ddiv (FP.l2d x3_15k) (FP.i2d x2_15k))) CmpOp.l) = 0 → (jL_totals_217 z x1_15k x3_15k x5_15k x6_15k v4 Q (0 : Int32)))))))) n129 x8_129 → cn129 + n129 * 20 ≤ CL129 → sn129 + n129 * 120 ≤ SL129 → zl_Wd g [] z s H locs → lv_has ls 10 [(0, .ref (sw_ad g 0)), (1, .int x1_15k), (2, .int x2_15k), (3, .long x3_15k), (5, .int x5_15k), (6, .int x6_15k), (7, .int v4), (8, .int x8_129)] → W p l e R s m args below meth c H locs cn129 sn129 Q0 (F0 m 129 ls []) := by
      intro n129
      induction n129 with
      | zero =>
        intro x8_129  H locs ls cn129 sn129 h
        exact False.elim h
      | succ n129 ih129 =>
        intro x8_129  H locs ls cn129 sn129 h hcn129 hsn129 hW hl
        rw [lL_totals_129.eq_2] at h
        obtain ⟨Tcn129, hTcn129⟩ : ∃ n : Nat, n = cn129 + 20 := ⟨_, rfl⟩
        obtain ⟨Tsn129, hTsn129⟩ : ∃ n : Nat, n = sn129 + 120 := ⟨_, rfl⟩
        have g32 : cn129 + 20 ≤ Tcn129 := Nat.le_of_eq hTcn129.symm
        have g33 : sn129 + 120 ≤ Tsn129 := Nat.le_of_eq hTsn129.symm
        have g34 : cn129 + 26 ≤ R.cells := zc9 (x := cx15) (D := 180) (s := 186) (t := 26) hcn129 hCL129 g2 (Nat.le_of_ble_eq_true rfl)
        have g35 : sn129 + 156 ≤ R.slots := zc9 (x := sx15) (D := 1080) (s := 1116) (t := 156) hsn129 hSL129 g3 (Nat.le_of_ble_eq_true rfl)
        refine lv_iload hx hb dL_totals_129 (lv_at hl 7 rfl) ?_
        refine lv_iload hx hb dL_totals_131 (lv_at hl 6 rfl) ?_
        refine lv_icmp_gt (tgt := 195) hx hb dL_totals_133 (by decide) (fun k36 => ?_) (fun k36 => ?_)
        · replace h := h.1 k36
          exact hX129  _ _ _ _ _ h (zc11 (zc1 (D := 0) g32 (Nat.le_of_ble_eq_true rfl)) hTcn129 hcn129) (zc11 (zc1 (D := 0) g33 (Nat.le_of_ble_eq_true rfl)) hTsn129 hsn129) hW (lv_sub hl [0, 1, 2, 3, 4, 5, 6] rfl)
        · replace h := h.2 k36
          refine lv_iconst (v := 1) hx hb dL_totals_136 (by decide) ?_
          refine lv_istore (lv' := [(9, .int (1 : Int32)), (0, .ref (sw_ad g 0)), (1, .int x1_15k), (2, .int x2_15k), (3, .long x3_15k), (5, .int x5_15k), (6, .int x6_15k), (7, .int v4), (8, .int x8_129)]) hx hb dL_totals_137 hl (Nat.le_of_ble_eq_true rfl) rfl (fun ls hl => ?_)
          obtain ⟨CL139, hCL139⟩ : ∃ n : Nat, n = cn129 + 18 := ⟨_, rfl⟩
          obtain ⟨SL139, hSL139⟩ : ∃ n : Nat, n = sn129 + 108 := ⟨_, rfl⟩
          have hX139 : ∀   (H : Heap) (locs : List Loc) (ls : Array Slot) (cx139 sx139 : Nat), (((zv (s_doorOf z x8_129) [(-13)]) < 0 → (Q (0 : Int32))) ∧ (¬ (zv (s_doorOf z x8_129) [(-13)]) < 0 → ((0 ≤ (zv (s_isRevoked z x8_129) [(-13)]) → (∀ v43 : Int32, v43 = x8_129 + (1 : Int32) → ((fun x8_129 => lL_totals_129 z v4 Q ((x2_15k = 0 → (jL_totals_217 z x1_15k x3_15k x5_15k x6_15k v4 Q (1 : Int32))) ∧ (¬ x2_15k = 0 → (zgn z.1 ≠ 0 ∧ (vf_n64 (FP.ddiv (FP.l2d x3_15k) (FP.i2d x2_15k)) ∧ (((Op.cmpValue (FP.dcmp (zmean z.1) (FP.ddiv (FP.l2d x3_15k) (FP.i2d x2_15k))) CmpOp.l) = 0 → (jL_totals_217 z x1_15k x3_15k x5_15k x6_15k v4 Q (1 : Int32))) ∧ (¬ (Op.cmpValue (FP.dcmp (zmean z.1) (FP.ddiv (FP.l2d x3_15k) (FP.i2d x2_15k))) CmpOp.l) = 0 → (jL_totals_217 z x1_15k x3_15k x5_15k x6_15k v4 Q (0 : Int32)))))))) n129 x8_129) v43))) ∧ (¬ 0 ≤ (zv (s_isRevoked z x8_129) [(-13)]) → (Q (0 : Int32)))))) → cx139 ≤ CL139 → sx139 ≤ SL139 → zl_Wd g [] z s H locs → lv_has ls 10 [(0, .ref (sw_ad g 0)), (1, .int x1_15k), (2, .int x2_15k), (3, .long x3_15k), (5, .int x5_15k), (6, .int x6_15k), (7, .int v4), (8, .int x8_129)] → W p l e R s m args below meth c H locs cx139 sx139 Q0 (F0 m 169 ls []) := by
            intro   H locs ls cx139 sx139 h hcx139 hsx139 hW hl
            have g37 : cx139 + 8 ≤ R.cells := zc8 (x := cn129) (D := 18) (s := 26) (s' := 8) hcx139 hCL139 g34 (Nat.le_of_ble_eq_true rfl)
            have g38 : cx139 + 2 ≤ Tcn129 := zc8 (x := cn129) (D := 18) (s := 20) (s' := 2) hcx139 hCL139 g32 (Nat.le_of_ble_eq_true rfl)
            have g39 : sx139 + 48 ≤ R.slots := zc8 (x := sn129) (D := 108) (s := 156) (s' := 48) hsx139 hSL139 g35 (Nat.le_of_ble_eq_true rfl)
            have g40 : sx139 + 12 ≤ Tsn129 := zc8 (x := sn129) (D := 108) (s := 120) (s' := 12) hsx139 hSL139 g33 (Nat.le_of_ble_eq_true rfl)
            refine lv_aload_n hx hb dL_totals_169 rfl (lv_at hl 0 rfl) ?_
            refine lv_iload hx hb dL_totals_170 (lv_at hl 7 rfl) ?_
            refine zl_ki (g := g) (rest := []) (zl_runH (g := g) (As := [.ref (sw_ad g 0), .int x8_129]) (rest := []) hx hb hml hown hts (kL_doorOf l hst (zl_re g H.size) z x8_129) ch_L_doorOf q_710 rfl rfl ⟨by rw [hRf]; exact (Nat.le_of_ble_eq_true rfl), by rw [hRl]; exact (Nat.le_of_ble_eq_true rfl)⟩ hW rfl hl.1 rfl (Nat.le_of_ble_eq_true rfl) dL_totals_172 ⟨(zc1 (D := 1) g37 (Nat.le_of_ble_eq_true rfl)), (zc1 (D := 6) g39 (Nat.le_of_ble_eq_true rfl))⟩) hW (fun r9 z9 H locs h9 hW => ?_)
            obtain ⟨rfl, e9⟩ := h9
            rw [e9, s_doorOf_z] at hW
            refine lv_if_lt (tgt := 187) hx hb dL_totals_175 (by decide) (fun k41 => ?_) (fun k41 => ?_)
            · replace h := h.1 k41
              refine lv_iconst (v := 0) hx hb dL_totals_187 (by decide) ?_
              subst hQ0
              refine W.widen (k := 600) (n := 3627) (Nat.le_trans (zc1 (D := 1) g37 (Nat.le_of_ble_eq_true rfl)) (Nat.le_of_eq hRc)) (Nat.le_trans (zc1 (D := 6) g39 (Nat.le_of_ble_eq_true rfl)) (Nat.le_of_eq hRs)) ?_
              exact zl_ri hx hb hr hlocks hW (by decide) ⟨h, rfl⟩ dL_totals_188
            · replace h := h.2 k41
              refine lv_aload_n hx hb dL_totals_178 rfl (lv_at hl 0 rfl) ?_
              refine lv_iload hx hb dL_totals_179 (lv_at hl 7 rfl) ?_
              refine zl_ki (g := g) (rest := []) (zl_runH (g := g) (As := [.ref (sw_ad g 0), .int x8_129]) (rest := []) hx hb hml hown hts (kL_isRevoked l hst (zl_re g H.size) z x8_129) ch_L_isRevoked q_723 rfl rfl ⟨by rw [hRf]; exact (Nat.le_of_ble_eq_true rfl), by rw [hRl]; exact (Nat.le_of_ble_eq_true rfl)⟩ hW rfl hl.1 rfl (Nat.le_of_ble_eq_true rfl) dL_totals_181 ⟨(zc1 (D := 2) g37 (Nat.le_of_ble_eq_true rfl)), (zc1 (D := 12) g39 (Nat.le_of_ble_eq_true rfl))⟩) hW (fun r9 z9 H locs h9 hW => ?_)
              obtain ⟨rfl, e9⟩ := h9
              rw [e9, s_isRevoked_z] at hW
              refine lv_if_ge (tgt := 189) hx hb dL_totals_184 (by decide) (fun k42 => ?_) (fun k42 => ?_)
              · replace h := h.1 k42
                obtain ⟨v43, ev43⟩ : ∃ z : Int32, z = x8_129 + (1 : Int32) := ⟨_, rfl⟩
                replace h := h v43 ev43
                refine lv_iinc (v := v43) (lv' := [(8, .int v43), (0, .ref (sw_ad g 0)), (1, .int x1_15k), (2, .int x2_15k), (3, .long x3_15k), (5, .int x5_15k), (6, .int x6_15k), (7, .int v4)]) hx hb dL_totals_189 hl (k := 7) rfl (by rw [ev43]; rfl) (Nat.le_of_ble_eq_true rfl) rfl (fun ls hl => ?_)
                refine lv_goto (tgt := 129) hx hb dL_totals_192 (by decide) ?_
                exact ih129 v43 _ _ _ _ _ h (zc10 (zc1 (D := 2) g38 (Nat.le_of_ble_eq_true rfl)) hTcn129 hcn129) (zc10 (zc1 (D := 12) g40 (Nat.le_of_ble_eq_true rfl)) hTsn129 hsn129) hW (lv_sub hl [1, 2, 3, 4, 5, 6, 7, 0] rfl)
              · replace h := h.2 k42
                refine lv_iconst (v := 0) hx hb dL_totals_187 (by decide) ?_
                subst hQ0
                refine W.widen (k := 600) (n := 3627) (Nat.le_trans (zc1 (D := 2) g37 (Nat.le_of_ble_eq_true rfl)) (Nat.le_of_eq hRc)) (Nat.le_trans (zc1 (D := 12) g39 (Nat.le_of_ble_eq_true rfl)) (Nat.le_of_eq hRs)) ?_
                exact zl_ri hx hb hr hlocks hW (by decide) ⟨h, rfl⟩ dL_totals_188
          have key139 : ∀ (n139 : Nat) (x9_139 : Int32)  (H : Heap) (locs : List Loc) (ls : Array Slot) (cn139 sn139 : Nat), lL_totals_139 z x8_129 Q (((zv (s_doorOf z x8_129) [(-13)]) < 0 → (Q (0 : Int32))) ∧ (¬ (zv (s_doorOf z x8_129) [(-13)]) < 0 → ((0 ≤ (zv (s_isRevoked z x8_129) [(-13)]) → (∀ v43 : Int32, v43 = x8_129 + (1 : Int32) → ((fun x8_129 => lL_totals_129 z v4 Q ((x2_15k = 0 → (jL_totals_217 z x1_15k x3_15k x5_15k x6_15k v4 Q (1 : Int32))) ∧ (¬ x2_15k = 0 → (zgn z.1 ≠ 0 ∧ (vf_n64 (FP.ddiv (FP.l2d x3_15k) (FP.i2d x2_15k)) ∧ (((Op.cmpValue (FP.dcmp (zmean z.1) (FP.ddiv (FP.l2d x3_15k) (FP.i2d x2_15k))) CmpOp.l) = 0 → (jL_totals_217 z x1_15k x3_15k x5_15k x6_15k v4 Q (1 : Int32))) ∧ (¬ (Op.cmpValue (FP.dcmp (zmean z.1) (FP.ddiv (FP.l2d x3_15k) (FP.i2d x2_15k))) CmpOp.l) = 0 → (jL_totals_217 z x1_15k x3_15k x5_15k x6_15k v4 Q (0 : Int32)))))))) n129 x8_129) v43))) ∧ (¬ 0 ≤ (zv (s_isRevoked z x8_129) [(-13)]) → (Q (0 : Int32)))))) n139 x9_139 → cn139 + n139 * 2 ≤ CL139 → sn139 + n139 * 12 ≤ SL139 → zl_Wd g [] z s H locs → lv_has ls 10 [(0, .ref (sw_ad g 0)), (1, .int x1_15k), (2, .int x2_15k), (3, .long x3_15k), (5, .int x5_15k), (6, .int x6_15k), (7, .int v4), (8, .int x8_129), (9, .int x9_139)] → W p l e R s m args below meth c H locs cn139 sn139 Q0 (F0 m 139 ls []) := by
            intro n139
            induction n139 with
            | zero =>
              intro x9_139  H locs ls cn139 sn139 h
              exact False.elim h
            | succ n139 ih139 =>
              intro x9_139  H locs ls cn139 sn139 h hcn139 hsn139 hW hl
              rw [lL_totals_139.eq_2] at h
              obtain ⟨Tcn139, hTcn139⟩ : ∃ n : Nat, n = cn139 + 2 := ⟨_, rfl⟩
              obtain ⟨Tsn139, hTsn139⟩ : ∃ n : Nat, n = sn139 + 12 := ⟨_, rfl⟩
              have g44 : cn139 + 2 ≤ Tcn139 := Nat.le_of_eq hTcn139.symm
              have g45 : sn139 + 12 ≤ Tsn139 := Nat.le_of_eq hTsn139.symm
              have g46 : cn139 + 10 ≤ R.cells := zc9 (x := cn129) (D := 18) (s := 26) (t := 10) hcn139 hCL139 g34 (Nat.le_of_ble_eq_true rfl)
              have g47 : sn139 + 60 ≤ R.slots := zc9 (x := sn129) (D := 108) (s := 156) (t := 60) hsn139 hSL139 g35 (Nat.le_of_ble_eq_true rfl)
              refine lv_iload hx hb dL_totals_139 (lv_at hl 8 rfl) ?_
              refine lv_iload hx hb dL_totals_141 (lv_at hl 7 rfl) ?_
              refine lv_icmp_ge (tgt := 169) hx hb dL_totals_143 (by decide) (fun k48 => ?_) (fun k48 => ?_)
              · replace h := h.1 k48
                exact hX139  _ _ _ _ _ h (zc11 (zc1 (D := 0) g44 (Nat.le_of_ble_eq_true rfl)) hTcn139 hcn139) (zc11 (zc1 (D := 0) g45 (Nat.le_of_ble_eq_true rfl)) hTsn139 hsn139) hW (lv_sub hl [0, 1, 2, 3, 4, 5, 6, 7] rfl)
              · replace h := h.2 k48
                refine lv_aload_n hx hb dL_totals_146 rfl (lv_at hl 0 rfl) ?_
                refine lv_iload hx hb dL_totals_147 (lv_at hl 8 rfl) ?_
                refine zl_ki (g := g) (rest := []) (zl_runH (g := g) (As := [.ref (sw_ad g 0), .int x9_139]) (rest := []) hx hb hml hown hts (kL_doorOf l hst (zl_re g H.size) z x9_139) ch_L_doorOf q_710 rfl rfl ⟨by rw [hRf]; exact (Nat.le_of_ble_eq_true rfl), by rw [hRl]; exact (Nat.le_of_ble_eq_true rfl)⟩ hW rfl hl.1 rfl (Nat.le_of_ble_eq_true rfl) dL_totals_149 ⟨(zc1 (D := 1) g46 (Nat.le_of_ble_eq_true rfl)), (zc1 (D := 6) g47 (Nat.le_of_ble_eq_true rfl))⟩) hW (fun r9 z9 H locs h9 hW => ?_)
                obtain ⟨rfl, e9⟩ := h9
                rw [e9, s_doorOf_z] at hW
                refine lv_aload_n hx hb dL_totals_152 rfl (lv_at hl 0 rfl) ?_
                refine lv_iload hx hb dL_totals_153 (lv_at hl 7 rfl) ?_
                refine zl_ki (g := g) (rest := [.int (zv (s_doorOf z x9_139) [(-13)])]) (zl_runH (g := g) (As := [.ref (sw_ad g 0), .int x8_129]) (rest := [.int (zv (s_doorOf z x9_139) [(-13)])]) hx hb hml hown hts (kL_doorOf l hst (zl_re g H.size) z x8_129) ch_L_doorOf q_710 rfl rfl ⟨by rw [hRf]; exact (Nat.le_of_ble_eq_true rfl), by rw [hRl]; exact (Nat.le_of_ble_eq_true rfl)⟩ hW rfl hl.1 rfl (Nat.le_of_ble_eq_true rfl) dL_totals_155 ⟨(zc1 (D := 2) g46 (Nat.le_of_ble_eq_true rfl)), (zc1 (D := 12) g47 (Nat.le_of_ble_eq_true rfl))⟩) hW (fun r9 z9 H locs h9 hW => ?_)
                obtain ⟨rfl, e9⟩ := h9
                rw [e9, s_doorOf_z] at hW
                refine lv_icmp_ne (tgt := 163) hx hb dL_totals_158 (by decide) (fun k49 => ?_) (fun k49 => ?_)
                · replace h := h.2 k49
                  obtain ⟨v50, ev50⟩ : ∃ z : Int32, z = x9_139 + (1 : Int32) := ⟨_, rfl⟩
                  replace h := h v50 ev50
                  refine lv_iinc (v := v50) (lv' := [(9, .int v50), (0, .ref (sw_ad g 0)), (1, .int x1_15k), (2, .int x2_15k), (3, .long x3_15k), (5, .int x5_15k), (6, .int x6_15k), (7, .int v4), (8, .int x8_129)]) hx hb dL_totals_163 hl (k := 8) rfl (by rw [ev50]; rfl) (Nat.le_of_ble_eq_true rfl) rfl (fun ls hl => ?_)
                  refine lv_goto (tgt := 139) hx hb dL_totals_166 (by decide) ?_
                  exact ih139 v50 _ _ _ _ _ h (zc10 (zc1 (D := 2) g44 (Nat.le_of_ble_eq_true rfl)) hTcn139 hcn139) (zc10 (zc1 (D := 12) g45 (Nat.le_of_ble_eq_true rfl)) hTsn139 hsn139) hW (lv_sub hl [1, 2, 3, 4, 5, 6, 7, 8, 0] rfl)
                · replace h := h.1 k49
                  refine lv_iconst (v := 0) hx hb dL_totals_161 (by decide) ?_
                  subst hQ0
                  refine W.widen (k := 600) (n := 3627) (Nat.le_trans (zc1 (D := 2) g46 (Nat.le_of_ble_eq_true rfl)) (Nat.le_of_eq hRc)) (Nat.le_trans (zc1 (D := 12) g47 (Nat.le_of_ble_eq_true rfl)) (Nat.le_of_eq hRs)) ?_
                  exact zl_ri hx hb hr hlocks hW (by decide) ⟨h, rfl⟩ dL_totals_162
          exact key139 9 (1 : Int32) _ _ _ _ _ h (Nat.le_of_eq hCL139.symm) (Nat.le_of_eq hSL139.symm) hW (lv_sub hl [1, 2, 3, 4, 5, 6, 7, 8, 0] rfl)
    exact key129 9 (1 : Int32) _ _ _ _ _ h (Nat.le_of_eq hCL129.symm) (Nat.le_of_eq hSL129.symm) hW (lv_sub hl [2, 3, 4, 5, 6, 7, 1, 0] rfl)
  have key15 : ∀ (n15 : Nat) (x1_15 : Int32) (x2_15 : Int32) (x3_15 : Int64) (x5_15 : Int32) (x6_15 : Int32) (x7_15 : Int32)  (H : Heap) (locs : List Loc) (ls : Array Slot) (cn15 sn15 : Nat), lL_totals_15 z (fun x1_15k x2_15k x3_15k x5_15k x6_15k => ∀ v4 : Int32, v4 = (nI (z.1 3)) → (lL_totals_129 z v4 Q ((x2_15k = 0 → (jL_totals_217 z x1_15k x3_15k x5_15k x6_15k v4 Q (1 : Int32))) ∧ (¬ x2_15k = 0 → (zgn z.1 ≠ 0 ∧ (vf_n64 (FP.ddiv (FP.l2d x3_15k) (FP.i2d x2_15k)) ∧ (((Op.cmpValue (FP.dcmp (zmean z.1) (FP.ddiv (FP.l2d x3_15k) (FP.i2d x2_15k))) CmpOp.l) = 0 → (jL_totals_217 z x1_15k x3_15k x5_15k x6_15k v4 Q (1 : Int32))) ∧ (¬ (Op.cmpValue (FP.dcmp (zmean z.1) (FP.ddiv (FP.l2d x3_15k) (FP.i2d x2_15k))) CmpOp.l) = 0 → (jL_totals_217 z x1_15k x3_15k x5_15k x6_15k v4 Q (0 : Int32)))))))) 9 (1 : Int32))) n15 x1_15 x2_15 x3_15 x5_15 x6_15 x7_15 → cn15 + n15 * 46 ≤ CL15 → sn15 + n15 * 279 ≤ SL15 → zl_Wd g [] z s H locs → lv_has ls 10 [(0, .ref (sw_ad g 0)), (1, .int x1_15), (2, .int x2_15), (3, .long x3_15), (5, .int x5_15), (6, .int x6_15), (7, .int x7_15)] → W p l e R s m args below meth c H locs cn15 sn15 Q0 (F0 m 15 ls []) := by
    intro n15
    induction n15 with
    | zero =>
      intro x1_15 x2_15 x3_15 x5_15 x6_15 x7_15  H locs ls cn15 sn15 h
      exact False.elim h
    | succ n15 ih15 =>
      intro x1_15 x2_15 x3_15 x5_15 x6_15 x7_15  H locs ls cn15 sn15 h hcn15 hsn15 hW hl
      rw [lL_totals_15.eq_2] at h
      obtain ⟨Tcn15, hTcn15⟩ : ∃ n : Nat, n = cn15 + 46 := ⟨_, rfl⟩
      obtain ⟨Tsn15, hTsn15⟩ : ∃ n : Nat, n = sn15 + 279 := ⟨_, rfl⟩
      have g51 : cn15 + 46 ≤ Tcn15 := Nat.le_of_eq hTcn15.symm
      have g52 : sn15 + 279 ≤ Tsn15 := Nat.le_of_eq hTsn15.symm
      have g53 : cn15 + 232 ≤ R.cells := zc9 (x := 0) (D := 414) (s := 600) (t := 232) hcn15 hCL15 gc0 (Nat.le_of_ble_eq_true rfl)
      have g54 : sn15 + 1395 ≤ R.slots := zc9 (x := 0) (D := 2511) (s := 3627) (t := 1395) hsn15 hSL15 gs0 (Nat.le_of_ble_eq_true rfl)
      refine lv_iload hx hb dL_totals_15 (lv_at hl 6 rfl) ?_
      refine lv_aload_n hx hb dL_totals_17 rfl (lv_at hl 0 rfl) ?_
      refine zl_ki (g := g) (rest := [.int x7_15]) (zl_runV (g := g) (As := []) (rest := [.int x7_15]) hx hb hml hown hts (zD_doorCount l (zl_re g H.size) z) cv_X6_doorCount q_487 rfl rfl ⟨by rw [hRf]; exact (Nat.le_of_ble_eq_true rfl), by rw [hRl]; exact (Nat.le_of_ble_eq_true rfl)⟩ hW (Or.inl (Nat.le_of_ble_eq_true rfl)) sl_0 rfl rfl hl.1 rfl (Nat.le_of_ble_eq_true rfl) dL_totals_18 ⟨(zc1 (D := 0) g53 (Nat.le_of_ble_eq_true rfl)), (zc1 (D := 0) g54 (Nat.le_of_ble_eq_true rfl))⟩) hW (fun r9 z9 H locs h9 hW => ?_)
      obtain ⟨rfl, e9⟩ := h9
      rw [e9] at hW
      refine lv_icmp_ge (tgt := 120) hx hb dL_totals_21 (by decide) (fun k55 => ?_) (fun k55 => ?_)
      · replace h := h.1 k55
        exact hX15 x1_15 x2_15 x3_15 x5_15 x6_15 _ _ _ _ _ h (zc11 (zc1 (D := 0) g51 (Nat.le_of_ble_eq_true rfl)) hTcn15 hcn15) (zc11 (zc1 (D := 0) g52 (Nat.le_of_ble_eq_true rfl)) hTsn15 hsn15) hW (lv_sub hl [0, 1, 2, 3, 4, 5] rfl)
      · replace h := h.2 k55
        refine lv_iload_n hx hb dL_totals_24 rfl (lv_at hl 1 rfl) ?_
        refine lv_aload_n hx hb dL_totals_25 rfl (lv_at hl 0 rfl) ?_
        refine lv_iload hx hb dL_totals_26 (lv_at hl 6 rfl) ?_
        have y56 := h.1
        replace h := h.2
        refine zl_ki (g := g) (rest := [.int x1_15]) (zl_runV (g := g) (As := [.int x7_15]) (rest := [.int x1_15]) hx hb hml hown hts (zD_examinersOf l hst (zl_re g H.size) z x7_15 y56) cv_X6_examinersOf q_532 rfl rfl ⟨by rw [hRf]; exact (Nat.le_of_ble_eq_true rfl), by rw [hRl]; exact (Nat.le_of_ble_eq_true rfl)⟩ hW (Or.inl (Nat.le_of_ble_eq_true rfl)) sl_0 rfl rfl hl.1 rfl (Nat.le_of_ble_eq_true rfl) dL_totals_28 ⟨(zc1 (D := 1) g53 (Nat.le_of_ble_eq_true rfl)), (zc1 (D := 6) g54 (Nat.le_of_ble_eq_true rfl))⟩) hW (fun r9 z9 H locs h9 hW => ?_)
        clear y56
        obtain ⟨rfl, e9⟩ := h9
        rw [e9, s_examinersOf_z] at hW
        refine lv_iadd hx hb dL_totals_31 ?_
        refine lv_topi (fun v57 ev57 => ?_)
        replace h := h v57 ev57
        refine lv_istore_n (lv' := [(1, .int v57), (0, .ref (sw_ad g 0)), (2, .int x2_15), (3, .long x3_15), (5, .int x5_15), (6, .int x6_15), (7, .int x7_15)]) hx hb dL_totals_32 rfl hl (Nat.le_of_ble_eq_true rfl) rfl (fun ls hl => ?_)
        refine lv_iload_n hx hb dL_totals_33 rfl (lv_at hl 2 rfl) ?_
        refine lv_aload_n hx hb dL_totals_34 rfl (lv_at hl 1 rfl) ?_
        refine lv_iload hx hb dL_totals_35 (lv_at hl 6 rfl) ?_
        have y58 := h.1
        replace h := h.2
        refine zl_ki (g := g) (rest := [.int x2_15]) (zl_runV (g := g) (As := [.int x7_15]) (rest := [.int x2_15]) hx hb hml hown hts (zD_gradesOf l hst (zl_re g H.size) z x7_15 y58) cv_X6_gradesOf q_539 rfl rfl ⟨by rw [hRf]; exact (Nat.le_of_ble_eq_true rfl), by rw [hRl]; exact (Nat.le_of_ble_eq_true rfl)⟩ hW (Or.inl (Nat.le_of_ble_eq_true rfl)) sl_0 rfl rfl hl.1 rfl (Nat.le_of_ble_eq_true rfl) dL_totals_37 ⟨(zc1 (D := 2) g53 (Nat.le_of_ble_eq_true rfl)), (zc1 (D := 12) g54 (Nat.le_of_ble_eq_true rfl))⟩) hW (fun r9 z9 H locs h9 hW => ?_)
        clear y58
        obtain ⟨rfl, e9⟩ := h9
        rw [e9, s_gradesOf_z] at hW
        refine lv_iadd hx hb dL_totals_40 ?_
        refine lv_topi (fun v59 ev59 => ?_)
        replace h := h v59 ev59
        refine lv_istore_n (lv' := [(2, .int v59), (1, .int v57), (0, .ref (sw_ad g 0)), (3, .long x3_15), (5, .int x5_15), (6, .int x6_15), (7, .int x7_15)]) hx hb dL_totals_41 rfl hl (Nat.le_of_ble_eq_true rfl) rfl (fun ls hl => ?_)
        refine lv_iload hx hb dL_totals_42 (lv_at hl 4 rfl) ?_
        refine lv_aload_n hx hb dL_totals_44 rfl (lv_at hl 2 rfl) ?_
        refine lv_iload hx hb dL_totals_45 (lv_at hl 6 rfl) ?_
        refine zl_ki (g := g) (rest := [.int x5_15]) (zl_runS (g := g) (As := [.ref (sw_ad g 0), .int x7_15]) (rest := [.int x5_15]) hx hb hml hown hts (kL_median l hst (zl_re g H.size) x7_15 z _ h) cs_L_median q_523 rfl rfl ⟨by rw [hRf]; exact (Nat.le_of_ble_eq_true rfl), by rw [hRl]; exact (Nat.le_of_ble_eq_true rfl)⟩ hW rfl hl.1 rfl (Nat.le_of_ble_eq_true rfl) dL_totals_47 ⟨(zc1 (D := 24) g53 (Nat.le_of_ble_eq_true rfl)), (zc1 (D := 147) g54 (Nat.le_of_ble_eq_true rfl))⟩) hW (fun r60 z9 H locs h hW => ?_)
        obtain ⟨h, e9⟩ := h
        rw [e9] at hW
        obtain ⟨CJ58, hCJ58⟩ : ∃ n : Nat, n = cn15 + 0 + 1 + 1 + 22 + 0 := ⟨_, rfl⟩
        obtain ⟨SJ58, hSJ58⟩ : ∃ n : Nat, n = sn15 + 0 + 6 + 6 + 135 + 0 := ⟨_, rfl⟩
        have hJ58 : ∀ (t0_58 : Int32) (H : Heap) (locs : List Loc) (ls : Array Slot) (cj58 sj58 : Nat), jL_totals_58 z x3_15 x5_15 x6_15 x7_15 v57 v59 (fun x1_15 x2_15 x3_15 x5_15 x6_15 x7_15 => lL_totals_15 z (fun x1_15k x2_15k x3_15k x5_15k x6_15k => ∀ v4 : Int32, v4 = (nI (z.1 3)) → (lL_totals_129 z v4 Q ((x2_15k = 0 → (jL_totals_217 z x1_15k x3_15k x5_15k x6_15k v4 Q (1 : Int32))) ∧ (¬ x2_15k = 0 → (zgn z.1 ≠ 0 ∧ (vf_n64 (FP.ddiv (FP.l2d x3_15k) (FP.i2d x2_15k)) ∧ (((Op.cmpValue (FP.dcmp (zmean z.1) (FP.ddiv (FP.l2d x3_15k) (FP.i2d x2_15k))) CmpOp.l) = 0 → (jL_totals_217 z x1_15k x3_15k x5_15k x6_15k v4 Q (1 : Int32))) ∧ (¬ (Op.cmpValue (FP.dcmp (zmean z.1) (FP.ddiv (FP.l2d x3_15k) (FP.i2d x2_15k))) CmpOp.l) = 0 → (jL_totals_217 z x1_15k x3_15k x5_15k x6_15k v4 Q (0 : Int32)))))))) 9 (1 : Int32))) n15 x1_15 x2_15 x3_15 x5_15 x6_15 x7_15) t0_58 → cj58 ≤ CJ58 → sj58 ≤ SJ58 → zl_Wd g [] z s H locs → lv_has ls 10 [(0, .ref (sw_ad g 0)), (1, .int v57), (2, .int v59), (3, .long x3_15), (6, .int x6_15), (7, .int x7_15)] → W p l e R s m args below meth c H locs cj58 sj58 Q0 (F0 m 58 ls [.int t0_58, .int x5_15]) := by
          intro t0_58 H locs ls cj58 sj58 h hcj58 hsj58 hW hl
          unfold jL_totals_58 at h
          have g61 : cj58 + 208 ≤ R.cells := zc8 (x := cn15) (D := 24) (s := 232) (s' := 208) hcj58 hCJ58 g53 (Nat.le_of_ble_eq_true rfl)
          have g62 : cj58 + 22 ≤ Tcn15 := zc8 (x := cn15) (D := 24) (s := 46) (s' := 22) hcj58 hCJ58 g51 (Nat.le_of_ble_eq_true rfl)
          have g63 : sj58 + 1248 ≤ R.slots := zc8 (x := sn15) (D := 147) (s := 1395) (s' := 1248) hsj58 hSJ58 g54 (Nat.le_of_ble_eq_true rfl)
          have g64 : sj58 + 132 ≤ Tsn15 := zc8 (x := sn15) (D := 147) (s := 279) (s' := 132) hsj58 hSJ58 g52 (Nat.le_of_ble_eq_true rfl)
          refine lv_iadd hx hb dL_totals_58 ?_
          refine lv_topi (fun v65 ev65 => ?_)
          replace h := h v65 ev65
          refine lv_istore (lv' := [(5, .int v65), (0, .ref (sw_ad g 0)), (1, .int v57), (2, .int v59), (3, .long x3_15), (6, .int x6_15), (7, .int x7_15)]) hx hb dL_totals_59 hl (Nat.le_of_ble_eq_true rfl) rfl (fun ls hl => ?_)
          refine lv_iload hx hb dL_totals_61 (lv_at hl 5 rfl) ?_
          refine lv_aload_n hx hb dL_totals_63 rfl (lv_at hl 1 rfl) ?_
          refine lv_iload hx hb dL_totals_64 (lv_at hl 6 rfl) ?_
          have y66 := h.1
          replace h := h.2
          refine zl_ki (g := g) (rest := [.int x6_15]) (zl_runV (g := g) (As := [.int x7_15]) (rest := [.int x6_15]) hx hb hml hown hts (zD_passes l hst (zl_re g H.size) z x7_15 y66) cv_X6_passes q_553 rfl rfl ⟨by rw [hRf]; exact (Nat.le_of_ble_eq_true rfl), by rw [hRl]; exact (Nat.le_of_ble_eq_true rfl)⟩ hW (Or.inl (Nat.le_of_ble_eq_true rfl)) sl_0 rfl rfl hl.1 rfl (Nat.le_of_ble_eq_true rfl) dL_totals_66 ⟨(zc1 (D := 1) g61 (Nat.le_of_ble_eq_true rfl)), (zc1 (D := 6) g63 (Nat.le_of_ble_eq_true rfl))⟩) hW (fun r9 z9 H locs h9 hW => ?_)
          clear y66
          obtain ⟨rfl, e9⟩ := h9
          rw [e9, s_passes_z] at hW
          obtain ⟨CJ77, hCJ77⟩ : ∃ n : Nat, n = cj58 + 1 + 0 := ⟨_, rfl⟩
          obtain ⟨SJ77, hSJ77⟩ : ∃ n : Nat, n = sj58 + 6 + 0 := ⟨_, rfl⟩
          have hJ77 : ∀ (t0_77 : Int32) (H : Heap) (locs : List Loc) (ls : Array Slot) (cj77 sj77 : Nat), jL_totals_77 z x3_15 x6_15 x7_15 v57 v59 v65 (fun x1_15 x2_15 x3_15 x5_15 x6_15 x7_15 => lL_totals_15 z (fun x1_15k x2_15k x3_15k x5_15k x6_15k => ∀ v4 : Int32, v4 = (nI (z.1 3)) → (lL_totals_129 z v4 Q ((x2_15k = 0 → (jL_totals_217 z x1_15k x3_15k x5_15k x6_15k v4 Q (1 : Int32))) ∧ (¬ x2_15k = 0 → (zgn z.1 ≠ 0 ∧ (vf_n64 (FP.ddiv (FP.l2d x3_15k) (FP.i2d x2_15k)) ∧ (((Op.cmpValue (FP.dcmp (zmean z.1) (FP.ddiv (FP.l2d x3_15k) (FP.i2d x2_15k))) CmpOp.l) = 0 → (jL_totals_217 z x1_15k x3_15k x5_15k x6_15k v4 Q (1 : Int32))) ∧ (¬ (Op.cmpValue (FP.dcmp (zmean z.1) (FP.ddiv (FP.l2d x3_15k) (FP.i2d x2_15k))) CmpOp.l) = 0 → (jL_totals_217 z x1_15k x3_15k x5_15k x6_15k v4 Q (0 : Int32)))))))) 9 (1 : Int32))) n15 x1_15 x2_15 x3_15 x5_15 x6_15 x7_15) t0_77 → cj77 ≤ CJ77 → sj77 ≤ SJ77 → zl_Wd g [] z s H locs → lv_has ls 10 [(0, .ref (sw_ad g 0)), (1, .int v57), (2, .int v59), (3, .long x3_15), (5, .int v65), (7, .int x7_15)] → W p l e R s m args below meth c H locs cj77 sj77 Q0 (F0 m 77 ls [.int t0_77, .int x6_15]) := by
            intro t0_77 H locs ls cj77 sj77 h hcj77 hsj77 hW hl
            unfold jL_totals_77 at h
            have g67 : cj77 + 207 ≤ R.cells := zc8 (x := cj58) (D := 1) (s := 208) (s' := 207) hcj77 hCJ77 g61 (Nat.le_of_ble_eq_true rfl)
            have g68 : cj77 + 21 ≤ Tcn15 := zc8 (x := cj58) (D := 1) (s := 22) (s' := 21) hcj77 hCJ77 g62 (Nat.le_of_ble_eq_true rfl)
            have g69 : sj77 + 1242 ≤ R.slots := zc8 (x := sj58) (D := 6) (s := 1248) (s' := 1242) hsj77 hSJ77 g63 (Nat.le_of_ble_eq_true rfl)
            have g70 : sj77 + 126 ≤ Tsn15 := zc8 (x := sj58) (D := 6) (s := 132) (s' := 126) hsj77 hSJ77 g64 (Nat.le_of_ble_eq_true rfl)
            refine lv_iadd hx hb dL_totals_77 ?_
            refine lv_topi (fun v71 ev71 => ?_)
            replace h := h v71 ev71
            refine lv_istore (lv' := [(6, .int v71), (0, .ref (sw_ad g 0)), (1, .int v57), (2, .int v59), (3, .long x3_15), (5, .int v65), (7, .int x7_15)]) hx hb dL_totals_78 hl (Nat.le_of_ble_eq_true rfl) rfl (fun ls hl => ?_)
            refine lv_iconst (v := 0) hx hb dL_totals_80 (by decide) ?_
            refine lv_istore (lv' := [(8, .int (0 : Int32)), (6, .int v71), (0, .ref (sw_ad g 0)), (1, .int v57), (2, .int v59), (3, .long x3_15), (5, .int v65), (7, .int x7_15)]) hx hb dL_totals_81 hl (Nat.le_of_ble_eq_true rfl) rfl (fun ls hl => ?_)
            obtain ⟨CL83, hCL83⟩ : ∃ n : Nat, n = cj77 + 21 := ⟨_, rfl⟩
            obtain ⟨SL83, hSL83⟩ : ∃ n : Nat, n = sj77 + 126 := ⟨_, rfl⟩
            have hX83 : ∀ (x3_83k : Int64)  (H : Heap) (locs : List Loc) (ls : Array Slot) (cx83 sx83 : Nat), (∀ v76 : Int32, v76 = x7_15 + (1 : Int32) → ((fun x1_15 x2_15 x3_15 x5_15 x6_15 x7_15 => lL_totals_15 z (fun x1_15k x2_15k x3_15k x5_15k x6_15k => ∀ v4 : Int32, v4 = (nI (z.1 3)) → (lL_totals_129 z v4 Q ((x2_15k = 0 → (jL_totals_217 z x1_15k x3_15k x5_15k x6_15k v4 Q (1 : Int32))) ∧ (¬ x2_15k = 0 → (zgn z.1 ≠ 0 ∧ (vf_n64 (FP.ddiv (FP.l2d x3_15k) (FP.i2d x2_15k)) ∧ (((Op.cmpValue (FP.dcmp (zmean z.1) (FP.ddiv (FP.l2d x3_15k) (FP.i2d x2_15k))) CmpOp.l) = 0 → (jL_totals_217 z x1_15k x3_15k x5_15k x6_15k v4 Q (1 : Int32))) ∧ (¬ (Op.cmpValue (FP.dcmp (zmean z.1) (FP.ddiv (FP.l2d x3_15k) (FP.i2d x2_15k))) CmpOp.l) = 0 → (jL_totals_217 z x1_15k x3_15k x5_15k x6_15k v4 Q (0 : Int32)))))))) 9 (1 : Int32))) n15 x1_15 x2_15 x3_15 x5_15 x6_15 x7_15) v57 v59 x3_83k v65 v71 v76)) → cx83 ≤ CL83 → sx83 ≤ SL83 → zl_Wd g [] z s H locs → lv_has ls 10 [(0, .ref (sw_ad g 0)), (1, .int v57), (2, .int v59), (3, .long x3_83k), (5, .int v65), (6, .int v71), (7, .int x7_15)] → W p l e R s m args below meth c H locs cx83 sx83 Q0 (F0 m 114 ls []) := by
              intro x3_83k  H locs ls cx83 sx83 h hcx83 hsx83 hW hl
              have g72 : cx83 + 186 ≤ R.cells := zc8 (x := cj77) (D := 21) (s := 207) (s' := 186) hcx83 hCL83 g67 (Nat.le_of_ble_eq_true rfl)
              have g73 : cx83 + 0 ≤ Tcn15 := zc8 (x := cj77) (D := 21) (s := 21) (s' := 0) hcx83 hCL83 g68 (Nat.le_of_ble_eq_true rfl)
              have g74 : sx83 + 1116 ≤ R.slots := zc8 (x := sj77) (D := 126) (s := 1242) (s' := 1116) hsx83 hSL83 g69 (Nat.le_of_ble_eq_true rfl)
              have g75 : sx83 + 0 ≤ Tsn15 := zc8 (x := sj77) (D := 126) (s := 126) (s' := 0) hsx83 hSL83 g70 (Nat.le_of_ble_eq_true rfl)
              obtain ⟨v76, ev76⟩ : ∃ z : Int32, z = x7_15 + (1 : Int32) := ⟨_, rfl⟩
              replace h := h v76 ev76
              refine lv_iinc (v := v76) (lv' := [(7, .int v76), (0, .ref (sw_ad g 0)), (1, .int v57), (2, .int v59), (3, .long x3_83k), (5, .int v65), (6, .int v71)]) hx hb dL_totals_114 hl (k := 6) rfl (by rw [ev76]; rfl) (Nat.le_of_ble_eq_true rfl) rfl (fun ls hl => ?_)
              refine lv_goto (tgt := 15) hx hb dL_totals_117 (by decide) ?_
              exact ih15 v57 v59 x3_83k v65 v71 v76 _ _ _ _ _ h (zc10 (zc1 (D := 0) g73 (Nat.le_of_ble_eq_true rfl)) hTcn15 hcn15) (zc10 (zc1 (D := 0) g75 (Nat.le_of_ble_eq_true rfl)) hTsn15 hsn15) hW (lv_sub hl [1, 2, 3, 4, 5, 6, 0] rfl)
            have key83 : ∀ (n83 : Nat) (x3_83 : Int64) (x8_83 : Int32)  (H : Heap) (locs : List Loc) (ls : Array Slot) (cn83 sn83 : Nat), lL_totals_83 z x7_15 (fun x3_83k => ∀ v76 : Int32, v76 = x7_15 + (1 : Int32) → ((fun x1_15 x2_15 x3_15 x5_15 x6_15 x7_15 => lL_totals_15 z (fun x1_15k x2_15k x3_15k x5_15k x6_15k => ∀ v4 : Int32, v4 = (nI (z.1 3)) → (lL_totals_129 z v4 Q ((x2_15k = 0 → (jL_totals_217 z x1_15k x3_15k x5_15k x6_15k v4 Q (1 : Int32))) ∧ (¬ x2_15k = 0 → (zgn z.1 ≠ 0 ∧ (vf_n64 (FP.ddiv (FP.l2d x3_15k) (FP.i2d x2_15k)) ∧ (((Op.cmpValue (FP.dcmp (zmean z.1) (FP.ddiv (FP.l2d x3_15k) (FP.i2d x2_15k))) CmpOp.l) = 0 → (jL_totals_217 z x1_15k x3_15k x5_15k x6_15k v4 Q (1 : Int32))) ∧ (¬ (Op.cmpValue (FP.dcmp (zmean z.1) (FP.ddiv (FP.l2d x3_15k) (FP.i2d x2_15k))) CmpOp.l) = 0 → (jL_totals_217 z x1_15k x3_15k x5_15k x6_15k v4 Q (0 : Int32)))))))) 9 (1 : Int32))) n15 x1_15 x2_15 x3_15 x5_15 x6_15 x7_15) v57 v59 x3_83k v65 v71 v76)) n83 x3_83 x8_83 → cn83 + n83 * 3 ≤ CL83 → sn83 + n83 * 18 ≤ SL83 → zl_Wd g [] z s H locs → lv_has ls 10 [(0, .ref (sw_ad g 0)), (1, .int v57), (2, .int v59), (3, .long x3_83), (5, .int v65), (6, .int v71), (7, .int x7_15), (8, .int x8_83)] → W p l e R s m args below meth c H locs cn83 sn83 Q0 (F0 m 83 ls []) := by
              intro n83
              induction n83 with
              | zero =>
                intro x3_83 x8_83  H locs ls cn83 sn83 h
                exact False.elim h
              | succ n83 ih83 =>
                intro x3_83 x8_83  H locs ls cn83 sn83 h hcn83 hsn83 hW hl
                rw [lL_totals_83.eq_2] at h
                obtain ⟨Tcn83, hTcn83⟩ : ∃ n : Nat, n = cn83 + 3 := ⟨_, rfl⟩
                obtain ⟨Tsn83, hTsn83⟩ : ∃ n : Nat, n = sn83 + 18 := ⟨_, rfl⟩
                have g77 : cn83 + 3 ≤ Tcn83 := Nat.le_of_eq hTcn83.symm
                have g78 : sn83 + 18 ≤ Tsn83 := Nat.le_of_eq hTsn83.symm
                have g79 : cn83 + 189 ≤ R.cells := zc9 (x := cj77) (D := 21) (s := 207) (t := 189) hcn83 hCL83 g67 (Nat.le_of_ble_eq_true rfl)
                have g80 : sn83 + 1134 ≤ R.slots := zc9 (x := sj77) (D := 126) (s := 1242) (t := 1134) hsn83 hSL83 g69 (Nat.le_of_ble_eq_true rfl)
                refine lv_iload hx hb dL_totals_83 (lv_at hl 7 rfl) ?_
                refine lv_aload_n hx hb dL_totals_85 rfl (lv_at hl 0 rfl) ?_
                refine zl_ki (g := g) (rest := [.int x8_83]) (zl_runV (g := g) (As := []) (rest := [.int x8_83]) hx hb hml hown hts (zD_examinerCount l (zl_re g H.size) z) cv_X6_examinerCount q_491 rfl rfl ⟨by rw [hRf]; exact (Nat.le_of_ble_eq_true rfl), by rw [hRl]; exact (Nat.le_of_ble_eq_true rfl)⟩ hW (Or.inl (Nat.le_of_ble_eq_true rfl)) sl_0 rfl rfl hl.1 rfl (Nat.le_of_ble_eq_true rfl) dL_totals_86 ⟨(zc1 (D := 0) g79 (Nat.le_of_ble_eq_true rfl)), (zc1 (D := 0) g80 (Nat.le_of_ble_eq_true rfl))⟩) hW (fun r9 z9 H locs h9 hW => ?_)
                obtain ⟨rfl, e9⟩ := h9
                rw [e9] at hW
                refine lv_icmp_ge (tgt := 114) hx hb dL_totals_89 (by decide) (fun k81 => ?_) (fun k81 => ?_)
                · replace h := h.1 k81
                  exact hX83 x3_83 _ _ _ _ _ h (zc11 (zc1 (D := 0) g77 (Nat.le_of_ble_eq_true rfl)) hTcn83 hcn83) (zc11 (zc1 (D := 0) g78 (Nat.le_of_ble_eq_true rfl)) hTsn83 hsn83) hW (lv_sub hl [0, 1, 2, 3, 4, 5, 6] rfl)
                · replace h := h.2 k81
                  refine lv_lload_n hx hb dL_totals_92 rfl (lv_at hl 3 rfl) ?_
                  refine lv_iconst (v := 0) hx hb dL_totals_93 (by decide) ?_
                  refine lv_aload_n hx hb dL_totals_94 rfl (lv_at hl 0 rfl) ?_
                  refine lv_iload hx hb dL_totals_95 (lv_at hl 7 rfl) ?_
                  refine lv_iload hx hb dL_totals_97 (lv_at hl 6 rfl) ?_
                  refine zl_ki (g := g) (rest := [.int (0 : Int32), .long x3_83]) (zl_runH (g := g) (As := [.ref (sw_ad g 0), .int x8_83, .int x7_15]) (rest := [.int (0 : Int32), .long x3_83]) hx hb hml hown hts (kL_gradeBy l hst (zl_re g H.size) z x8_83 x7_15) ch_L_gradeBy q_513 rfl rfl ⟨by rw [hRf]; exact (Nat.le_of_ble_eq_true rfl), by rw [hRl]; exact (Nat.le_of_ble_eq_true rfl)⟩ hW rfl hl.1 rfl (Nat.le_of_ble_eq_true rfl) dL_totals_99 ⟨(zc1 (D := 3) g79 (Nat.le_of_ble_eq_true rfl)), (zc1 (D := 18) g80 (Nat.le_of_ble_eq_true rfl))⟩) hW (fun r9 z9 H locs h9 hW => ?_)
                  obtain ⟨rfl, e9⟩ := h9
                  rw [e9, s_gradeBy_z] at hW
                  refine va_mmax hx hb (hml.trans hl.1.symm) hown (sw_w hts q_705) (sw_w hts q_443) (sw_w hts q_17) (sw_w hts q_444) (by rw [hRf]; exact (Nat.le_of_ble_eq_true rfl)) (by rw [hRl]; exact (Nat.le_of_ble_eq_true rfl)) (zc1 (D := 3) g79 (Nat.le_of_ble_eq_true rfl)) (zc1 (D := 18) g80 (Nat.le_of_ble_eq_true rfl)) dL_totals_102 ?_
                  refine lv_topi (fun v82 ev82 => ?_)
                  replace h := h v82 ev82
                  refine lv_i2l hx hb dL_totals_105 rfl ?_
                  refine lv_ladd hx hb dL_totals_106 ?_
                  refine lv_topl (fun v83 ev83 => ?_)
                  replace h := h v83 ev83
                  refine lv_lstore_n (lv' := [(3, .long v83), (0, .ref (sw_ad g 0)), (1, .int v57), (2, .int v59), (5, .int v65), (6, .int v71), (7, .int x7_15), (8, .int x8_83)]) hx hb dL_totals_107 rfl hl (Nat.le_of_ble_eq_true rfl) rfl (fun ls hl => ?_)
                  obtain ⟨v84, ev84⟩ : ∃ z : Int32, z = x8_83 + (1 : Int32) := ⟨_, rfl⟩
                  replace h := h v84 ev84
                  refine lv_iinc (v := v84) (lv' := [(8, .int v84), (3, .long v83), (0, .ref (sw_ad g 0)), (1, .int v57), (2, .int v59), (5, .int v65), (6, .int v71), (7, .int x7_15)]) hx hb dL_totals_108 hl (k := 7) rfl (by rw [ev84]; rfl) (Nat.le_of_ble_eq_true rfl) rfl (fun ls hl => ?_)
                  refine lv_goto (tgt := 83) hx hb dL_totals_111 (by decide) ?_
                  exact ih83 v83 v84 _ _ _ _ _ h (zc10 (zc1 (D := 3) g77 (Nat.le_of_ble_eq_true rfl)) hTcn83 hcn83) (zc10 (zc1 (D := 18) g78 (Nat.le_of_ble_eq_true rfl)) hTsn83 hsn83) hW (lv_sub hl [2, 3, 4, 1, 5, 6, 7, 0] rfl)
            exact key83 7 x3_15 (0 : Int32) _ _ _ _ _ h (Nat.le_of_eq hCL83.symm) (Nat.le_of_eq hSL83.symm) hW (lv_sub hl [2, 3, 4, 5, 6, 1, 7, 0] rfl)
          have g85 : cj58 + 1 ≤ CJ77 := Nat.le_of_eq hCJ77.symm
          have g86 : sj58 + 6 ≤ SJ77 := Nat.le_of_eq hSJ77.symm
          refine lv_if_eq (tgt := 76) hx hb dL_totals_69 (by decide) (fun k87 => ?_) (fun k87 => ?_)
          · replace h := h.1 k87
            refine lv_iconst (v := 0) hx hb dL_totals_76 (by decide) ?_
            exact hJ77 (0 : Int32) _ _ _ _ _ h (zc1 (D := 1) g85 (Nat.le_of_ble_eq_true rfl)) (zc1 (D := 6) g86 (Nat.le_of_ble_eq_true rfl)) hW (lv_sub hl [1, 2, 3, 4, 0, 6] rfl)
          · replace h := h.2 k87
            refine lv_iconst (v := 1) hx hb dL_totals_72 (by decide) ?_
            refine lv_goto (tgt := 77) hx hb dL_totals_73 (by decide) ?_
            exact hJ77 (1 : Int32) _ _ _ _ _ h (zc1 (D := 1) g85 (Nat.le_of_ble_eq_true rfl)) (zc1 (D := 6) g86 (Nat.le_of_ble_eq_true rfl)) hW (lv_sub hl [1, 2, 3, 4, 0, 6] rfl)
        have g88 : cn15 + 24 ≤ CJ58 := Nat.le_of_eq hCJ58.symm
        have g89 : sn15 + 147 ≤ SJ58 := Nat.le_of_eq hSJ58.symm
        refine lv_if_lt (tgt := 57) hx hb dL_totals_50 (by decide) (fun k90 => ?_) (fun k90 => ?_)
        · replace h := h.1 k90
          refine lv_iconst (v := 0) hx hb dL_totals_57 (by decide) ?_
          exact hJ58 (0 : Int32) _ _ _ _ _ h (zc1 (D := 24) g88 (Nat.le_of_ble_eq_true rfl)) (zc1 (D := 147) g89 (Nat.le_of_ble_eq_true rfl)) hW (lv_sub hl [2, 1, 0, 3, 5, 6] rfl)
        · replace h := h.2 k90
          refine lv_iconst (v := 1) hx hb dL_totals_53 (by decide) ?_
          refine lv_goto (tgt := 58) hx hb dL_totals_54 (by decide) ?_
          exact hJ58 (1 : Int32) _ _ _ _ _ h (zc1 (D := 24) g88 (Nat.le_of_ble_eq_true rfl)) (zc1 (D := 147) g89 (Nat.le_of_ble_eq_true rfl)) hW (lv_sub hl [2, 1, 0, 3, 5, 6] rfl)
  exact key15 9 (0 : Int32) (0 : Int32) v1 (0 : Int32) (0 : Int32) (0 : Int32) _ _ _ _ _ h (Nat.le_of_eq hCL15.symm) (Nat.le_of_eq hSL15.symm) hW (lv_sub hl [6, 5, 4, 3, 2, 1, 0] rfl)
