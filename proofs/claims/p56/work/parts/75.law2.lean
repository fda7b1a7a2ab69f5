/-! The law's checks of doors, examiners and panels. -/
def jL_doors_275 (x2_7 : Int32) (t0_194 : Int32) (v36 : Int32) (t0_218 : Int32) (Q : Int32 → Prop) (N7 : Int32 → Prop) (t0_275 : Int32) : Prop :=
  (t0_194 = 0 → (Q (0 : Int32))) ∧ (¬ t0_194 = 0 → ((v36 < 0 → (Q (0 : Int32))) ∧ (¬ v36 < 0 → ((t0_275 < 0 → (Q (0 : Int32))) ∧ (¬ t0_275 < 0 → ((t0_275 = 0 → ((t0_218 ≤ v36 → (∀ v55 : Int32, v55 = x2_7 + (1 : Int32) → (N7 v55))) ∧ (¬ t0_218 ≤ v36 → (Q (0 : Int32))))) ∧ (¬ t0_275 = 0 → (∀ v53 : Int32, v53 = x2_7 + (1 : Int32) → (N7 v53)))))))))
def jL_doors_241 (z : zG) (x2_7 : Int32) (t0_194 : Int32) (v36 : Int32) (t0_218 : Int32) (Q : Int32 → Prop) (N7 : Int32 → Prop) (t0_241 : Int32) : Prop :=
  (t0_241 = 0 → (wL_median v36  z (fun r59 => (0 ≤ r59 → ((s_gradesOf z t0_218).1 = 0 ∧ ((s_gradesOf z v36).1 = 0 ∧ (jL_doors_275 x2_7 t0_194 v36 t0_218 Q N7 ((nI (s_gradesOf z t0_218).2.1) - (nI (s_gradesOf z v36).2.1)))))) ∧ (¬ 0 ≤ r59 → (jL_doors_275 x2_7 t0_194 v36 t0_218 Q N7 t0_241))))) ∧ (¬ t0_241 = 0 → (jL_doors_275 x2_7 t0_194 v36 t0_218 Q N7 t0_241))
def jL_doors_218 (z : zG) (x2_7 : Int32) (t0_194 : Int32) (v36 : Int32) (Q : Int32 → Prop) (N7 : Int32 → Prop) (t0_218 : Int32) : Prop :=
  (x2_7 = 0 → (jL_doors_241 z x2_7 t0_194 v36 t0_218 Q N7 (1 : Int32))) ∧ (¬ x2_7 = 0 → (wL_median t0_218  z (fun r66 => wL_median v36  z (fun r67 => jL_doors_241 z x2_7 t0_194 v36 t0_218 Q N7 (r66 - r67)))))
def jL_doors_194 (z : zG) (x2_7 : Int32) (Q : Int32 → Prop) (N7 : Int32 → Prop) (t0_194 : Int32) : Prop :=
  ∀ v36 : Int32, v36 = (zv (s_doorAtRank z x2_7) [(-13)]) → ((x2_7 = 0 → (jL_doors_218 z x2_7 t0_194 v36 Q N7 (-1 : Int32))) ∧ (¬ x2_7 = 0 → (jL_doors_218 z x2_7 t0_194 v36 Q N7 (zv (s_doorAtRank z ((x2_7 - (1 : Int32)))) [(-13)]))))
def jL_doors_186 (z : zG) (x2_7 : Int32) (Q : Int32 → Prop) (N7 : Int32 → Prop) (t0_186 : Int32) : Prop :=
  ((zv (s_isEntitled z x2_7) [(-11)]) = t0_186 → (jL_doors_194 z x2_7 Q N7 (1 : Int32))) ∧ (¬ (zv (s_isEntitled z x2_7) [(-11)]) = t0_186 → (jL_doors_194 z x2_7 Q N7 (0 : Int32)))
def jL_doors_156 (z : zG) (x2_7 : Int32) (t0_91 : Int32) (Q : Int32 → Prop) (N7 : Int32 → Prop) (t0_156 : Int32) : Prop :=
  (t0_156 = 0 → (jL_doors_194 z x2_7 Q N7 (0 : Int32))) ∧ (¬ t0_156 = 0 → ((t0_91 = 0 → ((s_wasGranted z x2_7).1 = 0 ∧ (((nI (s_wasGranted z x2_7).2.1) = 0 → (jL_doors_186 z x2_7 Q N7 (0 : Int32))) ∧ (¬ (nI (s_wasGranted z x2_7).2.1) = 0 → (jL_doors_186 z x2_7 Q N7 (1 : Int32)))))) ∧ (¬ t0_91 = 0 → (jL_doors_186 z x2_7 Q N7 (1 : Int32)))))
def jL_doors_148 (z : zG) (x2_7 : Int32) (t0_91 : Int32) (Q : Int32 → Prop) (N7 : Int32 → Prop) (t0_148 : Int32) : Prop :=
  ((zv (s_passes z x2_7) [(-11)]) = t0_148 → (jL_doors_156 z x2_7 t0_91 Q N7 (1 : Int32))) ∧ (¬ (zv (s_passes z x2_7) [(-11)]) = t0_148 → (jL_doors_156 z x2_7 t0_91 Q N7 (0 : Int32)))
def jL_doors_91 (z : zG) (x2_7 : Int32) (x3_20k : Int32) (x4_20k : Int32) (r23 : Int32) (Q : Int32 → Prop) (N7 : Int32 → Prop) (t0_91 : Int32) : Prop :=
  ((zv (s_examinersOf z x2_7) [(-11)]) = x3_20k → (((zv (s_gradesOf z x2_7) [(-11)]) = x4_20k → (((3 : Int32) < x3_20k → (jL_doors_156 z x2_7 t0_91 Q N7 (0 : Int32))) ∧ (¬ (3 : Int32) < x3_20k → ((x3_20k < x4_20k → (jL_doors_156 z x2_7 t0_91 Q N7 (0 : Int32))) ∧ (¬ x3_20k < x4_20k → (((zv (s_result z x2_7) [(-11), (-13)]) = r23 → ((t0_91 = 0 → (jL_doors_148 z x2_7 t0_91 Q N7 (0 : Int32))) ∧ (¬ t0_91 = 0 → (jL_doors_148 z x2_7 t0_91 Q N7 (1 : Int32))))) ∧ (¬ (zv (s_result z x2_7) [(-11), (-13)]) = r23 → (jL_doors_156 z x2_7 t0_91 Q N7 (0 : Int32))))))))) ∧ (¬ (zv (s_gradesOf z x2_7) [(-11)]) = x4_20k → (jL_doors_156 z x2_7 t0_91 Q N7 (0 : Int32))))) ∧ (¬ (zv (s_examinersOf z x2_7) [(-11)]) = x3_20k → (jL_doors_156 z x2_7 t0_91 Q N7 (0 : Int32)))
def jL_doors_56 (x4_20 : Int32) (x5_20 : Int32) (v112 : Int32) (N20 : Int32 → Int32 → Int32 → Prop) (t0_56 : Int32) : Prop :=
  ∀ v117 : Int32, v117 = (x4_20 + t0_56) → (∀ v118 : Int32, v118 = x5_20 + (1 : Int32) → (N20 v112 v117 v118))
def lL_doors_20 (z : zG) (x2_7 : Int32) (K20 : Int32 → Int32 → Prop) : Nat → Int32 → Int32 → Int32 → Prop
  | 0, _, _, _ => False
  | n20 + 1, x3_20, x4_20, x5_20 => ((nI (z.1 1)) ≤ x5_20 → (K20 x3_20 x4_20)) ∧ (¬ (nI (z.1 1)) ≤ x5_20 → (∀ v112 : Int32, v112 = (x3_20 + (zv (s_isAssigned z x5_20 x2_7) [(-11)])) → (((zv (s_gradeBy z x5_20 x2_7) [(-11), (-13)]) < 0 → (jL_doors_56 x4_20 x5_20 v112 (fun x3_20 x4_20 x5_20 => lL_doors_20 z x2_7 K20 n20 x3_20 x4_20 x5_20) (0 : Int32))) ∧ (¬ (zv (s_gradeBy z x5_20 x2_7) [(-11), (-13)]) < 0 → (jL_doors_56 x4_20 x5_20 v112 (fun x3_20 x4_20 x5_20 => lL_doors_20 z x2_7 K20 n20 x3_20 x4_20 x5_20) (1 : Int32))))))
def lL_doors_7 (z : zG) (v1 : Int32) (Q : Int32 → Prop) (K7 : Prop) : Nat → Int32 → Prop
  | 0, _ => False
  | n7 + 1, x2_7 => (v1 ≤ x2_7 → (K7)) ∧ (¬ v1 ≤ x2_7 → (lL_doors_20 z x2_7 (fun x3_20k x4_20k => wL_median x2_7  z (fun r23 => (r23 < 0 → (jL_doors_91 z x2_7 x3_20k x4_20k r23 Q (fun x2_7 => lL_doors_7 z v1 Q K7 n7 x2_7) (0 : Int32))) ∧ (¬ r23 < 0 → ((r23 < (nI (z.1 2)) → (jL_doors_91 z x2_7 x3_20k x4_20k r23 Q (fun x2_7 => lL_doors_7 z v1 Q K7 n7 x2_7) (0 : Int32))) ∧ (¬ r23 < (nI (z.1 2)) → (jL_doors_91 z x2_7 x3_20k x4_20k r23 Q (fun x2_7 => lL_doors_7 z v1 Q K7 n7 x2_7) (1 : Int32))))))) 7 (0 : Int32) (0 : Int32) (0 : Int32)))
def wL_doors  (z : zG) (Q : Int32 → Prop) : Prop :=
  ∀ v1 : Int32, v1 = (nI (z.1 0)) → (lL_doors_7 z v1 Q (((zv (s_doorAtRank z v1) [(-13)]) = (-13 : Int32) → (((zv (s_doorAtRank z ((-1 : Int32))) [(-13)]) = (-13 : Int32) → (((zv (s_frameOfDoor z v1) [(-11)]) = (-11 : Int32) → (((zv (s_topic z v1) [(-11)]) = (-11 : Int32) → (((zv (s_examinersOf z v1) [(-11)]) = (-11 : Int32) → (((zv (s_gradesOf z ((-1 : Int32))) [(-11)]) = (-11 : Int32) → (((zv (s_result z v1) [(-11), (-13)]) = (-11 : Int32) → (((zv (s_passes z v1) [(-11)]) = (-11 : Int32) → (((zv (s_wasGranted z v1) [(-11)]) = (-11 : Int32) → (((zv (s_isEntitled z v1) [(-11)]) = (-11 : Int32) → (Q (1 : Int32))) ∧ (¬ (zv (s_isEntitled z v1) [(-11)]) = (-11 : Int32) → (Q (0 : Int32))))) ∧ (¬ (zv (s_wasGranted z v1) [(-11)]) = (-11 : Int32) → (Q (0 : Int32))))) ∧ (¬ (zv (s_passes z v1) [(-11)]) = (-11 : Int32) → (Q (0 : Int32))))) ∧ (¬ (zv (s_result z v1) [(-11), (-13)]) = (-11 : Int32) → (Q (0 : Int32))))) ∧ (¬ (zv (s_gradesOf z ((-1 : Int32))) [(-11)]) = (-11 : Int32) → (Q (0 : Int32))))) ∧ (¬ (zv (s_examinersOf z v1) [(-11)]) = (-11 : Int32) → (Q (0 : Int32))))) ∧ (¬ (zv (s_topic z v1) [(-11)]) = (-11 : Int32) → (Q (0 : Int32))))) ∧ (¬ (zv (s_frameOfDoor z v1) [(-11)]) = (-11 : Int32) → (Q (0 : Int32))))) ∧ (¬ (zv (s_doorAtRank z ((-1 : Int32))) [(-13)]) = (-13 : Int32) → (Q (0 : Int32))))) ∧ (¬ (zv (s_doorAtRank z v1) [(-13)]) = (-13 : Int32) → (Q (0 : Int32)))) 9 (0 : Int32))
theorem cs_L_doors : sw_cS yL_doors cL_doors 11 (some .boolean) 1 := ⟨q_485, q_1, q_486, by decide +kernel⟩
set_option maxRecDepth 20000 in
set_option maxHeartbeats 4000000 in
theorem kL_doors (l : Launch) (hst : l.stackTraces = false) (g : sG)  (z : zG) (Q : Int32 → Prop) (h : wL_doors  z Q) : Met l yL_doors (sw_ws yL_doors cL_doors 11 (some .boolean)) { frames := 11, cells := 1217, slots := 7410, locals := 209 } (va_Pc [.ref (sw_ad g 0)] (zl_Pr g z)) (va_Qi (fun r z' => Q r ∧ z' = z) (zl_Po g) (sw_A g)) 1217 7410 (sw_A g) := by
  refine zl_met (by decide) (Nat.le_of_ble_eq_true rfl) ?_
  intro p e s m args below meth c ls hx hb hr hts hown hml hlocks hW hl
  have hown : s.vm.findClass RL = some m.cls := hown
  have hl : lv_has ls 11 [(0, .ref (sw_ad g 0))] := hl
  obtain ⟨R, hRe⟩ : ∃ R : Room, R = { frames := 11, cells := 1217, slots := 7410, locals := 209 } := ⟨_, rfl⟩
  rw [← hRe]
  have hRf : R.frames = 11 := by rw [hRe]
  have hRc : R.cells = 1217 := by rw [hRe]
  have hRs : R.slots = 7410 := by rw [hRe]
  have hRl : R.locals = 209 := by rw [hRe]
  clear hRe
  have gc0 : 0 + 1217 ≤ R.cells := by rw [hRc]; exact (Nat.le_of_ble_eq_true rfl)
  have gs0 : 0 + 7410 ≤ R.slots := by rw [hRs]; exact (Nat.le_of_ble_eq_true rfl)
  obtain ⟨Q0, hQ0⟩ : ∃ Q0 : State → Prop, Q0 = MQ below (va_Qi (fun r z' => Q r ∧ z' = z) (zl_Po g) (sw_A g)) args s 1217 7410 (sw_A g) := ⟨_, rfl⟩
  rw [← hQ0]
  generalize hHs : s.heap = H at hW ⊢
  generalize hLo : ([] : List Loc) = locs at hW ⊢
  unfold wL_doors at h
  refine lv_aload_n hx hb dL_doors_0 rfl (lv_at hl 0 rfl) ?_
  refine zl_ki (g := g) (rest := []) (zl_runV (g := g) (As := []) (rest := []) hx hb hml hown hts (zD_doorCount l (zl_re g H.size) z) cv_X6_doorCount q_487 rfl rfl ⟨by rw [hRf]; exact (Nat.le_of_ble_eq_true rfl), by rw [hRl]; exact (Nat.le_of_ble_eq_true rfl)⟩ hW (Or.inl (Nat.le_of_ble_eq_true rfl)) sl_0 rfl rfl hl.1 rfl (Nat.le_of_ble_eq_true rfl) dL_doors_1 ⟨(zc1 (D := 0) gc0 (Nat.le_of_ble_eq_true rfl)), (zc1 (D := 0) gs0 (Nat.le_of_ble_eq_true rfl))⟩) hW (fun r9 z9 H locs h9 hW => ?_)
  obtain ⟨rfl, e9⟩ := h9
  rw [e9] at hW
  refine lv_topi (fun v1 ev1 => ?_)
  replace h := h v1 ev1
  refine lv_istore_n (lv' := [(1, .int v1), (0, .ref (sw_ad g 0))]) hx hb dL_doors_4 rfl hl (Nat.le_of_ble_eq_true rfl) rfl (fun ls hl => ?_)
  refine lv_iconst (v := 0) hx hb dL_doors_5 (by decide) ?_
  refine lv_istore_n (lv' := [(2, .int (0 : Int32)), (1, .int v1), (0, .ref (sw_ad g 0))]) hx hb dL_doors_6 rfl hl (Nat.le_of_ble_eq_true rfl) rfl (fun ls hl => ?_)
  obtain ⟨CL7, hCL7⟩ : ∃ n : Nat, n = 0 + 0 + 1206 := ⟨_, rfl⟩
  obtain ⟨SL7, hSL7⟩ : ∃ n : Nat, n = 0 + 0 + 7344 := ⟨_, rfl⟩
  have hX7 : ∀   (H : Heap) (locs : List Loc) (ls : Array Slot) (cx7 sx7 : Nat), (((zv (s_doorAtRank z v1) [(-13)]) = (-13 : Int32) → (((zv (s_doorAtRank z ((-1 : Int32))) [(-13)]) = (-13 : Int32) → (((zv (s_frameOfDoor z v1) [(-11)]) = (-11 : Int32) → (((zv (s_topic z v1) [(-11)]) = (-11 : Int32) → (((zv (s_examinersOf z v1) [(-11)]) = (-11 : Int32) → (((zv (s_gradesOf z ((-1 : Int32))) [(-11)]) = (-11 : Int32) → (((zv (s_result z v1) [(-11), (-13)]) = (-11 : Int32) → (((zv (s_passes z v1) [(-11)]) = (-11 : Int32) → (((zv (s_wasGranted z v1) [(-11)]) = (-11 : Int32) → (((zv (s_isEntitled z v1) [(-11)]) = (-11 : Int32) → (Q (1 : Int32))) ∧ (¬ (zv (s_isEntitled z v1) [(-11)]) = (-11 : Int32) → (Q (0 : Int32))))) ∧ (¬ (zv (s_wasGranted z v1) [(-11)]) = (-11 : Int32) → (Q (0 : Int32))))) ∧ (¬ (zv (s_passes z v1) [(-11)]) = (-11 : Int32) → (Q (0 : Int32))))) ∧ (¬ (zv (s_result z v1) [(-11), (-13)]) = (-11 : Int32) → (Q (0 : Int32))))) ∧ (¬ (zv (s_gradesOf z ((-1 : Int32))) [(-11)]) = (-11 : Int32) → (Q (0 : Int32))))) ∧ (¬ (zv (s_examinersOf z v1) [(-11)]) = (-11 : Int32) → (Q (0 : Int32))))) ∧ (¬ (zv (s_topic z v1) [(-11)]) = (-11 : Int32) → (Q (0 : Int32))))) ∧ (¬ (zv (s_frameOfDoor z v1) [(-11)]) = (-11 : Int32) → (Q (0 : Int32))))) ∧ (¬ (zv (s_doorAtRank z ((-1 : Int32))) [(-13)]) = (-13 : Int32) → (Q (0 : Int32))))) ∧ (¬ (zv (s_doorAtRank z v1) [(-13)]) = (-13 : Int32) → (Q (0 : Int32)))) → cx7 ≤ CL7 → sx7 ≤ SL7 → zl_Wd g [] z s H locs → lv_has ls 11 [(0, .ref (sw_ad g 0)), (1, .int v1)] → W p l e R s m args below meth c H locs cx7 sx7 Q0 (F0 m 312 ls []) := by
    intro   H locs ls cx7 sx7 h hcx7 hsx7 hW hl
    have g2 : cx7 + 11 ≤ R.cells := zc8 (x := 0) (D := 1206) (s := 1217) (s' := 11) hcx7 hCL7 gc0 (Nat.le_of_ble_eq_true rfl)
    have g3 : sx7 + 66 ≤ R.slots := zc8 (x := 0) (D := 7344) (s := 7410) (s' := 66) hsx7 hSL7 gs0 (Nat.le_of_ble_eq_true rfl)
    refine lv_aload_n hx hb dL_doors_312 rfl (lv_at hl 0 rfl) ?_
    refine lv_iload_n hx hb dL_doors_313 rfl (lv_at hl 1 rfl) ?_
    refine zl_ki (g := g) (rest := []) (zl_runH (g := g) (As := [.ref (sw_ad g 0), .int v1]) (rest := []) hx hb hml hown hts (kL_doorAtRank l hst (zl_re g H.size) z v1) ch_L_doorAtRank q_570 rfl rfl ⟨by rw [hRf]; exact (Nat.le_of_ble_eq_true rfl), by rw [hRl]; exact (Nat.le_of_ble_eq_true rfl)⟩ hW rfl hl.1 rfl (Nat.le_of_ble_eq_true rfl) dL_doors_314 ⟨(zc1 (D := 1) g2 (Nat.le_of_ble_eq_true rfl)), (zc1 (D := 6) g3 (Nat.le_of_ble_eq_true rfl))⟩) hW (fun r9 z9 H locs h9 hW => ?_)
    obtain ⟨rfl, e9⟩ := h9
    rw [e9, s_doorAtRank_z] at hW
    refine lv_bipush (v := -13) hx hb dL_doors_317 (by decide) ?_
    refine lv_icmp_ne (tgt := 416) hx hb dL_doors_319 (by decide) (fun k4 => ?_) (fun k4 => ?_)
    · replace h := h.2 k4
      refine lv_iconst (v := 0) hx hb dL_doors_416 (by decide) ?_
      subst hQ0
      refine W.widen (k := 1217) (n := 7410) (Nat.le_trans (zc1 (D := 1) g2 (Nat.le_of_ble_eq_true rfl)) (Nat.le_of_eq hRc)) (Nat.le_trans (zc1 (D := 6) g3 (Nat.le_of_ble_eq_true rfl)) (Nat.le_of_eq hRs)) ?_
      exact zl_ri hx hb hr hlocks hW (by decide) ⟨h, rfl⟩ dL_doors_417
    · replace h := h.1 k4
      refine lv_aload_n hx hb dL_doors_322 rfl (lv_at hl 0 rfl) ?_
      refine lv_iconst (v := -1) hx hb dL_doors_323 (by decide) ?_
      refine zl_ki (g := g) (rest := []) (zl_runH (g := g) (As := [.ref (sw_ad g 0), .int (-1 : Int32)]) (rest := []) hx hb hml hown hts (kL_doorAtRank l hst (zl_re g H.size) z ((-1 : Int32))) ch_L_doorAtRank q_570 rfl rfl ⟨by rw [hRf]; exact (Nat.le_of_ble_eq_true rfl), by rw [hRl]; exact (Nat.le_of_ble_eq_true rfl)⟩ hW rfl hl.1 rfl (Nat.le_of_ble_eq_true rfl) dL_doors_324 ⟨(zc1 (D := 2) g2 (Nat.le_of_ble_eq_true rfl)), (zc1 (D := 12) g3 (Nat.le_of_ble_eq_true rfl))⟩) hW (fun r9 z9 H locs h9 hW => ?_)
      obtain ⟨rfl, e9⟩ := h9
      rw [e9, s_doorAtRank_z] at hW
      refine lv_bipush (v := -13) hx hb dL_doors_327 (by decide) ?_
      refine lv_icmp_ne (tgt := 416) hx hb dL_doors_329 (by decide) (fun k5 => ?_) (fun k5 => ?_)
      · replace h := h.2 k5
        refine lv_iconst (v := 0) hx hb dL_doors_416 (by decide) ?_
        subst hQ0
        refine W.widen (k := 1217) (n := 7410) (Nat.le_trans (zc1 (D := 2) g2 (Nat.le_of_ble_eq_true rfl)) (Nat.le_of_eq hRc)) (Nat.le_trans (zc1 (D := 12) g3 (Nat.le_of_ble_eq_true rfl)) (Nat.le_of_eq hRs)) ?_
        exact zl_ri hx hb hr hlocks hW (by decide) ⟨h, rfl⟩ dL_doors_417
      · replace h := h.1 k5
        refine lv_aload_n hx hb dL_doors_332 rfl (lv_at hl 0 rfl) ?_
        refine lv_iload_n hx hb dL_doors_333 rfl (lv_at hl 1 rfl) ?_
        refine zl_ki (g := g) (rest := []) (zl_runH (g := g) (As := [.ref (sw_ad g 0), .int v1]) (rest := []) hx hb hml hown hts (kL_frameOfDoor l hst (zl_re g H.size) z v1) ch_L_frameOfDoor q_588 rfl rfl ⟨by rw [hRf]; exact (Nat.le_of_ble_eq_true rfl), by rw [hRl]; exact (Nat.le_of_ble_eq_true rfl)⟩ hW rfl hl.1 rfl (Nat.le_of_ble_eq_true rfl) dL_doors_334 ⟨(zc1 (D := 3) g2 (Nat.le_of_ble_eq_true rfl)), (zc1 (D := 18) g3 (Nat.le_of_ble_eq_true rfl))⟩) hW (fun r9 z9 H locs h9 hW => ?_)
        obtain ⟨rfl, e9⟩ := h9
        rw [e9, s_frameOfDoor_z] at hW
        refine lv_bipush (v := -11) hx hb dL_doors_337 (by decide) ?_
        refine lv_icmp_ne (tgt := 416) hx hb dL_doors_339 (by decide) (fun k6 => ?_) (fun k6 => ?_)
        · replace h := h.2 k6
          refine lv_iconst (v := 0) hx hb dL_doors_416 (by decide) ?_
          subst hQ0
          refine W.widen (k := 1217) (n := 7410) (Nat.le_trans (zc1 (D := 3) g2 (Nat.le_of_ble_eq_true rfl)) (Nat.le_of_eq hRc)) (Nat.le_trans (zc1 (D := 18) g3 (Nat.le_of_ble_eq_true rfl)) (Nat.le_of_eq hRs)) ?_
          exact zl_ri hx hb hr hlocks hW (by decide) ⟨h, rfl⟩ dL_doors_417
        · replace h := h.1 k6
          refine lv_aload_n hx hb dL_doors_342 rfl (lv_at hl 0 rfl) ?_
          refine lv_iload_n hx hb dL_doors_343 rfl (lv_at hl 1 rfl) ?_
          refine zl_ki (g := g) (rest := []) (zl_runH (g := g) (As := [.ref (sw_ad g 0), .int v1]) (rest := []) hx hb hml hown hts (kL_topic l hst (zl_re g H.size) z v1) ch_L_topic q_594 rfl rfl ⟨by rw [hRf]; exact (Nat.le_of_ble_eq_true rfl), by rw [hRl]; exact (Nat.le_of_ble_eq_true rfl)⟩ hW rfl hl.1 rfl (Nat.le_of_ble_eq_true rfl) dL_doors_344 ⟨(zc1 (D := 4) g2 (Nat.le_of_ble_eq_true rfl)), (zc1 (D := 24) g3 (Nat.le_of_ble_eq_true rfl))⟩) hW (fun r9 z9 H locs h9 hW => ?_)
          obtain ⟨rfl, e9⟩ := h9
          rw [e9, s_topic_z] at hW
          refine lv_bipush (v := -11) hx hb dL_doors_347 (by decide) ?_
          refine lv_icmp_ne (tgt := 416) hx hb dL_doors_349 (by decide) (fun k7 => ?_) (fun k7 => ?_)
          · replace h := h.2 k7
            refine lv_iconst (v := 0) hx hb dL_doors_416 (by decide) ?_
            subst hQ0
            refine W.widen (k := 1217) (n := 7410) (Nat.le_trans (zc1 (D := 4) g2 (Nat.le_of_ble_eq_true rfl)) (Nat.le_of_eq hRc)) (Nat.le_trans (zc1 (D := 24) g3 (Nat.le_of_ble_eq_true rfl)) (Nat.le_of_eq hRs)) ?_
            exact zl_ri hx hb hr hlocks hW (by decide) ⟨h, rfl⟩ dL_doors_417
          · replace h := h.1 k7
            refine lv_aload_n hx hb dL_doors_352 rfl (lv_at hl 0 rfl) ?_
            refine lv_iload_n hx hb dL_doors_353 rfl (lv_at hl 1 rfl) ?_
            refine zl_ki (g := g) (rest := []) (zl_runH (g := g) (As := [.ref (sw_ad g 0), .int v1]) (rest := []) hx hb hml hown hts (kL_examinersOf l hst (zl_re g H.size) z v1) ch_L_examinersOf q_530 rfl rfl ⟨by rw [hRf]; exact (Nat.le_of_ble_eq_true rfl), by rw [hRl]; exact (Nat.le_of_ble_eq_true rfl)⟩ hW rfl hl.1 rfl (Nat.le_of_ble_eq_true rfl) dL_doors_354 ⟨(zc1 (D := 5) g2 (Nat.le_of_ble_eq_true rfl)), (zc1 (D := 30) g3 (Nat.le_of_ble_eq_true rfl))⟩) hW (fun r9 z9 H locs h9 hW => ?_)
            obtain ⟨rfl, e9⟩ := h9
            rw [e9, s_examinersOf_z] at hW
            refine lv_bipush (v := -11) hx hb dL_doors_357 (by decide) ?_
            refine lv_icmp_ne (tgt := 416) hx hb dL_doors_359 (by decide) (fun k8 => ?_) (fun k8 => ?_)
            · replace h := h.2 k8
              refine lv_iconst (v := 0) hx hb dL_doors_416 (by decide) ?_
              subst hQ0
              refine W.widen (k := 1217) (n := 7410) (Nat.le_trans (zc1 (D := 5) g2 (Nat.le_of_ble_eq_true rfl)) (Nat.le_of_eq hRc)) (Nat.le_trans (zc1 (D := 30) g3 (Nat.le_of_ble_eq_true rfl)) (Nat.le_of_eq hRs)) ?_
              exact zl_ri hx hb hr hlocks hW (by decide) ⟨h, rfl⟩ dL_doors_417
            · replace h := h.1 k8
              refine lv_aload_n hx hb dL_doors_362 rfl (lv_at hl 0 rfl) ?_
              refine lv_iconst (v := -1) hx hb dL_doors_363 (by decide) ?_
              refine zl_ki (g := g) (rest := []) (zl_runH (g := g) (As := [.ref (sw_ad g 0), .int (-1 : Int32)]) (rest := []) hx hb hml hown hts (kL_gradesOf l hst (zl_re g H.size) z ((-1 : Int32))) ch_L_gradesOf q_537 rfl rfl ⟨by rw [hRf]; exact (Nat.le_of_ble_eq_true rfl), by rw [hRl]; exact (Nat.le_of_ble_eq_true rfl)⟩ hW rfl hl.1 rfl (Nat.le_of_ble_eq_true rfl) dL_doors_364 ⟨(zc1 (D := 6) g2 (Nat.le_of_ble_eq_true rfl)), (zc1 (D := 36) g3 (Nat.le_of_ble_eq_true rfl))⟩) hW (fun r9 z9 H locs h9 hW => ?_)
              obtain ⟨rfl, e9⟩ := h9
              rw [e9, s_gradesOf_z] at hW
              refine lv_bipush (v := -11) hx hb dL_doors_367 (by decide) ?_
              refine lv_icmp_ne (tgt := 416) hx hb dL_doors_369 (by decide) (fun k9 => ?_) (fun k9 => ?_)
              · replace h := h.2 k9
                refine lv_iconst (v := 0) hx hb dL_doors_416 (by decide) ?_
                subst hQ0
                refine W.widen (k := 1217) (n := 7410) (Nat.le_trans (zc1 (D := 6) g2 (Nat.le_of_ble_eq_true rfl)) (Nat.le_of_eq hRc)) (Nat.le_trans (zc1 (D := 36) g3 (Nat.le_of_ble_eq_true rfl)) (Nat.le_of_eq hRs)) ?_
                exact zl_ri hx hb hr hlocks hW (by decide) ⟨h, rfl⟩ dL_doors_417
              · replace h := h.1 k9
                refine lv_aload_n hx hb dL_doors_372 rfl (lv_at hl 0 rfl) ?_
                refine lv_iload_n hx hb dL_doors_373 rfl (lv_at hl 1 rfl) ?_
                refine zl_ki (g := g) (rest := []) (zl_runH (g := g) (As := [.ref (sw_ad g 0), .int v1]) (rest := []) hx hb hml hown hts (kL_result l hst (zl_re g H.size) z v1) ch_L_result q_544 rfl rfl ⟨by rw [hRf]; exact (Nat.le_of_ble_eq_true rfl), by rw [hRl]; exact (Nat.le_of_ble_eq_true rfl)⟩ hW rfl hl.1 rfl (Nat.le_of_ble_eq_true rfl) dL_doors_374 ⟨(zc1 (D := 8) g2 (Nat.le_of_ble_eq_true rfl)), (zc1 (D := 48) g3 (Nat.le_of_ble_eq_true rfl))⟩) hW (fun r9 z9 H locs h9 hW => ?_)
                obtain ⟨rfl, e9⟩ := h9
                rw [e9, s_result_z] at hW
                refine lv_bipush (v := -11) hx hb dL_doors_377 (by decide) ?_
                refine lv_icmp_ne (tgt := 416) hx hb dL_doors_379 (by decide) (fun k10 => ?_) (fun k10 => ?_)
                · replace h := h.2 k10
                  refine lv_iconst (v := 0) hx hb dL_doors_416 (by decide) ?_
                  subst hQ0
                  refine W.widen (k := 1217) (n := 7410) (Nat.le_trans (zc1 (D := 8) g2 (Nat.le_of_ble_eq_true rfl)) (Nat.le_of_eq hRc)) (Nat.le_trans (zc1 (D := 48) g3 (Nat.le_of_ble_eq_true rfl)) (Nat.le_of_eq hRs)) ?_
                  exact zl_ri hx hb hr hlocks hW (by decide) ⟨h, rfl⟩ dL_doors_417
                · replace h := h.1 k10
                  refine lv_aload_n hx hb dL_doors_382 rfl (lv_at hl 0 rfl) ?_
                  refine lv_iload_n hx hb dL_doors_383 rfl (lv_at hl 1 rfl) ?_
                  refine zl_ki (g := g) (rest := []) (zl_runH (g := g) (As := [.ref (sw_ad g 0), .int v1]) (rest := []) hx hb hml hown hts (kL_passes l hst (zl_re g H.size) z v1) ch_L_passes q_551 rfl rfl ⟨by rw [hRf]; exact (Nat.le_of_ble_eq_true rfl), by rw [hRl]; exact (Nat.le_of_ble_eq_true rfl)⟩ hW rfl hl.1 rfl (Nat.le_of_ble_eq_true rfl) dL_doors_384 ⟨(zc1 (D := 9) g2 (Nat.le_of_ble_eq_true rfl)), (zc1 (D := 54) g3 (Nat.le_of_ble_eq_true rfl))⟩) hW (fun r9 z9 H locs h9 hW => ?_)
                  obtain ⟨rfl, e9⟩ := h9
                  rw [e9, s_passes_z] at hW
                  refine lv_bipush (v := -11) hx hb dL_doors_387 (by decide) ?_
                  refine lv_icmp_ne (tgt := 416) hx hb dL_doors_389 (by decide) (fun k11 => ?_) (fun k11 => ?_)
                  · replace h := h.2 k11
                    refine lv_iconst (v := 0) hx hb dL_doors_416 (by decide) ?_
                    subst hQ0
                    refine W.widen (k := 1217) (n := 7410) (Nat.le_trans (zc1 (D := 9) g2 (Nat.le_of_ble_eq_true rfl)) (Nat.le_of_eq hRc)) (Nat.le_trans (zc1 (D := 54) g3 (Nat.le_of_ble_eq_true rfl)) (Nat.le_of_eq hRs)) ?_
                    exact zl_ri hx hb hr hlocks hW (by decide) ⟨h, rfl⟩ dL_doors_417
                  · replace h := h.1 k11
                    refine lv_aload_n hx hb dL_doors_392 rfl (lv_at hl 0 rfl) ?_
                    refine lv_iload_n hx hb dL_doors_393 rfl (lv_at hl 1 rfl) ?_
                    refine zl_ki (g := g) (rest := []) (zl_runH (g := g) (As := [.ref (sw_ad g 0), .int v1]) (rest := []) hx hb hml hown hts (kL_wasGranted l hst (zl_re g H.size) z v1) ch_L_wasGranted q_600 rfl rfl ⟨by rw [hRf]; exact (Nat.le_of_ble_eq_true rfl), by rw [hRl]; exact (Nat.le_of_ble_eq_true rfl)⟩ hW rfl hl.1 rfl (Nat.le_of_ble_eq_true rfl) dL_doors_394 ⟨(zc1 (D := 10) g2 (Nat.le_of_ble_eq_true rfl)), (zc1 (D := 60) g3 (Nat.le_of_ble_eq_true rfl))⟩) hW (fun r9 z9 H locs h9 hW => ?_)
                    obtain ⟨rfl, e9⟩ := h9
                    rw [e9, s_wasGranted_z] at hW
                    refine lv_bipush (v := -11) hx hb dL_doors_397 (by decide) ?_
                    refine lv_icmp_ne (tgt := 416) hx hb dL_doors_399 (by decide) (fun k12 => ?_) (fun k12 => ?_)
                    · replace h := h.2 k12
                      refine lv_iconst (v := 0) hx hb dL_doors_416 (by decide) ?_
                      subst hQ0
                      refine W.widen (k := 1217) (n := 7410) (Nat.le_trans (zc1 (D := 10) g2 (Nat.le_of_ble_eq_true rfl)) (Nat.le_of_eq hRc)) (Nat.le_trans (zc1 (D := 60) g3 (Nat.le_of_ble_eq_true rfl)) (Nat.le_of_eq hRs)) ?_
                      exact zl_ri hx hb hr hlocks hW (by decide) ⟨h, rfl⟩ dL_doors_417
                    · replace h := h.1 k12
                      refine lv_aload_n hx hb dL_doors_402 rfl (lv_at hl 0 rfl) ?_
                      refine lv_iload_n hx hb dL_doors_403 rfl (lv_at hl 1 rfl) ?_
                      refine zl_ki (g := g) (rest := []) (zl_runH (g := g) (As := [.ref (sw_ad g 0), .int v1]) (rest := []) hx hb hml hown hts (kL_isEntitled l hst (zl_re g H.size) z v1) ch_L_isEntitled q_558 rfl rfl ⟨by rw [hRf]; exact (Nat.le_of_ble_eq_true rfl), by rw [hRl]; exact (Nat.le_of_ble_eq_true rfl)⟩ hW rfl hl.1 rfl (Nat.le_of_ble_eq_true rfl) dL_doors_404 ⟨(zc1 (D := 11) g2 (Nat.le_of_ble_eq_true rfl)), (zc1 (D := 66) g3 (Nat.le_of_ble_eq_true rfl))⟩) hW (fun r9 z9 H locs h9 hW => ?_)
                      obtain ⟨rfl, e9⟩ := h9
                      rw [e9, s_isEntitled_z] at hW
                      refine lv_bipush (v := -11) hx hb dL_doors_407 (by decide) ?_
                      refine lv_icmp_ne (tgt := 416) hx hb dL_doors_409 (by decide) (fun k13 => ?_) (fun k13 => ?_)
                      · replace h := h.2 k13
                        refine lv_iconst (v := 0) hx hb dL_doors_416 (by decide) ?_
                        subst hQ0
                        refine W.widen (k := 1217) (n := 7410) (Nat.le_trans (zc1 (D := 11) g2 (Nat.le_of_ble_eq_true rfl)) (Nat.le_of_eq hRc)) (Nat.le_trans (zc1 (D := 66) g3 (Nat.le_of_ble_eq_true rfl)) (Nat.le_of_eq hRs)) ?_
                        exact zl_ri hx hb hr hlocks hW (by decide) ⟨h, rfl⟩ dL_doors_417
                      · replace h := h.1 k13
                        refine lv_iconst (v := 1) hx hb dL_doors_412 (by decide) ?_
                        refine lv_goto (tgt := 417) hx hb dL_doors_413 (by decide) ?_
                        subst hQ0
                        refine W.widen (k := 1217) (n := 7410) (Nat.le_trans (zc1 (D := 11) g2 (Nat.le_of_ble_eq_true rfl)) (Nat.le_of_eq hRc)) (Nat.le_trans (zc1 (D := 66) g3 (Nat.le_of_ble_eq_true rfl)) (Nat.le_of_eq hRs)) ?_
                        exact zl_ri hx hb hr hlocks hW (by decide) ⟨h, rfl⟩ dL_doors_417
  have key7 : ∀ (n7 : Nat) (x2_7 : Int32)  (H : Heap) (locs : List Loc) (ls : Array Slot) (cn7 sn7 : Nat), lL_doors_7 z v1 Q (((zv (s_doorAtRank z v1) [(-13)]) = (-13 : Int32) → (((zv (s_doorAtRank z ((-1 : Int32))) [(-13)]) = (-13 : Int32) → (((zv (s_frameOfDoor z v1) [(-11)]) = (-11 : Int32) → (((zv (s_topic z v1) [(-11)]) = (-11 : Int32) → (((zv (s_examinersOf z v1) [(-11)]) = (-11 : Int32) → (((zv (s_gradesOf z ((-1 : Int32))) [(-11)]) = (-11 : Int32) → (((zv (s_result z v1) [(-11), (-13)]) = (-11 : Int32) → (((zv (s_passes z v1) [(-11)]) = (-11 : Int32) → (((zv (s_wasGranted z v1) [(-11)]) = (-11 : Int32) → (((zv (s_isEntitled z v1) [(-11)]) = (-11 : Int32) → (Q (1 : Int32))) ∧ (¬ (zv (s_isEntitled z v1) [(-11)]) = (-11 : Int32) → (Q (0 : Int32))))) ∧ (¬ (zv (s_wasGranted z v1) [(-11)]) = (-11 : Int32) → (Q (0 : Int32))))) ∧ (¬ (zv (s_passes z v1) [(-11)]) = (-11 : Int32) → (Q (0 : Int32))))) ∧ (¬ (zv (s_result z v1) [(-11), (-13)]) = (-11 : Int32) → (Q (0 : Int32))))) ∧ (¬ (zv (s_gradesOf z ((-1 : Int32))) [(-11)]) = (-11 : Int32) → (Q (0 : Int32))))) ∧ (¬ (zv (s_examinersOf z v1) [(-11)]) = (-11 : Int32) → (Q (0 : Int32))))) ∧ (¬ (zv (s_topic z v1) [(-11)]) = (-11 : Int32) → (Q (0 : Int32))))) ∧ (¬ (zv (s_frameOfDoor z v1) [(-11)]) = (-11 : Int32) → (Q (0 : Int32))))) ∧ (¬ (zv (s_doorAtRank z ((-1 : Int32))) [(-13)]) = (-13 : Int32) → (Q (0 : Int32))))) ∧ (¬ (zv (s_doorAtRank z v1) [(-13)]) = (-13 : Int32) → (Q (0 : Int32)))) n7 x2_7 → cn7 + n7 * 134 ≤ CL7 → sn7 + n7 * 816 ≤ SL7 → zl_Wd g [] z s H locs → lv_has ls 11 [(0, .ref (sw_ad g 0)), (1, .int v1), (2, .int x2_7)] → W p l e R s m args below meth c H locs cn7 sn7 Q0 (F0 m 7 ls []) := by
    intro n7
    induction n7 with
    | zero =>
      intro x2_7  H locs ls cn7 sn7 h
      exact False.elim h
    | succ n7 ih7 =>
      intro x2_7  H locs ls cn7 sn7 h hcn7 hsn7 hW hl
      rw [lL_doors_7.eq_2] at h
      obtain ⟨Tcn7, hTcn7⟩ : ∃ n : Nat, n = cn7 + 134 := ⟨_, rfl⟩
      obtain ⟨Tsn7, hTsn7⟩ : ∃ n : Nat, n = sn7 + 816 := ⟨_, rfl⟩
      have g14 : cn7 + 134 ≤ Tcn7 := Nat.le_of_eq hTcn7.symm
      have g15 : sn7 + 816 ≤ Tsn7 := Nat.le_of_eq hTsn7.symm
      have g16 : cn7 + 145 ≤ R.cells := zc9 (x := 0) (D := 1206) (s := 1217) (t := 145) hcn7 hCL7 gc0 (Nat.le_of_ble_eq_true rfl)
      have g17 : sn7 + 882 ≤ R.slots := zc9 (x := 0) (D := 7344) (s := 7410) (t := 882) hsn7 hSL7 gs0 (Nat.le_of_ble_eq_true rfl)
      refine lv_iload_n hx hb dL_doors_7 rfl (lv_at hl 2 rfl) ?_
      refine lv_iload_n hx hb dL_doors_8 rfl (lv_at hl 1 rfl) ?_
      refine lv_icmp_ge (tgt := 312) hx hb dL_doors_9 (by decide) (fun k18 => ?_) (fun k18 => ?_)
      · replace h := h.1 k18
        exact hX7  _ _ _ _ _ h (zc11 (zc1 (D := 0) g14 (Nat.le_of_ble_eq_true rfl)) hTcn7 hcn7) (zc11 (zc1 (D := 0) g15 (Nat.le_of_ble_eq_true rfl)) hTsn7 hsn7) hW (lv_sub hl [0, 1] rfl)
      · replace h := h.2 k18
        refine lv_iconst (v := 0) hx hb dL_doors_12 (by decide) ?_
        refine lv_istore_n (lv' := [(3, .int (0 : Int32)), (0, .ref (sw_ad g 0)), (1, .int v1), (2, .int x2_7)]) hx hb dL_doors_13 rfl hl (Nat.le_of_ble_eq_true rfl) rfl (fun ls hl => ?_)
        refine lv_iconst (v := 0) hx hb dL_doors_14 (by decide) ?_
        refine lv_istore (lv' := [(4, .int (0 : Int32)), (3, .int (0 : Int32)), (0, .ref (sw_ad g 0)), (1, .int v1), (2, .int x2_7)]) hx hb dL_doors_15 hl (Nat.le_of_ble_eq_true rfl) rfl (fun ls hl => ?_)
        refine lv_iconst (v := 0) hx hb dL_doors_17 (by decide) ?_
        refine lv_istore (lv' := [(5, .int (0 : Int32)), (4, .int (0 : Int32)), (3, .int (0 : Int32)), (0, .ref (sw_ad g 0)), (1, .int v1), (2, .int x2_7)]) hx hb dL_doors_18 hl (Nat.le_of_ble_eq_true rfl) rfl (fun ls hl => ?_)
        obtain ⟨CL20, hCL20⟩ : ∃ n : Nat, n = cn7 + 35 := ⟨_, rfl⟩
        obtain ⟨SL20, hSL20⟩ : ∃ n : Nat, n = sn7 + 210 := ⟨_, rfl⟩
        have hX20 : ∀ (x3_20k : Int32) (x4_20k : Int32)  (H : Heap) (locs : List Loc) (ls : Array Slot) (cx20 sx20 : Nat), (wL_median x2_7  z (fun r23 => (r23 < 0 → (jL_doors_91 z x2_7 x3_20k x4_20k r23 Q (fun x2_7 => lL_doors_7 z v1 Q (((zv (s_doorAtRank z v1) [(-13)]) = (-13 : Int32) → (((zv (s_doorAtRank z ((-1 : Int32))) [(-13)]) = (-13 : Int32) → (((zv (s_frameOfDoor z v1) [(-11)]) = (-11 : Int32) → (((zv (s_topic z v1) [(-11)]) = (-11 : Int32) → (((zv (s_examinersOf z v1) [(-11)]) = (-11 : Int32) → (((zv (s_gradesOf z ((-1 : Int32))) [(-11)]) = (-11 : Int32) → (((zv (s_result z v1) [(-11), (-13)]) = (-11 : Int32) → (((zv (s_passes z v1) [(-11)]) = (-11 : Int32) → (((zv (s_wasGranted z v1) [(-11)]) = (-11 : Int32) → (((zv (s_isEntitled z v1) [(-11)]) = (-11 : Int32) → (Q (1 : Int32))) ∧ (¬ (zv (s_isEntitled z v1) [(-11)]) = (-11 : Int32) → (Q (0 : Int32))))) ∧ (¬ (zv (s_wasGranted z v1) [(-11)]) = (-11 : Int32) → (Q (0 : Int32))))) ∧ (¬ (zv (s_passes z v1) [(-11)]) = (-11 : Int32) → (Q (0 : Int32))))) ∧ (¬ (zv (s_result z v1) [(-11), (-13)]) = (-11 : Int32) → (Q (0 : Int32))))) ∧ (¬ (zv (s_gradesOf z ((-1 : Int32))) [(-11)]) = (-11 : Int32) → (Q (0 : Int32))))) ∧ (¬ (zv (s_examinersOf z v1) [(-11)]) = (-11 : Int32) → (Q (0 : Int32))))) ∧ (¬ (zv (s_topic z v1) [(-11)]) = (-11 : Int32) → (Q (0 : Int32))))) ∧ (¬ (zv (s_frameOfDoor z v1) [(-11)]) = (-11 : Int32) → (Q (0 : Int32))))) ∧ (¬ (zv (s_doorAtRank z ((-1 : Int32))) [(-13)]) = (-13 : Int32) → (Q (0 : Int32))))) ∧ (¬ (zv (s_doorAtRank z v1) [(-13)]) = (-13 : Int32) → (Q (0 : Int32)))) n7 x2_7) (0 : Int32))) ∧ (¬ r23 < 0 → ((r23 < (nI (z.1 2)) → (jL_doors_91 z x2_7 x3_20k x4_20k r23 Q (fun x2_7 => lL_doors_7 z v1 Q (((zv (s_doorAtRank z v1) [(-13)]) = (-13 : Int32) → (((zv (s_doorAtRank z ((-1 : Int32))) [(-13)]) = (-13 : Int32) → (((zv (s_frameOfDoor z v1) [(-11)]) = (-11 : Int32) → (((zv (s_topic z v1) [(-11)]) = (-11 : Int32) → (((zv (s_examinersOf z v1) [(-11)]) = (-11 : Int32) → (((zv (s_gradesOf z ((-1 : Int32))) [(-11)]) = (-11 : Int32) → (((zv (s_result z v1) [(-11), (-13)]) = (-11 : Int32) → (((zv (s_passes z v1) [(-11)]) = (-11 : Int32) → (((zv (s_wasGranted z v1) [(-11)]) = (-11 : Int32) → (((zv (s_isEntitled z v1) [(-11)]) = (-11 : Int32) → (Q (1 : Int32))) ∧ (¬ (zv (s_isEntitled z v1) [(-11)]) = (-11 : Int32) → (Q (0 : Int32))))) ∧ (¬ (zv (s_wasGranted z v1) [(-11)]) = (-11 : Int32) → (Q (0 : Int32))))) ∧ (¬ (zv (s_passes z v1) [(-11)]) = (-11 : Int32) → (Q (0 : Int32))))) ∧ (¬ (zv (s_result z v1) [(-11), (-13)]) = (-11 : Int32) → (Q (0 : Int32))))) ∧ (¬ (zv (s_gradesOf z ((-1 : Int32))) [(-11)]) = (-11 : Int32) → (Q (0 : Int32))))) ∧ (¬ (zv (s_examinersOf z v1) [(-11)]) = (-11 : Int32) → (Q (0 : Int32))))) ∧ (¬ (zv (s_topic z v1) [(-11)]) = (-11 : Int32) → (Q (0 : Int32))))) ∧ (¬ (zv (s_frameOfDoor z v1) [(-11)]) = (-11 : Int32) → (Q (0 : Int32))))) ∧ (¬ (zv (s_doorAtRank z ((-1 : Int32))) [(-13)]) = (-13 : Int32) → (Q (0 : Int32))))) ∧ (¬ (zv (s_doorAtRank z v1) [(-13)]) = (-13 : Int32) → (Q (0 : Int32)))) n7 x2_7) (0 : Int32))) ∧ (¬ r23 < (nI (z.1 2)) → (jL_doors_91 z x2_7 x3_20k x4_20k r23 Q (fun x2_7 => lL_doors_7 z v1 Q (((zv (s_doorAtRank z v1) [(-13)]) = (-13 : Int32) → (((zv (s_doorAtRank z ((-1 : Int32))) [(-13)]) = (-13 : Int32) → (((zv (s_frameOfDoor z v1) [(-11)]) = (-11 : Int32) → (((zv (s_topic z v1) [(-11)]) = (-11 : Int32) → (((zv (s_examinersOf z v1) [(-11)]) = (-11 : Int32) → (((zv (s_gradesOf z ((-1 : Int32))) [(-11)]) = (-11 : Int32) → (((zv (s_result z v1) [(-11), (-13)]) = (-11 : Int32) → (((zv (s_passes z v1) [(-11)]) = (-11 : Int32) → (((zv (s_wasGranted z v1) [(-11)]) = (-11 : Int32) → (((zv (s_isEntitled z v1) [(-11)]) = (-11 : Int32) → (Q (1 : Int32))) ∧ (¬ (zv (s_isEntitled z v1) [(-11)]) = (-11 : Int32) → (Q (0 : Int32))))) ∧ (¬ (zv (s_wasGranted z v1) [(-11)]) = (-11 : Int32) → (Q (0 : Int32))))) ∧ (¬ (zv (s_passes z v1) [(-11)]) = (-11 : Int32) → (Q (0 : Int32))))) ∧ (¬ (zv (s_result z v1) [(-11), (-13)]) = (-11 : Int32) → (Q (0 : Int32))))) ∧ (¬ (zv (s_gradesOf z ((-1 : Int32))) [(-11)]) = (-11 : Int32) → (Q (0 : Int32))))) ∧ (¬ (zv (s_examinersOf z v1) [(-11)]) = (-11 : Int32) → (Q (0 : Int32))))) ∧ (¬ (zv (s_topic z v1) [(-11)]) = (-11 : Int32) → (Q (0 : Int32))))) ∧ (¬ (zv (s_frameOfDoor z v1) [(-11)]) = (-11 : Int32) → (Q (0 : Int32))))) ∧ (¬ (zv (s_doorAtRank z ((-1 : Int32))) [(-13)]) = (-13 : Int32) → (Q (0 : Int32))))) ∧ (¬ (zv (s_doorAtRank z v1) [(-13)]) = (-13 : Int32) → (Q (0 : Int32)))) n7 x2_7) (1 : Int32))))))) → cx20 ≤ CL20 → sx20 ≤ SL20 → zl_Wd g [] z s H locs → lv_has ls 11 [(0, .ref (sw_ad g 0)), (1, .int v1), (2, .int x2_7), (3, .int x3_20k), (4, .int x4_20k)] → W p l e R s m args below meth c H locs cx20 sx20 Q0 (F0 m 65 ls []) := by
          intro x3_20k x4_20k  H locs ls cx20 sx20 h hcx20 hsx20 hW hl
          have g19 : cx20 + 110 ≤ R.cells := zc8 (x := cn7) (D := 35) (s := 145) (s' := 110) hcx20 hCL20 g16 (Nat.le_of_ble_eq_true rfl)
          have g20 : cx20 + 99 ≤ Tcn7 := zc8 (x := cn7) (D := 35) (s := 134) (s' := 99) hcx20 hCL20 g14 (Nat.le_of_ble_eq_true rfl)
          have g21 : sx20 + 672 ≤ R.slots := zc8 (x := sn7) (D := 210) (s := 882) (s' := 672) hsx20 hSL20 g17 (Nat.le_of_ble_eq_true rfl)
          have g22 : sx20 + 606 ≤ Tsn7 := zc8 (x := sn7) (D := 210) (s := 816) (s' := 606) hsx20 hSL20 g15 (Nat.le_of_ble_eq_true rfl)
          refine lv_aload_n hx hb dL_doors_65 rfl (lv_at hl 0 rfl) ?_
          refine lv_iload_n hx hb dL_doors_66 rfl (lv_at hl 2 rfl) ?_
          refine zl_ki (g := g) (rest := []) (zl_runS (g := g) (As := [.ref (sw_ad g 0), .int x2_7]) (rest := []) hx hb hml hown hts (kL_median l hst (zl_re g H.size) x2_7 z _ h) cs_L_median q_523 rfl rfl ⟨by rw [hRf]; exact (Nat.le_of_ble_eq_true rfl), by rw [hRl]; exact (Nat.le_of_ble_eq_true rfl)⟩ hW rfl hl.1 rfl (Nat.le_of_ble_eq_true rfl) dL_doors_67 ⟨(zc1 (D := 22) g19 (Nat.le_of_ble_eq_true rfl)), (zc1 (D := 135) g21 (Nat.le_of_ble_eq_true rfl))⟩) hW (fun r23 z9 H locs h hW => ?_)
          obtain ⟨h, e9⟩ := h
          rw [e9] at hW
          refine lv_istore (lv' := [(5, .int r23), (0, .ref (sw_ad g 0)), (1, .int v1), (2, .int x2_7), (3, .int x3_20k), (4, .int x4_20k)]) hx hb dL_doors_70 hl (Nat.le_of_ble_eq_true rfl) rfl (fun ls hl => ?_)
          refine lv_iload hx hb dL_doors_72 (lv_at hl 0 rfl) ?_
          obtain ⟨CJ91, hCJ91⟩ : ∃ n : Nat, n = cx20 + 22 + 0 := ⟨_, rfl⟩
          obtain ⟨SJ91, hSJ91⟩ : ∃ n : Nat, n = sx20 + 135 + 0 := ⟨_, rfl⟩
          have hJ91 : ∀ (t0_91 : Int32) (H : Heap) (locs : List Loc) (ls : Array Slot) (cj91 sj91 : Nat), jL_doors_91 z x2_7 x3_20k x4_20k r23 Q (fun x2_7 => lL_doors_7 z v1 Q (((zv (s_doorAtRank z v1) [(-13)]) = (-13 : Int32) → (((zv (s_doorAtRank z ((-1 : Int32))) [(-13)]) = (-13 : Int32) → (((zv (s_frameOfDoor z v1) [(-11)]) = (-11 : Int32) → (((zv (s_topic z v1) [(-11)]) = (-11 : Int32) → (((zv (s_examinersOf z v1) [(-11)]) = (-11 : Int32) → (((zv (s_gradesOf z ((-1 : Int32))) [(-11)]) = (-11 : Int32) → (((zv (s_result z v1) [(-11), (-13)]) = (-11 : Int32) → (((zv (s_passes z v1) [(-11)]) = (-11 : Int32) → (((zv (s_wasGranted z v1) [(-11)]) = (-11 : Int32) → (((zv (s_isEntitled z v1) [(-11)]) = (-11 : Int32) → (Q (1 : Int32))) ∧ (¬ (zv (s_isEntitled z v1) [(-11)]) = (-11 : Int32) → (Q (0 : Int32))))) ∧ (¬ (zv (s_wasGranted z v1) [(-11)]) = (-11 : Int32) → (Q (0 : Int32))))) ∧ (¬ (zv (s_passes z v1) [(-11)]) = (-11 : Int32) → (Q (0 : Int32))))) ∧ (¬ (zv (s_result z v1) [(-11), (-13)]) = (-11 : Int32) → (Q (0 : Int32))))) ∧ (¬ (zv (s_gradesOf z ((-1 : Int32))) [(-11)]) = (-11 : Int32) → (Q (0 : Int32))))) ∧ (¬ (zv (s_examinersOf z v1) [(-11)]) = (-11 : Int32) → (Q (0 : Int32))))) ∧ (¬ (zv (s_topic z v1) [(-11)]) = (-11 : Int32) → (Q (0 : Int32))))) ∧ (¬ (zv (s_frameOfDoor z v1) [(-11)]) = (-11 : Int32) → (Q (0 : Int32))))) ∧ (¬ (zv (s_doorAtRank z ((-1 : Int32))) [(-13)]) = (-13 : Int32) → (Q (0 : Int32))))) ∧ (¬ (zv (s_doorAtRank z v1) [(-13)]) = (-13 : Int32) → (Q (0 : Int32)))) n7 x2_7) t0_91 → cj91 ≤ CJ91 → sj91 ≤ SJ91 → zl_Wd g [] z s H locs → lv_has ls 11 [(0, .ref (sw_ad g 0)), (1, .int v1), (2, .int x2_7), (3, .int x3_20k), (4, .int x4_20k), (5, .int r23)] → W p l e R s m args below meth c H locs cj91 sj91 Q0 (F0 m 91 ls [.int t0_91]) := by
            intro t0_91 H locs ls cj91 sj91 h hcj91 hsj91 hW hl
            unfold jL_doors_91 at h
            have g24 : cj91 + 88 ≤ R.cells := zc8 (x := cx20) (D := 22) (s := 110) (s' := 88) hcj91 hCJ91 g19 (Nat.le_of_ble_eq_true rfl)
            have g25 : cj91 + 77 ≤ Tcn7 := zc8 (x := cx20) (D := 22) (s := 99) (s' := 77) hcj91 hCJ91 g20 (Nat.le_of_ble_eq_true rfl)
            have g26 : sj91 + 537 ≤ R.slots := zc8 (x := sx20) (D := 135) (s := 672) (s' := 537) hsj91 hSJ91 g21 (Nat.le_of_ble_eq_true rfl)
            have g27 : sj91 + 471 ≤ Tsn7 := zc8 (x := sx20) (D := 135) (s := 606) (s' := 471) hsj91 hSJ91 g22 (Nat.le_of_ble_eq_true rfl)
            refine lv_istore (lv' := [(6, .int t0_91), (0, .ref (sw_ad g 0)), (1, .int v1), (2, .int x2_7), (3, .int x3_20k), (4, .int x4_20k), (5, .int r23)]) hx hb dL_doors_91 hl (Nat.le_of_ble_eq_true rfl) rfl (fun ls hl => ?_)
            refine lv_aload_n hx hb dL_doors_93 rfl (lv_at hl 1 rfl) ?_
            refine lv_iload_n hx hb dL_doors_94 rfl (lv_at hl 3 rfl) ?_
            refine zl_ki (g := g) (rest := []) (zl_runH (g := g) (As := [.ref (sw_ad g 0), .int x2_7]) (rest := []) hx hb hml hown hts (kL_examinersOf l hst (zl_re g H.size) z x2_7) ch_L_examinersOf q_530 rfl rfl ⟨by rw [hRf]; exact (Nat.le_of_ble_eq_true rfl), by rw [hRl]; exact (Nat.le_of_ble_eq_true rfl)⟩ hW rfl hl.1 rfl (Nat.le_of_ble_eq_true rfl) dL_doors_95 ⟨(zc1 (D := 1) g24 (Nat.le_of_ble_eq_true rfl)), (zc1 (D := 6) g26 (Nat.le_of_ble_eq_true rfl))⟩) hW (fun r9 z9 H locs h9 hW => ?_)
            obtain ⟨rfl, e9⟩ := h9
            rw [e9, s_examinersOf_z] at hW
            refine lv_iload_n hx hb dL_doors_98 rfl (lv_at hl 4 rfl) ?_
            obtain ⟨CJ156, hCJ156⟩ : ∃ n : Nat, n = cj91 + 1 + 4 := ⟨_, rfl⟩
            obtain ⟨SJ156, hSJ156⟩ : ∃ n : Nat, n = sj91 + 6 + 24 := ⟨_, rfl⟩
            have hJ156 : ∀ (t0_156 : Int32) (H : Heap) (locs : List Loc) (ls : Array Slot) (cj156 sj156 : Nat), jL_doors_156 z x2_7 t0_91 Q (fun x2_7 => lL_doors_7 z v1 Q (((zv (s_doorAtRank z v1) [(-13)]) = (-13 : Int32) → (((zv (s_doorAtRank z ((-1 : Int32))) [(-13)]) = (-13 : Int32) → (((zv (s_frameOfDoor z v1) [(-11)]) = (-11 : Int32) → (((zv (s_topic z v1) [(-11)]) = (-11 : Int32) → (((zv (s_examinersOf z v1) [(-11)]) = (-11 : Int32) → (((zv (s_gradesOf z ((-1 : Int32))) [(-11)]) = (-11 : Int32) → (((zv (s_result z v1) [(-11), (-13)]) = (-11 : Int32) → (((zv (s_passes z v1) [(-11)]) = (-11 : Int32) → (((zv (s_wasGranted z v1) [(-11)]) = (-11 : Int32) → (((zv (s_isEntitled z v1) [(-11)]) = (-11 : Int32) → (Q (1 : Int32))) ∧ (¬ (zv (s_isEntitled z v1) [(-11)]) = (-11 : Int32) → (Q (0 : Int32))))) ∧ (¬ (zv (s_wasGranted z v1) [(-11)]) = (-11 : Int32) → (Q (0 : Int32))))) ∧ (¬ (zv (s_passes z v1) [(-11)]) = (-11 : Int32) → (Q (0 : Int32))))) ∧ (¬ (zv (s_result z v1) [(-11), (-13)]) = (-11 : Int32) → (Q (0 : Int32))))) ∧ (¬ (zv (s_gradesOf z ((-1 : Int32))) [(-11)]) = (-11 : Int32) → (Q (0 : Int32))))) ∧ (¬ (zv (s_examinersOf z v1) [(-11)]) = (-11 : Int32) → (Q (0 : Int32))))) ∧ (¬ (zv (s_topic z v1) [(-11)]) = (-11 : Int32) → (Q (0 : Int32))))) ∧ (¬ (zv (s_frameOfDoor z v1) [(-11)]) = (-11 : Int32) → (Q (0 : Int32))))) ∧ (¬ (zv (s_doorAtRank z ((-1 : Int32))) [(-13)]) = (-13 : Int32) → (Q (0 : Int32))))) ∧ (¬ (zv (s_doorAtRank z v1) [(-13)]) = (-13 : Int32) → (Q (0 : Int32)))) n7 x2_7) t0_156 → cj156 ≤ CJ156 → sj156 ≤ SJ156 → zl_Wd g [] z s H locs → lv_has ls 11 [(0, .ref (sw_ad g 0)), (1, .int v1), (2, .int x2_7), (6, .int t0_91)] → W p l e R s m args below meth c H locs cj156 sj156 Q0 (F0 m 156 ls [.int t0_156]) := by
              intro t0_156 H locs ls cj156 sj156 h hcj156 hsj156 hW hl
              unfold jL_doors_156 at h
              have g28 : cj156 + 83 ≤ R.cells := zc8 (x := cj91) (D := 5) (s := 88) (s' := 83) hcj156 hCJ156 g24 (Nat.le_of_ble_eq_true rfl)
              have g29 : cj156 + 72 ≤ Tcn7 := zc8 (x := cj91) (D := 5) (s := 77) (s' := 72) hcj156 hCJ156 g25 (Nat.le_of_ble_eq_true rfl)
              have g30 : sj156 + 507 ≤ R.slots := zc8 (x := sj91) (D := 30) (s := 537) (s' := 507) hsj156 hSJ156 g26 (Nat.le_of_ble_eq_true rfl)
              have g31 : sj156 + 441 ≤ Tsn7 := zc8 (x := sj91) (D := 30) (s := 471) (s' := 441) hsj156 hSJ156 g27 (Nat.le_of_ble_eq_true rfl)
              refine lv_istore (lv' := [(7, .int t0_156), (0, .ref (sw_ad g 0)), (1, .int v1), (2, .int x2_7), (6, .int t0_91)]) hx hb dL_doors_156 hl (Nat.le_of_ble_eq_true rfl) rfl (fun ls hl => ?_)
              refine lv_iload hx hb dL_doors_158 (lv_at hl 0 rfl) ?_
              obtain ⟨CJ194, hCJ194⟩ : ∃ n : Nat, n = cj156 + 2 := ⟨_, rfl⟩
              obtain ⟨SJ194, hSJ194⟩ : ∃ n : Nat, n = sj156 + 12 := ⟨_, rfl⟩
              have hJ194 : ∀ (t0_194 : Int32) (H : Heap) (locs : List Loc) (ls : Array Slot) (cj194 sj194 : Nat), jL_doors_194 z x2_7 Q (fun x2_7 => lL_doors_7 z v1 Q (((zv (s_doorAtRank z v1) [(-13)]) = (-13 : Int32) → (((zv (s_doorAtRank z ((-1 : Int32))) [(-13)]) = (-13 : Int32) → (((zv (s_frameOfDoor z v1) [(-11)]) = (-11 : Int32) → (((zv (s_topic z v1) [(-11)]) = (-11 : Int32) → (((zv (s_examinersOf z v1) [(-11)]) = (-11 : Int32) → (((zv (s_gradesOf z ((-1 : Int32))) [(-11)]) = (-11 : Int32) → (((zv (s_result z v1) [(-11), (-13)]) = (-11 : Int32) → (((zv (s_passes z v1) [(-11)]) = (-11 : Int32) → (((zv (s_wasGranted z v1) [(-11)]) = (-11 : Int32) → (((zv (s_isEntitled z v1) [(-11)]) = (-11 : Int32) → (Q (1 : Int32))) ∧ (¬ (zv (s_isEntitled z v1) [(-11)]) = (-11 : Int32) → (Q (0 : Int32))))) ∧ (¬ (zv (s_wasGranted z v1) [(-11)]) = (-11 : Int32) → (Q (0 : Int32))))) ∧ (¬ (zv (s_passes z v1) [(-11)]) = (-11 : Int32) → (Q (0 : Int32))))) ∧ (¬ (zv (s_result z v1) [(-11), (-13)]) = (-11 : Int32) → (Q (0 : Int32))))) ∧ (¬ (zv (s_gradesOf z ((-1 : Int32))) [(-11)]) = (-11 : Int32) → (Q (0 : Int32))))) ∧ (¬ (zv (s_examinersOf z v1) [(-11)]) = (-11 : Int32) → (Q (0 : Int32))))) ∧ (¬ (zv (s_topic z v1) [(-11)]) = (-11 : Int32) → (Q (0 : Int32))))) ∧ (¬ (zv (s_frameOfDoor z v1) [(-11)]) = (-11 : Int32) → (Q (0 : Int32))))) ∧ (¬ (zv (s_doorAtRank z ((-1 : Int32))) [(-13)]) = (-13 : Int32) → (Q (0 : Int32))))) ∧ (¬ (zv (s_doorAtRank z v1) [(-13)]) = (-13 : Int32) → (Q (0 : Int32)))) n7 x2_7) t0_194 → cj194 ≤ CJ194 → sj194 ≤ SJ194 → zl_Wd g [] z s H locs → lv_has ls 11 [(0, .ref (sw_ad g 0)), (1, .int v1), (2, .int x2_7)] → W p l e R s m args below meth c H locs cj194 sj194 Q0 (F0 m 194 ls [.int t0_194]) := by
                intro t0_194 H locs ls cj194 sj194 h hcj194 hsj194 hW hl
                unfold jL_doors_194 at h
                have g32 : cj194 + 81 ≤ R.cells := zc8 (x := cj156) (D := 2) (s := 83) (s' := 81) hcj194 hCJ194 g28 (Nat.le_of_ble_eq_true rfl)
                have g33 : cj194 + 70 ≤ Tcn7 := zc8 (x := cj156) (D := 2) (s := 72) (s' := 70) hcj194 hCJ194 g29 (Nat.le_of_ble_eq_true rfl)
                have g34 : sj194 + 495 ≤ R.slots := zc8 (x := sj156) (D := 12) (s := 507) (s' := 495) hsj194 hSJ194 g30 (Nat.le_of_ble_eq_true rfl)
                have g35 : sj194 + 429 ≤ Tsn7 := zc8 (x := sj156) (D := 12) (s := 441) (s' := 429) hsj194 hSJ194 g31 (Nat.le_of_ble_eq_true rfl)
                refine lv_istore (lv' := [(7, .int t0_194), (0, .ref (sw_ad g 0)), (1, .int v1), (2, .int x2_7)]) hx hb dL_doors_194 hl (Nat.le_of_ble_eq_true rfl) rfl (fun ls hl => ?_)
                refine lv_aload_n hx hb dL_doors_196 rfl (lv_at hl 1 rfl) ?_
                refine lv_iload_n hx hb dL_doors_197 rfl (lv_at hl 3 rfl) ?_
                refine zl_ki (g := g) (rest := []) (zl_runH (g := g) (As := [.ref (sw_ad g 0), .int x2_7]) (rest := []) hx hb hml hown hts (kL_doorAtRank l hst (zl_re g H.size) z x2_7) ch_L_doorAtRank q_570 rfl rfl ⟨by rw [hRf]; exact (Nat.le_of_ble_eq_true rfl), by rw [hRl]; exact (Nat.le_of_ble_eq_true rfl)⟩ hW rfl hl.1 rfl (Nat.le_of_ble_eq_true rfl) dL_doors_198 ⟨(zc1 (D := 1) g32 (Nat.le_of_ble_eq_true rfl)), (zc1 (D := 6) g34 (Nat.le_of_ble_eq_true rfl))⟩) hW (fun r9 z9 H locs h9 hW => ?_)
                obtain ⟨rfl, e9⟩ := h9
                rw [e9, s_doorAtRank_z] at hW
                refine lv_topi (fun v36 ev36 => ?_)
                replace h := h v36 ev36
                refine lv_istore (lv' := [(8, .int v36), (7, .int t0_194), (0, .ref (sw_ad g 0)), (1, .int v1), (2, .int x2_7)]) hx hb dL_doors_201 hl (Nat.le_of_ble_eq_true rfl) rfl (fun ls hl => ?_)
                refine lv_iload_n hx hb dL_doors_203 rfl (lv_at hl 4 rfl) ?_
                obtain ⟨CJ218, hCJ218⟩ : ∃ n : Nat, n = cj194 + 1 + 1 := ⟨_, rfl⟩
                obtain ⟨SJ218, hSJ218⟩ : ∃ n : Nat, n = sj194 + 6 + 6 := ⟨_, rfl⟩
                have hJ218 : ∀ (t0_218 : Int32) (H : Heap) (locs : List Loc) (ls : Array Slot) (cj218 sj218 : Nat), jL_doors_218 z x2_7 t0_194 v36 Q (fun x2_7 => lL_doors_7 z v1 Q (((zv (s_doorAtRank z v1) [(-13)]) = (-13 : Int32) → (((zv (s_doorAtRank z ((-1 : Int32))) [(-13)]) = (-13 : Int32) → (((zv (s_frameOfDoor z v1) [(-11)]) = (-11 : Int32) → (((zv (s_topic z v1) [(-11)]) = (-11 : Int32) → (((zv (s_examinersOf z v1) [(-11)]) = (-11 : Int32) → (((zv (s_gradesOf z ((-1 : Int32))) [(-11)]) = (-11 : Int32) → (((zv (s_result z v1) [(-11), (-13)]) = (-11 : Int32) → (((zv (s_passes z v1) [(-11)]) = (-11 : Int32) → (((zv (s_wasGranted z v1) [(-11)]) = (-11 : Int32) → (((zv (s_isEntitled z v1) [(-11)]) = (-11 : Int32) → (Q (1 : Int32))) ∧ (¬ (zv (s_isEntitled z v1) [(-11)]) = (-11 : Int32) → (Q (0 : Int32))))) ∧ (¬ (zv (s_wasGranted z v1) [(-11)]) = (-11 : Int32) → (Q (0 : Int32))))) ∧ (¬ (zv (s_passes z v1) [(-11)]) = (-11 : Int32) → (Q (0 : Int32))))) ∧ (¬ (zv (s_result z v1) [(-11), (-13)]) = (-11 : Int32) → (Q (0 : Int32))))) ∧ (¬ (zv (s_gradesOf z ((-1 : Int32))) [(-11)]) = (-11 : Int32) → (Q (0 : Int32))))) ∧ (¬ (zv (s_examinersOf z v1) [(-11)]) = (-11 : Int32) → (Q (0 : Int32))))) ∧ (¬ (zv (s_topic z v1) [(-11)]) = (-11 : Int32) → (Q (0 : Int32))))) ∧ (¬ (zv (s_frameOfDoor z v1) [(-11)]) = (-11 : Int32) → (Q (0 : Int32))))) ∧ (¬ (zv (s_doorAtRank z ((-1 : Int32))) [(-13)]) = (-13 : Int32) → (Q (0 : Int32))))) ∧ (¬ (zv (s_doorAtRank z v1) [(-13)]) = (-13 : Int32) → (Q (0 : Int32)))) n7 x2_7) t0_218 → cj218 ≤ CJ218 → sj218 ≤ SJ218 → zl_Wd g [] z s H locs → lv_has ls 11 [(0, .ref (sw_ad g 0)), (1, .int v1), (2, .int x2_7), (7, .int t0_194), (8, .int v36)] → W p l e R s m args below meth c H locs cj218 sj218 Q0 (F0 m 218 ls [.int t0_218]) := by
                  intro t0_218 H locs ls cj218 sj218 h hcj218 hsj218 hW hl
                  unfold jL_doors_218 at h
                  have g37 : cj218 + 79 ≤ R.cells := zc8 (x := cj194) (D := 2) (s := 81) (s' := 79) hcj218 hCJ218 g32 (Nat.le_of_ble_eq_true rfl)
                  have g38 : cj218 + 68 ≤ Tcn7 := zc8 (x := cj194) (D := 2) (s := 70) (s' := 68) hcj218 hCJ218 g33 (Nat.le_of_ble_eq_true rfl)
                  have g39 : sj218 + 483 ≤ R.slots := zc8 (x := sj194) (D := 12) (s := 495) (s' := 483) hsj218 hSJ218 g34 (Nat.le_of_ble_eq_true rfl)
                  have g40 : sj218 + 417 ≤ Tsn7 := zc8 (x := sj194) (D := 12) (s := 429) (s' := 417) hsj218 hSJ218 g35 (Nat.le_of_ble_eq_true rfl)
                  refine lv_istore (lv' := [(9, .int t0_218), (0, .ref (sw_ad g 0)), (1, .int v1), (2, .int x2_7), (7, .int t0_194), (8, .int v36)]) hx hb dL_doors_218 hl (Nat.le_of_ble_eq_true rfl) rfl (fun ls hl => ?_)
                  refine lv_iload_n hx hb dL_doors_220 rfl (lv_at hl 3 rfl) ?_
                  obtain ⟨CJ241, hCJ241⟩ : ∃ n : Nat, n = cj218 + 44 := ⟨_, rfl⟩
                  obtain ⟨SJ241, hSJ241⟩ : ∃ n : Nat, n = sj218 + 270 := ⟨_, rfl⟩
                  have hJ241 : ∀ (t0_241 : Int32) (H : Heap) (locs : List Loc) (ls : Array Slot) (cj241 sj241 : Nat), jL_doors_241 z x2_7 t0_194 v36 t0_218 Q (fun x2_7 => lL_doors_7 z v1 Q (((zv (s_doorAtRank z v1) [(-13)]) = (-13 : Int32) → (((zv (s_doorAtRank z ((-1 : Int32))) [(-13)]) = (-13 : Int32) → (((zv (s_frameOfDoor z v1) [(-11)]) = (-11 : Int32) → (((zv (s_topic z v1) [(-11)]) = (-11 : Int32) → (((zv (s_examinersOf z v1) [(-11)]) = (-11 : Int32) → (((zv (s_gradesOf z ((-1 : Int32))) [(-11)]) = (-11 : Int32) → (((zv (s_result z v1) [(-11), (-13)]) = (-11 : Int32) → (((zv (s_passes z v1) [(-11)]) = (-11 : Int32) → (((zv (s_wasGranted z v1) [(-11)]) = (-11 : Int32) → (((zv (s_isEntitled z v1) [(-11)]) = (-11 : Int32) → (Q (1 : Int32))) ∧ (¬ (zv (s_isEntitled z v1) [(-11)]) = (-11 : Int32) → (Q (0 : Int32))))) ∧ (¬ (zv (s_wasGranted z v1) [(-11)]) = (-11 : Int32) → (Q (0 : Int32))))) ∧ (¬ (zv (s_passes z v1) [(-11)]) = (-11 : Int32) → (Q (0 : Int32))))) ∧ (¬ (zv (s_result z v1) [(-11), (-13)]) = (-11 : Int32) → (Q (0 : Int32))))) ∧ (¬ (zv (s_gradesOf z ((-1 : Int32))) [(-11)]) = (-11 : Int32) → (Q (0 : Int32))))) ∧ (¬ (zv (s_examinersOf z v1) [(-11)]) = (-11 : Int32) → (Q (0 : Int32))))) ∧ (¬ (zv (s_topic z v1) [(-11)]) = (-11 : Int32) → (Q (0 : Int32))))) ∧ (¬ (zv (s_frameOfDoor z v1) [(-11)]) = (-11 : Int32) → (Q (0 : Int32))))) ∧ (¬ (zv (s_doorAtRank z ((-1 : Int32))) [(-13)]) = (-13 : Int32) → (Q (0 : Int32))))) ∧ (¬ (zv (s_doorAtRank z v1) [(-13)]) = (-13 : Int32) → (Q (0 : Int32)))) n7 x2_7) t0_241 → cj241 ≤ CJ241 → sj241 ≤ SJ241 → zl_Wd g [] z s H locs → lv_has ls 11 [(0, .ref (sw_ad g 0)), (1, .int v1), (2, .int x2_7), (7, .int t0_194), (8, .int v36), (9, .int t0_218)] → W p l e R s m args below meth c H locs cj241 sj241 Q0 (F0 m 241 ls [.int t0_241]) := by
                    intro t0_241 H locs ls cj241 sj241 h hcj241 hsj241 hW hl
                    unfold jL_doors_241 at h
                    have g41 : cj241 + 35 ≤ R.cells := zc8 (x := cj218) (D := 44) (s := 79) (s' := 35) hcj241 hCJ241 g37 (Nat.le_of_ble_eq_true rfl)
                    have g42 : cj241 + 24 ≤ Tcn7 := zc8 (x := cj218) (D := 44) (s := 68) (s' := 24) hcj241 hCJ241 g38 (Nat.le_of_ble_eq_true rfl)
                    have g43 : sj241 + 213 ≤ R.slots := zc8 (x := sj218) (D := 270) (s := 483) (s' := 213) hsj241 hSJ241 g39 (Nat.le_of_ble_eq_true rfl)
                    have g44 : sj241 + 147 ≤ Tsn7 := zc8 (x := sj218) (D := 270) (s := 417) (s' := 147) hsj241 hSJ241 g40 (Nat.le_of_ble_eq_true rfl)
                    refine lv_istore (lv' := [(10, .int t0_241), (0, .ref (sw_ad g 0)), (1, .int v1), (2, .int x2_7), (7, .int t0_194), (8, .int v36), (9, .int t0_218)]) hx hb dL_doors_241 hl (Nat.le_of_ble_eq_true rfl) rfl (fun ls hl => ?_)
                    refine lv_iload hx hb dL_doors_243 (lv_at hl 0 rfl) ?_
                    obtain ⟨CJ275, hCJ275⟩ : ∃ n : Nat, n = cj241 + 24 := ⟨_, rfl⟩
                    obtain ⟨SJ275, hSJ275⟩ : ∃ n : Nat, n = sj241 + 147 := ⟨_, rfl⟩
                    have hJ275 : ∀ (t0_275 : Int32) (H : Heap) (locs : List Loc) (ls : Array Slot) (cj275 sj275 : Nat), jL_doors_275 x2_7 t0_194 v36 t0_218 Q (fun x2_7 => lL_doors_7 z v1 Q (((zv (s_doorAtRank z v1) [(-13)]) = (-13 : Int32) → (((zv (s_doorAtRank z ((-1 : Int32))) [(-13)]) = (-13 : Int32) → (((zv (s_frameOfDoor z v1) [(-11)]) = (-11 : Int32) → (((zv (s_topic z v1) [(-11)]) = (-11 : Int32) → (((zv (s_examinersOf z v1) [(-11)]) = (-11 : Int32) → (((zv (s_gradesOf z ((-1 : Int32))) [(-11)]) = (-11 : Int32) → (((zv (s_result z v1) [(-11), (-13)]) = (-11 : Int32) → (((zv (s_passes z v1) [(-11)]) = (-11 : Int32) → (((zv (s_wasGranted z v1) [(-11)]) = (-11 : Int32) → (((zv (s_isEntitled z v1) [(-11)]) = (-11 : Int32) → (Q (1 : Int32))) ∧ (¬ (zv (s_isEntitled z v1) [(-11)]) = (-11 : Int32) → (Q (0 : Int32))))) ∧ (¬ (zv (s_wasGranted z v1) [(-11)]) = (-11 : Int32) → (Q (0 : Int32))))) ∧ (¬ (zv (s_passes z v1) [(-11)]) = (-11 : Int32) → (Q (0 : Int32))))) ∧ (¬ (zv (s_result z v1) [(-11), (-13)]) = (-11 : Int32) → (Q (0 : Int32))))) ∧ (¬ (zv (s_gradesOf z ((-1 : Int32))) [(-11)]) = (-11 : Int32) → (Q (0 : Int32))))) ∧ (¬ (zv (s_examinersOf z v1) [(-11)]) = (-11 : Int32) → (Q (0 : Int32))))) ∧ (¬ (zv (s_topic z v1) [(-11)]) = (-11 : Int32) → (Q (0 : Int32))))) ∧ (¬ (zv (s_frameOfDoor z v1) [(-11)]) = (-11 : Int32) → (Q (0 : Int32))))) ∧ (¬ (zv (s_doorAtRank z ((-1 : Int32))) [(-13)]) = (-13 : Int32) → (Q (0 : Int32))))) ∧ (¬ (zv (s_doorAtRank z v1) [(-13)]) = (-13 : Int32) → (Q (0 : Int32)))) n7 x2_7) t0_275 → cj275 ≤ CJ275 → sj275 ≤ SJ275 → zl_Wd g [] z s H locs → lv_has ls 11 [(0, .ref (sw_ad g 0)), (1, .int v1), (2, .int x2_7), (7, .int t0_194), (8, .int v36), (9, .int t0_218)] → W p l e R s m args below meth c H locs cj275 sj275 Q0 (F0 m 275 ls [.int t0_275]) := by
                      intro t0_275 H locs ls cj275 sj275 h hcj275 hsj275 hW hl
                      unfold jL_doors_275 at h
                      have g45 : cj275 + 11 ≤ R.cells := zc8 (x := cj241) (D := 24) (s := 35) (s' := 11) hcj275 hCJ275 g41 (Nat.le_of_ble_eq_true rfl)
                      have g46 : cj275 + 0 ≤ Tcn7 := zc8 (x := cj241) (D := 24) (s := 24) (s' := 0) hcj275 hCJ275 g42 (Nat.le_of_ble_eq_true rfl)
                      have g47 : sj275 + 66 ≤ R.slots := zc8 (x := sj241) (D := 147) (s := 213) (s' := 66) hsj275 hSJ275 g43 (Nat.le_of_ble_eq_true rfl)
                      have g48 : sj275 + 0 ≤ Tsn7 := zc8 (x := sj241) (D := 147) (s := 147) (s' := 0) hsj275 hSJ275 g44 (Nat.le_of_ble_eq_true rfl)
                      refine lv_istore (lv' := [(10, .int t0_275), (0, .ref (sw_ad g 0)), (1, .int v1), (2, .int x2_7), (7, .int t0_194), (8, .int v36), (9, .int t0_218)]) hx hb dL_doors_275 hl (Nat.le_of_ble_eq_true rfl) rfl (fun ls hl => ?_)
                      refine lv_iload hx hb dL_doors_277 (lv_at hl 4 rfl) ?_
                      refine lv_if_eq (tgt := 304) hx hb dL_doors_279 (by decide) (fun k49 => ?_) (fun k49 => ?_)
                      · replace h := h.1 k49
                        refine lv_iconst (v := 0) hx hb dL_doors_304 (by decide) ?_
                        subst hQ0
                        refine W.widen (k := 1217) (n := 7410) (Nat.le_trans (zc1 (D := 0) g45 (Nat.le_of_ble_eq_true rfl)) (Nat.le_of_eq hRc)) (Nat.le_trans (zc1 (D := 0) g47 (Nat.le_of_ble_eq_true rfl)) (Nat.le_of_eq hRs)) ?_
                        exact zl_ri hx hb hr hlocks hW (by decide) ⟨h, rfl⟩ dL_doors_305
                      · replace h := h.2 k49
                        refine lv_iload hx hb dL_doors_282 (lv_at hl 5 rfl) ?_
                        refine lv_if_lt (tgt := 304) hx hb dL_doors_284 (by decide) (fun k50 => ?_) (fun k50 => ?_)
                        · replace h := h.1 k50
                          refine lv_iconst (v := 0) hx hb dL_doors_304 (by decide) ?_
                          subst hQ0
                          refine W.widen (k := 1217) (n := 7410) (Nat.le_trans (zc1 (D := 0) g45 (Nat.le_of_ble_eq_true rfl)) (Nat.le_of_eq hRc)) (Nat.le_trans (zc1 (D := 0) g47 (Nat.le_of_ble_eq_true rfl)) (Nat.le_of_eq hRs)) ?_
                          exact zl_ri hx hb hr hlocks hW (by decide) ⟨h, rfl⟩ dL_doors_305
                        · replace h := h.2 k50
                          refine lv_iload hx hb dL_doors_287 (lv_at hl 0 rfl) ?_
                          refine lv_if_lt (tgt := 304) hx hb dL_doors_289 (by decide) (fun k51 => ?_) (fun k51 => ?_)
                          · replace h := h.1 k51
                            refine lv_iconst (v := 0) hx hb dL_doors_304 (by decide) ?_
                            subst hQ0
                            refine W.widen (k := 1217) (n := 7410) (Nat.le_trans (zc1 (D := 0) g45 (Nat.le_of_ble_eq_true rfl)) (Nat.le_of_eq hRc)) (Nat.le_trans (zc1 (D := 0) g47 (Nat.le_of_ble_eq_true rfl)) (Nat.le_of_eq hRs)) ?_
                            exact zl_ri hx hb hr hlocks hW (by decide) ⟨h, rfl⟩ dL_doors_305
                          · replace h := h.2 k51
                            refine lv_iload hx hb dL_doors_292 (lv_at hl 0 rfl) ?_
                            refine lv_if_ne (tgt := 306) hx hb dL_doors_294 (by decide) (fun k52 => ?_) (fun k52 => ?_)
                            · replace h := h.2 k52
                              obtain ⟨v53, ev53⟩ : ∃ z : Int32, z = x2_7 + (1 : Int32) := ⟨_, rfl⟩
                              replace h := h v53 ev53
                              refine lv_iinc (v := v53) (lv' := [(2, .int v53), (10, .int t0_275), (0, .ref (sw_ad g 0)), (1, .int v1), (7, .int t0_194), (8, .int v36), (9, .int t0_218)]) hx hb dL_doors_306 hl (k := 3) rfl (by rw [ev53]; rfl) (Nat.le_of_ble_eq_true rfl) rfl (fun ls hl => ?_)
                              refine lv_goto (tgt := 7) hx hb dL_doors_309 (by decide) ?_
                              exact ih7 v53 _ _ _ _ _ h (zc10 (zc1 (D := 0) g46 (Nat.le_of_ble_eq_true rfl)) hTcn7 hcn7) (zc10 (zc1 (D := 0) g48 (Nat.le_of_ble_eq_true rfl)) hTsn7 hsn7) hW (lv_sub hl [2, 3, 0] rfl)
                            · replace h := h.1 k52
                              refine lv_iload hx hb dL_doors_297 (lv_at hl 6 rfl) ?_
                              refine lv_iload hx hb dL_doors_299 (lv_at hl 5 rfl) ?_
                              refine lv_icmp_le (tgt := 306) hx hb dL_doors_301 (by decide) (fun k54 => ?_) (fun k54 => ?_)
                              · replace h := h.1 k54
                                obtain ⟨v55, ev55⟩ : ∃ z : Int32, z = x2_7 + (1 : Int32) := ⟨_, rfl⟩
                                replace h := h v55 ev55
                                refine lv_iinc (v := v55) (lv' := [(2, .int v55), (10, .int t0_275), (0, .ref (sw_ad g 0)), (1, .int v1), (7, .int t0_194), (8, .int v36), (9, .int t0_218)]) hx hb dL_doors_306 hl (k := 3) rfl (by rw [ev55]; rfl) (Nat.le_of_ble_eq_true rfl) rfl (fun ls hl => ?_)
                                refine lv_goto (tgt := 7) hx hb dL_doors_309 (by decide) ?_
                                exact ih7 v55 _ _ _ _ _ h (zc10 (zc1 (D := 0) g46 (Nat.le_of_ble_eq_true rfl)) hTcn7 hcn7) (zc10 (zc1 (D := 0) g48 (Nat.le_of_ble_eq_true rfl)) hTsn7 hsn7) hW (lv_sub hl [2, 3, 0] rfl)
                              · replace h := h.2 k54
                                refine lv_iconst (v := 0) hx hb dL_doors_304 (by decide) ?_
                                subst hQ0
                                refine W.widen (k := 1217) (n := 7410) (Nat.le_trans (zc1 (D := 0) g45 (Nat.le_of_ble_eq_true rfl)) (Nat.le_of_eq hRc)) (Nat.le_trans (zc1 (D := 0) g47 (Nat.le_of_ble_eq_true rfl)) (Nat.le_of_eq hRs)) ?_
                                exact zl_ri hx hb hr hlocks hW (by decide) ⟨h, rfl⟩ dL_doors_305
                    have g56 : cj241 + 24 ≤ CJ275 := Nat.le_of_eq hCJ275.symm
                    have g57 : sj241 + 147 ≤ SJ275 := Nat.le_of_eq hSJ275.symm
                    refine lv_if_ne (tgt := 257) hx hb dL_doors_245 (by decide) (fun k58 => ?_) (fun k58 => ?_)
                    · replace h := h.2 k58
                      refine lv_iload hx hb dL_doors_257 (lv_at hl 0 rfl) ?_
                      refine lv_goto (tgt := 275) hx hb dL_doors_259 (by decide) ?_
                      exact hJ275 t0_241 _ _ _ _ _ h (zc1 (D := 0) g56 (Nat.le_of_ble_eq_true rfl)) (zc1 (D := 0) g57 (Nat.le_of_ble_eq_true rfl)) hW (lv_sub hl [1, 2, 3, 4, 5, 6] rfl)
                    · replace h := h.1 k58
                      refine lv_aload_n hx hb dL_doors_248 rfl (lv_at hl 1 rfl) ?_
                      refine lv_iload hx hb dL_doors_249 (lv_at hl 5 rfl) ?_
                      refine zl_ki (g := g) (rest := []) (zl_runS (g := g) (As := [.ref (sw_ad g 0), .int v36]) (rest := []) hx hb hml hown hts (kL_median l hst (zl_re g H.size) v36 z _ h) cs_L_median q_523 rfl rfl ⟨by rw [hRf]; exact (Nat.le_of_ble_eq_true rfl), by rw [hRl]; exact (Nat.le_of_ble_eq_true rfl)⟩ hW rfl hl.1 rfl (Nat.le_of_ble_eq_true rfl) dL_doors_251 ⟨(zc1 (D := 22) g41 (Nat.le_of_ble_eq_true rfl)), (zc1 (D := 135) g43 (Nat.le_of_ble_eq_true rfl))⟩) hW (fun r59 z9 H locs h hW => ?_)
                      obtain ⟨h, e9⟩ := h
                      rw [e9] at hW
                      refine lv_if_ge (tgt := 262) hx hb dL_doors_254 (by decide) (fun k60 => ?_) (fun k60 => ?_)
                      · replace h := h.1 k60
                        refine lv_aload_n hx hb dL_doors_262 rfl (lv_at hl 1 rfl) ?_
                        refine lv_iload hx hb dL_doors_263 (lv_at hl 6 rfl) ?_
                        have y61 := h.1
                        replace h := h.2
                        refine zl_ki (g := g) (rest := []) (zl_runV (g := g) (As := [.int t0_218]) (rest := []) hx hb hml hown hts (zD_gradesOf l hst (zl_re g H.size) z t0_218 y61) cv_X6_gradesOf q_539 rfl rfl ⟨by rw [hRf]; exact (Nat.le_of_ble_eq_true rfl), by rw [hRl]; exact (Nat.le_of_ble_eq_true rfl)⟩ hW (Or.inl (Nat.le_of_ble_eq_true rfl)) sl_0 rfl rfl hl.1 rfl (Nat.le_of_ble_eq_true rfl) dL_doors_265 ⟨(zc1 (D := 23) g41 (Nat.le_of_ble_eq_true rfl)), (zc1 (D := 141) g43 (Nat.le_of_ble_eq_true rfl))⟩) hW (fun r9 z9 H locs h9 hW => ?_)
                        clear y61
                        obtain ⟨rfl, e9⟩ := h9
                        rw [e9, s_gradesOf_z] at hW
                        refine lv_aload_n hx hb dL_doors_268 rfl (lv_at hl 1 rfl) ?_
                        refine lv_iload hx hb dL_doors_269 (lv_at hl 5 rfl) ?_
                        have y62 := h.1
                        replace h := h.2
                        refine zl_ki (g := g) (rest := [.int (nI (s_gradesOf z t0_218).2.1)]) (zl_runV (g := g) (As := [.int v36]) (rest := [.int (nI (s_gradesOf z t0_218).2.1)]) hx hb hml hown hts (zD_gradesOf l hst (zl_re g H.size) z v36 y62) cv_X6_gradesOf q_539 rfl rfl ⟨by rw [hRf]; exact (Nat.le_of_ble_eq_true rfl), by rw [hRl]; exact (Nat.le_of_ble_eq_true rfl)⟩ hW (Or.inl (Nat.le_of_ble_eq_true rfl)) sl_0 rfl rfl hl.1 rfl (Nat.le_of_ble_eq_true rfl) dL_doors_271 ⟨(zc1 (D := 24) g41 (Nat.le_of_ble_eq_true rfl)), (zc1 (D := 147) g43 (Nat.le_of_ble_eq_true rfl))⟩) hW (fun r9 z9 H locs h9 hW => ?_)
                        clear y62
                        obtain ⟨rfl, e9⟩ := h9
                        rw [e9, s_gradesOf_z] at hW
                        refine lv_isub hx hb dL_doors_274 ?_
                        exact hJ275 ((nI (s_gradesOf z t0_218).2.1) - (nI (s_gradesOf z v36).2.1)) _ _ _ _ _ h (zc1 (D := 24) g56 (Nat.le_of_ble_eq_true rfl)) (zc1 (D := 147) g57 (Nat.le_of_ble_eq_true rfl)) hW (lv_sub hl [1, 2, 3, 4, 5, 6] rfl)
                      · replace h := h.2 k60
                        refine lv_iload hx hb dL_doors_257 (lv_at hl 0 rfl) ?_
                        refine lv_goto (tgt := 275) hx hb dL_doors_259 (by decide) ?_
                        exact hJ275 t0_241 _ _ _ _ _ h (zc1 (D := 22) g56 (Nat.le_of_ble_eq_true rfl)) (zc1 (D := 135) g57 (Nat.le_of_ble_eq_true rfl)) hW (lv_sub hl [1, 2, 3, 4, 5, 6] rfl)
                  have g63 : cj218 + 44 ≤ CJ241 := Nat.le_of_eq hCJ241.symm
                  have g64 : sj218 + 270 ≤ SJ241 := Nat.le_of_eq hSJ241.symm
                  refine lv_if_ne (tgt := 228) hx hb dL_doors_221 (by decide) (fun k65 => ?_) (fun k65 => ?_)
                  · replace h := h.2 k65
                    refine lv_aload_n hx hb dL_doors_228 rfl (lv_at hl 1 rfl) ?_
                    refine lv_iload hx hb dL_doors_229 (lv_at hl 0 rfl) ?_
                    refine zl_ki (g := g) (rest := []) (zl_runS (g := g) (As := [.ref (sw_ad g 0), .int t0_218]) (rest := []) hx hb hml hown hts (kL_median l hst (zl_re g H.size) t0_218 z _ h) cs_L_median q_523 rfl rfl ⟨by rw [hRf]; exact (Nat.le_of_ble_eq_true rfl), by rw [hRl]; exact (Nat.le_of_ble_eq_true rfl)⟩ hW rfl hl.1 rfl (Nat.le_of_ble_eq_true rfl) dL_doors_231 ⟨(zc1 (D := 22) g37 (Nat.le_of_ble_eq_true rfl)), (zc1 (D := 135) g39 (Nat.le_of_ble_eq_true rfl))⟩) hW (fun r66 z9 H locs h hW => ?_)
                    obtain ⟨h, e9⟩ := h
                    rw [e9] at hW
                    refine lv_aload_n hx hb dL_doors_234 rfl (lv_at hl 1 rfl) ?_
                    refine lv_iload hx hb dL_doors_235 (lv_at hl 5 rfl) ?_
                    refine zl_ki (g := g) (rest := [.int r66]) (zl_runS (g := g) (As := [.ref (sw_ad g 0), .int v36]) (rest := [.int r66]) hx hb hml hown hts (kL_median l hst (zl_re g H.size) v36 z _ h) cs_L_median q_523 rfl rfl ⟨by rw [hRf]; exact (Nat.le_of_ble_eq_true rfl), by rw [hRl]; exact (Nat.le_of_ble_eq_true rfl)⟩ hW rfl hl.1 rfl (Nat.le_of_ble_eq_true rfl) dL_doors_237 ⟨(zc1 (D := 44) g37 (Nat.le_of_ble_eq_true rfl)), (zc1 (D := 270) g39 (Nat.le_of_ble_eq_true rfl))⟩) hW (fun r67 z9 H locs h hW => ?_)
                    obtain ⟨h, e9⟩ := h
                    rw [e9] at hW
                    refine lv_isub hx hb dL_doors_240 ?_
                    exact hJ241 (r66 - r67) _ _ _ _ _ h (zc1 (D := 44) g63 (Nat.le_of_ble_eq_true rfl)) (zc1 (D := 270) g64 (Nat.le_of_ble_eq_true rfl)) hW (lv_sub hl [1, 2, 3, 4, 5, 0] rfl)
                  · replace h := h.1 k65
                    refine lv_iconst (v := 1) hx hb dL_doors_224 (by decide) ?_
                    refine lv_goto (tgt := 241) hx hb dL_doors_225 (by decide) ?_
                    exact hJ241 (1 : Int32) _ _ _ _ _ h (zc1 (D := 0) g63 (Nat.le_of_ble_eq_true rfl)) (zc1 (D := 0) g64 (Nat.le_of_ble_eq_true rfl)) hW (lv_sub hl [1, 2, 3, 4, 5, 0] rfl)
                have g68 : cj194 + 2 ≤ CJ218 := Nat.le_of_eq hCJ218.symm
                have g69 : sj194 + 12 ≤ SJ218 := Nat.le_of_eq hSJ218.symm
                refine lv_if_ne (tgt := 211) hx hb dL_doors_204 (by decide) (fun k70 => ?_) (fun k70 => ?_)
                · replace h := h.2 k70
                  refine lv_aload_n hx hb dL_doors_211 rfl (lv_at hl 2 rfl) ?_
                  refine lv_iload_n hx hb dL_doors_212 rfl (lv_at hl 4 rfl) ?_
                  refine lv_iconst (v := 1) hx hb dL_doors_213 (by decide) ?_
                  refine lv_isub hx hb dL_doors_214 ?_
                  refine zl_ki (g := g) (rest := []) (zl_runH (g := g) (As := [.ref (sw_ad g 0), .int (x2_7 - (1 : Int32))]) (rest := []) hx hb hml hown hts (kL_doorAtRank l hst (zl_re g H.size) z ((x2_7 - (1 : Int32)))) ch_L_doorAtRank q_570 rfl rfl ⟨by rw [hRf]; exact (Nat.le_of_ble_eq_true rfl), by rw [hRl]; exact (Nat.le_of_ble_eq_true rfl)⟩ hW rfl hl.1 rfl (Nat.le_of_ble_eq_true rfl) dL_doors_215 ⟨(zc1 (D := 2) g32 (Nat.le_of_ble_eq_true rfl)), (zc1 (D := 12) g34 (Nat.le_of_ble_eq_true rfl))⟩) hW (fun r9 z9 H locs h9 hW => ?_)
                  obtain ⟨rfl, e9⟩ := h9
                  rw [e9, s_doorAtRank_z] at hW
                  exact hJ218 (zv (s_doorAtRank z ((x2_7 - (1 : Int32)))) [(-13)]) _ _ _ _ _ h (zc1 (D := 2) g68 (Nat.le_of_ble_eq_true rfl)) (zc1 (D := 12) g69 (Nat.le_of_ble_eq_true rfl)) hW (lv_sub hl [2, 3, 4, 1, 0] rfl)
                · replace h := h.1 k70
                  refine lv_iconst (v := -1) hx hb dL_doors_207 (by decide) ?_
                  refine lv_goto (tgt := 218) hx hb dL_doors_208 (by decide) ?_
                  exact hJ218 (-1 : Int32) _ _ _ _ _ h (zc1 (D := 1) g68 (Nat.le_of_ble_eq_true rfl)) (zc1 (D := 6) g69 (Nat.le_of_ble_eq_true rfl)) hW (lv_sub hl [2, 3, 4, 1, 0] rfl)
              have g71 : cj156 + 2 ≤ CJ194 := Nat.le_of_eq hCJ194.symm
              have g72 : sj156 + 12 ≤ SJ194 := Nat.le_of_eq hSJ194.symm
              refine lv_if_eq (tgt := 193) hx hb dL_doors_160 (by decide) (fun k73 => ?_) (fun k73 => ?_)
              · replace h := h.1 k73
                refine lv_iconst (v := 0) hx hb dL_doors_193 (by decide) ?_
                exact hJ194 (0 : Int32) _ _ _ _ _ h (zc1 (D := 0) g71 (Nat.le_of_ble_eq_true rfl)) (zc1 (D := 0) g72 (Nat.le_of_ble_eq_true rfl)) hW (lv_sub hl [1, 2, 3] rfl)
              · replace h := h.2 k73
                refine lv_aload_n hx hb dL_doors_163 rfl (lv_at hl 1 rfl) ?_
                refine lv_iload_n hx hb dL_doors_164 rfl (lv_at hl 3 rfl) ?_
                refine zl_ki (g := g) (rest := []) (zl_runH (g := g) (As := [.ref (sw_ad g 0), .int x2_7]) (rest := []) hx hb hml hown hts (kL_isEntitled l hst (zl_re g H.size) z x2_7) ch_L_isEntitled q_558 rfl rfl ⟨by rw [hRf]; exact (Nat.le_of_ble_eq_true rfl), by rw [hRl]; exact (Nat.le_of_ble_eq_true rfl)⟩ hW rfl hl.1 rfl (Nat.le_of_ble_eq_true rfl) dL_doors_165 ⟨(zc1 (D := 1) g28 (Nat.le_of_ble_eq_true rfl)), (zc1 (D := 6) g30 (Nat.le_of_ble_eq_true rfl))⟩) hW (fun r9 z9 H locs h9 hW => ?_)
                obtain ⟨rfl, e9⟩ := h9
                rw [e9, s_isEntitled_z] at hW
                refine lv_iload hx hb dL_doors_168 (lv_at hl 4 rfl) ?_
                obtain ⟨CJ186, hCJ186⟩ : ∃ n : Nat, n = cj156 + 1 + 1 := ⟨_, rfl⟩
                obtain ⟨SJ186, hSJ186⟩ : ∃ n : Nat, n = sj156 + 6 + 6 := ⟨_, rfl⟩
                have hJ186 : ∀ (t0_186 : Int32) (H : Heap) (locs : List Loc) (ls : Array Slot) (cj186 sj186 : Nat), jL_doors_186 z x2_7 Q (fun x2_7 => lL_doors_7 z v1 Q (((zv (s_doorAtRank z v1) [(-13)]) = (-13 : Int32) → (((zv (s_doorAtRank z ((-1 : Int32))) [(-13)]) = (-13 : Int32) → (((zv (s_frameOfDoor z v1) [(-11)]) = (-11 : Int32) → (((zv (s_topic z v1) [(-11)]) = (-11 : Int32) → (((zv (s_examinersOf z v1) [(-11)]) = (-11 : Int32) → (((zv (s_gradesOf z ((-1 : Int32))) [(-11)]) = (-11 : Int32) → (((zv (s_result z v1) [(-11), (-13)]) = (-11 : Int32) → (((zv (s_passes z v1) [(-11)]) = (-11 : Int32) → (((zv (s_wasGranted z v1) [(-11)]) = (-11 : Int32) → (((zv (s_isEntitled z v1) [(-11)]) = (-11 : Int32) → (Q (1 : Int32))) ∧ (¬ (zv (s_isEntitled z v1) [(-11)]) = (-11 : Int32) → (Q (0 : Int32))))) ∧ (¬ (zv (s_wasGranted z v1) [(-11)]) = (-11 : Int32) → (Q (0 : Int32))))) ∧ (¬ (zv (s_passes z v1) [(-11)]) = (-11 : Int32) → (Q (0 : Int32))))) ∧ (¬ (zv (s_result z v1) [(-11), (-13)]) = (-11 : Int32) → (Q (0 : Int32))))) ∧ (¬ (zv (s_gradesOf z ((-1 : Int32))) [(-11)]) = (-11 : Int32) → (Q (0 : Int32))))) ∧ (¬ (zv (s_examinersOf z v1) [(-11)]) = (-11 : Int32) → (Q (0 : Int32))))) ∧ (¬ (zv (s_topic z v1) [(-11)]) = (-11 : Int32) → (Q (0 : Int32))))) ∧ (¬ (zv (s_frameOfDoor z v1) [(-11)]) = (-11 : Int32) → (Q (0 : Int32))))) ∧ (¬ (zv (s_doorAtRank z ((-1 : Int32))) [(-13)]) = (-13 : Int32) → (Q (0 : Int32))))) ∧ (¬ (zv (s_doorAtRank z v1) [(-13)]) = (-13 : Int32) → (Q (0 : Int32)))) n7 x2_7) t0_186 → cj186 ≤ CJ186 → sj186 ≤ SJ186 → zl_Wd g [] z s H locs → lv_has ls 11 [(0, .ref (sw_ad g 0)), (1, .int v1), (2, .int x2_7)] → W p l e R s m args below meth c H locs cj186 sj186 Q0 (F0 m 186 ls [.int t0_186, .int (zv (s_isEntitled z x2_7) [(-11)])]) := by
                  intro t0_186 H locs ls cj186 sj186 h hcj186 hsj186 hW hl
                  unfold jL_doors_186 at h
                  have g74 : cj186 + 81 ≤ R.cells := zc8 (x := cj156) (D := 2) (s := 83) (s' := 81) hcj186 hCJ186 g28 (Nat.le_of_ble_eq_true rfl)
                  have g75 : cj186 + 70 ≤ Tcn7 := zc8 (x := cj156) (D := 2) (s := 72) (s' := 70) hcj186 hCJ186 g29 (Nat.le_of_ble_eq_true rfl)
                  have g76 : cj186 + 0 ≤ CJ194 := zc8 (x := cj156) (D := 2) (s := 2) (s' := 0) hcj186 hCJ186 g71 (Nat.le_of_ble_eq_true rfl)
                  have g77 : sj186 + 495 ≤ R.slots := zc8 (x := sj156) (D := 12) (s := 507) (s' := 495) hsj186 hSJ186 g30 (Nat.le_of_ble_eq_true rfl)
                  have g78 : sj186 + 429 ≤ Tsn7 := zc8 (x := sj156) (D := 12) (s := 441) (s' := 429) hsj186 hSJ186 g31 (Nat.le_of_ble_eq_true rfl)
                  have g79 : sj186 + 0 ≤ SJ194 := zc8 (x := sj156) (D := 12) (s := 12) (s' := 0) hsj186 hSJ186 g72 (Nat.le_of_ble_eq_true rfl)
                  refine lv_icmp_ne (tgt := 193) hx hb dL_doors_186 (by decide) (fun k80 => ?_) (fun k80 => ?_)
                  · replace h := h.2 k80
                    refine lv_iconst (v := 0) hx hb dL_doors_193 (by decide) ?_
                    exact hJ194 (0 : Int32) _ _ _ _ _ h (zc1 (D := 0) g76 (Nat.le_of_ble_eq_true rfl)) (zc1 (D := 0) g79 (Nat.le_of_ble_eq_true rfl)) hW (lv_sub hl [0, 1, 2] rfl)
                  · replace h := h.1 k80
                    refine lv_iconst (v := 1) hx hb dL_doors_189 (by decide) ?_
                    refine lv_goto (tgt := 194) hx hb dL_doors_190 (by decide) ?_
                    exact hJ194 (1 : Int32) _ _ _ _ _ h (zc1 (D := 0) g76 (Nat.le_of_ble_eq_true rfl)) (zc1 (D := 0) g79 (Nat.le_of_ble_eq_true rfl)) hW (lv_sub hl [0, 1, 2] rfl)
                have g81 : cj156 + 2 ≤ CJ186 := Nat.le_of_eq hCJ186.symm
                have g82 : sj156 + 12 ≤ SJ186 := Nat.le_of_eq hSJ186.symm
                refine lv_if_ne (tgt := 181) hx hb dL_doors_170 (by decide) (fun k83 => ?_) (fun k83 => ?_)
                · replace h := h.2 k83
                  refine lv_iconst (v := 1) hx hb dL_doors_181 (by decide) ?_
                  refine lv_goto (tgt := 186) hx hb dL_doors_182 (by decide) ?_
                  exact hJ186 (1 : Int32) _ _ _ _ _ h (zc1 (D := 1) g81 (Nat.le_of_ble_eq_true rfl)) (zc1 (D := 6) g82 (Nat.le_of_ble_eq_true rfl)) hW (lv_sub hl [1, 2, 3] rfl)
                · replace h := h.1 k83
                  refine lv_aload_n hx hb dL_doors_173 rfl (lv_at hl 1 rfl) ?_
                  refine lv_iload_n hx hb dL_doors_174 rfl (lv_at hl 3 rfl) ?_
                  have y84 := h.1
                  replace h := h.2
                  refine zl_ki (g := g) (rest := [.int (zv (s_isEntitled z x2_7) [(-11)])]) (zl_runV (g := g) (As := [.int x2_7]) (rest := [.int (zv (s_isEntitled z x2_7) [(-11)])]) hx hb hml hown hts (zD_wasGranted l hst (zl_re g H.size) z x2_7 y84) cv_X6_wasGranted q_565 rfl rfl ⟨by rw [hRf]; exact (Nat.le_of_ble_eq_true rfl), by rw [hRl]; exact (Nat.le_of_ble_eq_true rfl)⟩ hW (Or.inl (Nat.le_of_ble_eq_true rfl)) sl_0 rfl rfl hl.1 rfl (Nat.le_of_ble_eq_true rfl) dL_doors_175 ⟨(zc1 (D := 2) g28 (Nat.le_of_ble_eq_true rfl)), (zc1 (D := 12) g30 (Nat.le_of_ble_eq_true rfl))⟩) hW (fun r9 z9 H locs h9 hW => ?_)
                  clear y84
                  obtain ⟨rfl, e9⟩ := h9
                  rw [e9, s_wasGranted_z] at hW
                  refine lv_if_eq (tgt := 185) hx hb dL_doors_178 (by decide) (fun k85 => ?_) (fun k85 => ?_)
                  · replace h := h.1 k85
                    refine lv_iconst (v := 0) hx hb dL_doors_185 (by decide) ?_
                    exact hJ186 (0 : Int32) _ _ _ _ _ h (zc1 (D := 2) g81 (Nat.le_of_ble_eq_true rfl)) (zc1 (D := 12) g82 (Nat.le_of_ble_eq_true rfl)) hW (lv_sub hl [1, 2, 3] rfl)
                  · replace h := h.2 k85
                    refine lv_iconst (v := 1) hx hb dL_doors_181 (by decide) ?_
                    refine lv_goto (tgt := 186) hx hb dL_doors_182 (by decide) ?_
                    exact hJ186 (1 : Int32) _ _ _ _ _ h (zc1 (D := 2) g81 (Nat.le_of_ble_eq_true rfl)) (zc1 (D := 12) g82 (Nat.le_of_ble_eq_true rfl)) hW (lv_sub hl [1, 2, 3] rfl)
            have g86 : cj91 + 5 ≤ CJ156 := Nat.le_of_eq hCJ156.symm
            have g87 : sj91 + 30 ≤ SJ156 := Nat.le_of_eq hSJ156.symm
            refine lv_icmp_ne (tgt := 155) hx hb dL_doors_99 (by decide) (fun k88 => ?_) (fun k88 => ?_)
            · replace h := h.2 k88
              refine lv_iconst (v := 0) hx hb dL_doors_155 (by decide) ?_
              exact hJ156 (0 : Int32) _ _ _ _ _ h (zc1 (D := 1) g86 (Nat.le_of_ble_eq_true rfl)) (zc1 (D := 6) g87 (Nat.le_of_ble_eq_true rfl)) hW (lv_sub hl [1, 2, 3, 0] rfl)
            · replace h := h.1 k88
              refine lv_aload_n hx hb dL_doors_102 rfl (lv_at hl 1 rfl) ?_
              refine lv_iload_n hx hb dL_doors_103 rfl (lv_at hl 3 rfl) ?_
              refine zl_ki (g := g) (rest := []) (zl_runH (g := g) (As := [.ref (sw_ad g 0), .int x2_7]) (rest := []) hx hb hml hown hts (kL_gradesOf l hst (zl_re g H.size) z x2_7) ch_L_gradesOf q_537 rfl rfl ⟨by rw [hRf]; exact (Nat.le_of_ble_eq_true rfl), by rw [hRl]; exact (Nat.le_of_ble_eq_true rfl)⟩ hW rfl hl.1 rfl (Nat.le_of_ble_eq_true rfl) dL_doors_104 ⟨(zc1 (D := 2) g24 (Nat.le_of_ble_eq_true rfl)), (zc1 (D := 12) g26 (Nat.le_of_ble_eq_true rfl))⟩) hW (fun r9 z9 H locs h9 hW => ?_)
              obtain ⟨rfl, e9⟩ := h9
              rw [e9, s_gradesOf_z] at hW
              refine lv_iload hx hb dL_doors_107 (lv_at hl 5 rfl) ?_
              refine lv_icmp_ne (tgt := 155) hx hb dL_doors_109 (by decide) (fun k89 => ?_) (fun k89 => ?_)
              · replace h := h.2 k89
                refine lv_iconst (v := 0) hx hb dL_doors_155 (by decide) ?_
                exact hJ156 (0 : Int32) _ _ _ _ _ h (zc1 (D := 2) g86 (Nat.le_of_ble_eq_true rfl)) (zc1 (D := 12) g87 (Nat.le_of_ble_eq_true rfl)) hW (lv_sub hl [1, 2, 3, 0] rfl)
              · replace h := h.1 k89
                refine lv_iload_n hx hb dL_doors_112 rfl (lv_at hl 4 rfl) ?_
                refine lv_iconst (v := 3) hx hb dL_doors_113 (by decide) ?_
                refine lv_icmp_gt (tgt := 155) hx hb dL_doors_114 (by decide) (fun k90 => ?_) (fun k90 => ?_)
                · replace h := h.1 k90
                  refine lv_iconst (v := 0) hx hb dL_doors_155 (by decide) ?_
                  exact hJ156 (0 : Int32) _ _ _ _ _ h (zc1 (D := 2) g86 (Nat.le_of_ble_eq_true rfl)) (zc1 (D := 12) g87 (Nat.le_of_ble_eq_true rfl)) hW (lv_sub hl [1, 2, 3, 0] rfl)
                · replace h := h.2 k90
                  refine lv_iload hx hb dL_doors_117 (lv_at hl 5 rfl) ?_
                  refine lv_iload_n hx hb dL_doors_119 rfl (lv_at hl 4 rfl) ?_
                  refine lv_icmp_gt (tgt := 155) hx hb dL_doors_120 (by decide) (fun k91 => ?_) (fun k91 => ?_)
                  · replace h := h.1 k91
                    refine lv_iconst (v := 0) hx hb dL_doors_155 (by decide) ?_
                    exact hJ156 (0 : Int32) _ _ _ _ _ h (zc1 (D := 2) g86 (Nat.le_of_ble_eq_true rfl)) (zc1 (D := 12) g87 (Nat.le_of_ble_eq_true rfl)) hW (lv_sub hl [1, 2, 3, 0] rfl)
                  · replace h := h.2 k91
                    refine lv_aload_n hx hb dL_doors_123 rfl (lv_at hl 1 rfl) ?_
                    refine lv_iload_n hx hb dL_doors_124 rfl (lv_at hl 3 rfl) ?_
                    refine zl_ki (g := g) (rest := []) (zl_runH (g := g) (As := [.ref (sw_ad g 0), .int x2_7]) (rest := []) hx hb hml hown hts (kL_result l hst (zl_re g H.size) z x2_7) ch_L_result q_544 rfl rfl ⟨by rw [hRf]; exact (Nat.le_of_ble_eq_true rfl), by rw [hRl]; exact (Nat.le_of_ble_eq_true rfl)⟩ hW rfl hl.1 rfl (Nat.le_of_ble_eq_true rfl) dL_doors_125 ⟨(zc1 (D := 4) g24 (Nat.le_of_ble_eq_true rfl)), (zc1 (D := 24) g26 (Nat.le_of_ble_eq_true rfl))⟩) hW (fun r9 z9 H locs h9 hW => ?_)
                    obtain ⟨rfl, e9⟩ := h9
                    rw [e9, s_result_z] at hW
                    refine lv_iload hx hb dL_doors_128 (lv_at hl 6 rfl) ?_
                    refine lv_icmp_ne (tgt := 155) hx hb dL_doors_130 (by decide) (fun k92 => ?_) (fun k92 => ?_)
                    · replace h := h.2 k92
                      refine lv_iconst (v := 0) hx hb dL_doors_155 (by decide) ?_
                      exact hJ156 (0 : Int32) _ _ _ _ _ h (zc1 (D := 4) g86 (Nat.le_of_ble_eq_true rfl)) (zc1 (D := 24) g87 (Nat.le_of_ble_eq_true rfl)) hW (lv_sub hl [1, 2, 3, 0] rfl)
                    · replace h := h.1 k92
                      refine lv_aload_n hx hb dL_doors_133 rfl (lv_at hl 1 rfl) ?_
                      refine lv_iload_n hx hb dL_doors_134 rfl (lv_at hl 3 rfl) ?_
                      refine zl_ki (g := g) (rest := []) (zl_runH (g := g) (As := [.ref (sw_ad g 0), .int x2_7]) (rest := []) hx hb hml hown hts (kL_passes l hst (zl_re g H.size) z x2_7) ch_L_passes q_551 rfl rfl ⟨by rw [hRf]; exact (Nat.le_of_ble_eq_true rfl), by rw [hRl]; exact (Nat.le_of_ble_eq_true rfl)⟩ hW rfl hl.1 rfl (Nat.le_of_ble_eq_true rfl) dL_doors_135 ⟨(zc1 (D := 5) g24 (Nat.le_of_ble_eq_true rfl)), (zc1 (D := 30) g26 (Nat.le_of_ble_eq_true rfl))⟩) hW (fun r9 z9 H locs h9 hW => ?_)
                      obtain ⟨rfl, e9⟩ := h9
                      rw [e9, s_passes_z] at hW
                      refine lv_iload hx hb dL_doors_138 (lv_at hl 0 rfl) ?_
                      obtain ⟨CJ148, hCJ148⟩ : ∃ n : Nat, n = cj91 + 1 + 1 + 2 + 1 + 0 := ⟨_, rfl⟩
                      obtain ⟨SJ148, hSJ148⟩ : ∃ n : Nat, n = sj91 + 6 + 6 + 12 + 6 + 0 := ⟨_, rfl⟩
                      have hJ148 : ∀ (t0_148 : Int32) (H : Heap) (locs : List Loc) (ls : Array Slot) (cj148 sj148 : Nat), jL_doors_148 z x2_7 t0_91 Q (fun x2_7 => lL_doors_7 z v1 Q (((zv (s_doorAtRank z v1) [(-13)]) = (-13 : Int32) → (((zv (s_doorAtRank z ((-1 : Int32))) [(-13)]) = (-13 : Int32) → (((zv (s_frameOfDoor z v1) [(-11)]) = (-11 : Int32) → (((zv (s_topic z v1) [(-11)]) = (-11 : Int32) → (((zv (s_examinersOf z v1) [(-11)]) = (-11 : Int32) → (((zv (s_gradesOf z ((-1 : Int32))) [(-11)]) = (-11 : Int32) → (((zv (s_result z v1) [(-11), (-13)]) = (-11 : Int32) → (((zv (s_passes z v1) [(-11)]) = (-11 : Int32) → (((zv (s_wasGranted z v1) [(-11)]) = (-11 : Int32) → (((zv (s_isEntitled z v1) [(-11)]) = (-11 : Int32) → (Q (1 : Int32))) ∧ (¬ (zv (s_isEntitled z v1) [(-11)]) = (-11 : Int32) → (Q (0 : Int32))))) ∧ (¬ (zv (s_wasGranted z v1) [(-11)]) = (-11 : Int32) → (Q (0 : Int32))))) ∧ (¬ (zv (s_passes z v1) [(-11)]) = (-11 : Int32) → (Q (0 : Int32))))) ∧ (¬ (zv (s_result z v1) [(-11), (-13)]) = (-11 : Int32) → (Q (0 : Int32))))) ∧ (¬ (zv (s_gradesOf z ((-1 : Int32))) [(-11)]) = (-11 : Int32) → (Q (0 : Int32))))) ∧ (¬ (zv (s_examinersOf z v1) [(-11)]) = (-11 : Int32) → (Q (0 : Int32))))) ∧ (¬ (zv (s_topic z v1) [(-11)]) = (-11 : Int32) → (Q (0 : Int32))))) ∧ (¬ (zv (s_frameOfDoor z v1) [(-11)]) = (-11 : Int32) → (Q (0 : Int32))))) ∧ (¬ (zv (s_doorAtRank z ((-1 : Int32))) [(-13)]) = (-13 : Int32) → (Q (0 : Int32))))) ∧ (¬ (zv (s_doorAtRank z v1) [(-13)]) = (-13 : Int32) → (Q (0 : Int32)))) n7 x2_7) t0_148 → cj148 ≤ CJ148 → sj148 ≤ SJ148 → zl_Wd g [] z s H locs → lv_has ls 11 [(0, .ref (sw_ad g 0)), (1, .int v1), (2, .int x2_7), (6, .int t0_91)] → W p l e R s m args below meth c H locs cj148 sj148 Q0 (F0 m 148 ls [.int t0_148, .int (zv (s_passes z x2_7) [(-11)])]) := by
                        intro t0_148 H locs ls cj148 sj148 h hcj148 hsj148 hW hl
                        unfold jL_doors_148 at h
                        have g93 : cj148 + 83 ≤ R.cells := zc8 (x := cj91) (D := 5) (s := 88) (s' := 83) hcj148 hCJ148 g24 (Nat.le_of_ble_eq_true rfl)
                        have g94 : cj148 + 72 ≤ Tcn7 := zc8 (x := cj91) (D := 5) (s := 77) (s' := 72) hcj148 hCJ148 g25 (Nat.le_of_ble_eq_true rfl)
                        have g95 : cj148 + 0 ≤ CJ156 := zc8 (x := cj91) (D := 5) (s := 5) (s' := 0) hcj148 hCJ148 g86 (Nat.le_of_ble_eq_true rfl)
                        have g96 : sj148 + 507 ≤ R.slots := zc8 (x := sj91) (D := 30) (s := 537) (s' := 507) hsj148 hSJ148 g26 (Nat.le_of_ble_eq_true rfl)
                        have g97 : sj148 + 441 ≤ Tsn7 := zc8 (x := sj91) (D := 30) (s := 471) (s' := 441) hsj148 hSJ148 g27 (Nat.le_of_ble_eq_true rfl)
                        have g98 : sj148 + 0 ≤ SJ156 := zc8 (x := sj91) (D := 30) (s := 30) (s' := 0) hsj148 hSJ148 g87 (Nat.le_of_ble_eq_true rfl)
                        refine lv_icmp_ne (tgt := 155) hx hb dL_doors_148 (by decide) (fun k99 => ?_) (fun k99 => ?_)
                        · replace h := h.2 k99
                          refine lv_iconst (v := 0) hx hb dL_doors_155 (by decide) ?_
                          exact hJ156 (0 : Int32) _ _ _ _ _ h (zc1 (D := 0) g95 (Nat.le_of_ble_eq_true rfl)) (zc1 (D := 0) g98 (Nat.le_of_ble_eq_true rfl)) hW (lv_sub hl [0, 1, 2, 3] rfl)
                        · replace h := h.1 k99
                          refine lv_iconst (v := 1) hx hb dL_doors_151 (by decide) ?_
                          refine lv_goto (tgt := 156) hx hb dL_doors_152 (by decide) ?_
                          exact hJ156 (1 : Int32) _ _ _ _ _ h (zc1 (D := 0) g95 (Nat.le_of_ble_eq_true rfl)) (zc1 (D := 0) g98 (Nat.le_of_ble_eq_true rfl)) hW (lv_sub hl [0, 1, 2, 3] rfl)
                      have g100 : cj91 + 5 ≤ CJ148 := Nat.le_of_eq hCJ148.symm
                      have g101 : sj91 + 30 ≤ SJ148 := Nat.le_of_eq hSJ148.symm
                      refine lv_if_eq (tgt := 147) hx hb dL_doors_140 (by decide) (fun k102 => ?_) (fun k102 => ?_)
                      · replace h := h.1 k102
                        refine lv_iconst (v := 0) hx hb dL_doors_147 (by decide) ?_
                        exact hJ148 (0 : Int32) _ _ _ _ _ h (zc1 (D := 5) g100 (Nat.le_of_ble_eq_true rfl)) (zc1 (D := 30) g101 (Nat.le_of_ble_eq_true rfl)) hW (lv_sub hl [1, 2, 3, 0] rfl)
                      · replace h := h.2 k102
                        refine lv_iconst (v := 1) hx hb dL_doors_143 (by decide) ?_
                        refine lv_goto (tgt := 148) hx hb dL_doors_144 (by decide) ?_
                        exact hJ148 (1 : Int32) _ _ _ _ _ h (zc1 (D := 5) g100 (Nat.le_of_ble_eq_true rfl)) (zc1 (D := 30) g101 (Nat.le_of_ble_eq_true rfl)) hW (lv_sub hl [1, 2, 3, 0] rfl)
          have g103 : cx20 + 22 ≤ CJ91 := Nat.le_of_eq hCJ91.symm
          have g104 : sx20 + 135 ≤ SJ91 := Nat.le_of_eq hSJ91.symm
          refine lv_if_lt (tgt := 90) hx hb dL_doors_74 (by decide) (fun k105 => ?_) (fun k105 => ?_)
          · replace h := h.1 k105
            refine lv_iconst (v := 0) hx hb dL_doors_90 (by decide) ?_
            exact hJ91 (0 : Int32) _ _ _ _ _ h (zc1 (D := 22) g103 (Nat.le_of_ble_eq_true rfl)) (zc1 (D := 135) g104 (Nat.le_of_ble_eq_true rfl)) hW (lv_sub hl [1, 2, 3, 4, 5, 0] rfl)
          · replace h := h.2 k105
            refine lv_iload hx hb dL_doors_77 (lv_at hl 0 rfl) ?_
            refine lv_aload_n hx hb dL_doors_79 rfl (lv_at hl 1 rfl) ?_
            refine zl_ki (g := g) (rest := [.int r23]) (zl_runV (g := g) (As := []) (rest := [.int r23]) hx hb hml hown hts (zD_threshold l (zl_re g H.size) z) cv_X6_threshold q_526 rfl rfl ⟨by rw [hRf]; exact (Nat.le_of_ble_eq_true rfl), by rw [hRl]; exact (Nat.le_of_ble_eq_true rfl)⟩ hW (Or.inl (Nat.le_of_ble_eq_true rfl)) sl_0 rfl rfl hl.1 rfl (Nat.le_of_ble_eq_true rfl) dL_doors_80 ⟨(zc1 (D := 22) g19 (Nat.le_of_ble_eq_true rfl)), (zc1 (D := 135) g21 (Nat.le_of_ble_eq_true rfl))⟩) hW (fun r9 z9 H locs h9 hW => ?_)
            obtain ⟨rfl, e9⟩ := h9
            rw [e9] at hW
            refine lv_icmp_lt (tgt := 90) hx hb dL_doors_83 (by decide) (fun k106 => ?_) (fun k106 => ?_)
            · replace h := h.1 k106
              refine lv_iconst (v := 0) hx hb dL_doors_90 (by decide) ?_
              exact hJ91 (0 : Int32) _ _ _ _ _ h (zc1 (D := 22) g103 (Nat.le_of_ble_eq_true rfl)) (zc1 (D := 135) g104 (Nat.le_of_ble_eq_true rfl)) hW (lv_sub hl [1, 2, 3, 4, 5, 0] rfl)
            · replace h := h.2 k106
              refine lv_iconst (v := 1) hx hb dL_doors_86 (by decide) ?_
              refine lv_goto (tgt := 91) hx hb dL_doors_87 (by decide) ?_
              exact hJ91 (1 : Int32) _ _ _ _ _ h (zc1 (D := 22) g103 (Nat.le_of_ble_eq_true rfl)) (zc1 (D := 135) g104 (Nat.le_of_ble_eq_true rfl)) hW (lv_sub hl [1, 2, 3, 4, 5, 0] rfl)
        have key20 : ∀ (n20 : Nat) (x3_20 : Int32) (x4_20 : Int32) (x5_20 : Int32)  (H : Heap) (locs : List Loc) (ls : Array Slot) (cn20 sn20 : Nat), lL_doors_20 z x2_7 (fun x3_20k x4_20k => wL_median x2_7  z (fun r23 => (r23 < 0 → (jL_doors_91 z x2_7 x3_20k x4_20k r23 Q (fun x2_7 => lL_doors_7 z v1 Q (((zv (s_doorAtRank z v1) [(-13)]) = (-13 : Int32) → (((zv (s_doorAtRank z ((-1 : Int32))) [(-13)]) = (-13 : Int32) → (((zv (s_frameOfDoor z v1) [(-11)]) = (-11 : Int32) → (((zv (s_topic z v1) [(-11)]) = (-11 : Int32) → (((zv (s_examinersOf z v1) [(-11)]) = (-11 : Int32) → (((zv (s_gradesOf z ((-1 : Int32))) [(-11)]) = (-11 : Int32) → (((zv (s_result z v1) [(-11), (-13)]) = (-11 : Int32) → (((zv (s_passes z v1) [(-11)]) = (-11 : Int32) → (((zv (s_wasGranted z v1) [(-11)]) = (-11 : Int32) → (((zv (s_isEntitled z v1) [(-11)]) = (-11 : Int32) → (Q (1 : Int32))) ∧ (¬ (zv (s_isEntitled z v1) [(-11)]) = (-11 : Int32) → (Q (0 : Int32))))) ∧ (¬ (zv (s_wasGranted z v1) [(-11)]) = (-11 : Int32) → (Q (0 : Int32))))) ∧ (¬ (zv (s_passes z v1) [(-11)]) = (-11 : Int32) → (Q (0 : Int32))))) ∧ (¬ (zv (s_result z v1) [(-11), (-13)]) = (-11 : Int32) → (Q (0 : Int32))))) ∧ (¬ (zv (s_gradesOf z ((-1 : Int32))) [(-11)]) = (-11 : Int32) → (Q (0 : Int32))))) ∧ (¬ (zv (s_examinersOf z v1) [(-11)]) = (-11 : Int32) → (Q (0 : Int32))))) ∧ (¬ (zv (s_topic z v1) [(-11)]) = (-11 : Int32) → (Q (0 : Int32))))) ∧ (¬ (zv (s_frameOfDoor z v1) [(-11)]) = (-11 : Int32) → (Q (0 : Int32))))) ∧ (¬ (zv (s_doorAtRank z ((-1 : Int32))) [(-13)]) = (-13 : Int32) → (Q (0 : Int32))))) ∧ (¬ (zv (s_doorAtRank z v1) [(-13)]) = (-13 : Int32) → (Q (0 : Int32)))) n7 x2_7) (0 : Int32))) ∧ (¬ r23 < 0 → ((r23 < (nI (z.1 2)) → (jL_doors_91 z x2_7 x3_20k x4_20k r23 Q (fun x2_7 => lL_doors_7 z v1 Q (((zv (s_doorAtRank z v1) [(-13)]) = (-13 : Int32) → (((zv (s_doorAtRank z ((-1 : Int32))) [(-13)]) = (-13 : Int32) → (((zv (s_frameOfDoor z v1) [(-11)]) = (-11 : Int32) → (((zv (s_topic z v1) [(-11)]) = (-11 : Int32) → (((zv (s_examinersOf z v1) [(-11)]) = (-11 : Int32) → (((zv (s_gradesOf z ((-1 : Int32))) [(-11)]) = (-11 : Int32) → (((zv (s_result z v1) [(-11), (-13)]) = (-11 : Int32) → (((zv (s_passes z v1) [(-11)]) = (-11 : Int32) → (((zv (s_wasGranted z v1) [(-11)]) = (-11 : Int32) → (((zv (s_isEntitled z v1) [(-11)]) = (-11 : Int32) → (Q (1 : Int32))) ∧ (¬ (zv (s_isEntitled z v1) [(-11)]) = (-11 : Int32) → (Q (0 : Int32))))) ∧ (¬ (zv (s_wasGranted z v1) [(-11)]) = (-11 : Int32) → (Q (0 : Int32))))) ∧ (¬ (zv (s_passes z v1) [(-11)]) = (-11 : Int32) → (Q (0 : Int32))))) ∧ (¬ (zv (s_result z v1) [(-11), (-13)]) = (-11 : Int32) → (Q (0 : Int32))))) ∧ (¬ (zv (s_gradesOf z ((-1 : Int32))) [(-11)]) = (-11 : Int32) → (Q (0 : Int32))))) ∧ (¬ (zv (s_examinersOf z v1) [(-11)]) = (-11 : Int32) → (Q (0 : Int32))))) ∧ (¬ (zv (s_topic z v1) [(-11)]) = (-11 : Int32) → (Q (0 : Int32))))) ∧ (¬ (zv (s_frameOfDoor z v1) [(-11)]) = (-11 : Int32) → (Q (0 : Int32))))) ∧ (¬ (zv (s_doorAtRank z ((-1 : Int32))) [(-13)]) = (-13 : Int32) → (Q (0 : Int32))))) ∧ (¬ (zv (s_doorAtRank z v1) [(-13)]) = (-13 : Int32) → (Q (0 : Int32)))) n7 x2_7) (0 : Int32))) ∧ (¬ r23 < (nI (z.1 2)) → (jL_doors_91 z x2_7 x3_20k x4_20k r23 Q (fun x2_7 => lL_doors_7 z v1 Q (((zv (s_doorAtRank z v1) [(-13)]) = (-13 : Int32) → (((zv (s_doorAtRank z ((-1 : Int32))) [(-13)]) = (-13 : Int32) → (((zv (s_frameOfDoor z v1) [(-11)]) = (-11 : Int32) → (((zv (s_topic z v1) [(-11)]) = (-11 : Int32) → (((zv (s_examinersOf z v1) [(-11)]) = (-11 : Int32) → (((zv (s_gradesOf z ((-1 : Int32))) [(-11)]) = (-11 : Int32) → (((zv (s_result z v1) [(-11), (-13)]) = (-11 : Int32) → (((zv (s_passes z v1) [(-11)]) = (-11 : Int32) → (((zv (s_wasGranted z v1) [(-11)]) = (-11 : Int32) → (((zv (s_isEntitled z v1) [(-11)]) = (-11 : Int32) → (Q (1 : Int32))) ∧ (¬ (zv (s_isEntitled z v1) [(-11)]) = (-11 : Int32) → (Q (0 : Int32))))) ∧ (¬ (zv (s_wasGranted z v1) [(-11)]) = (-11 : Int32) → (Q (0 : Int32))))) ∧ (¬ (zv (s_passes z v1) [(-11)]) = (-11 : Int32) → (Q (0 : Int32))))) ∧ (¬ (zv (s_result z v1) [(-11), (-13)]) = (-11 : Int32) → (Q (0 : Int32))))) ∧ (¬ (zv (s_gradesOf z ((-1 : Int32))) [(-11)]) = (-11 : Int32) → (Q (0 : Int32))))) ∧ (¬ (zv (s_examinersOf z v1) [(-11)]) = (-11 : Int32) → (Q (0 : Int32))))) ∧ (¬ (zv (s_topic z v1) [(-11)]) = (-11 : Int32) → (Q (0 : Int32))))) ∧ (¬ (zv (s_frameOfDoor z v1) [(-11)]) = (-11 : Int32) → (Q (0 : Int32))))) ∧ (¬ (zv (s_doorAtRank z ((-1 : Int32))) [(-13)]) = (-13 : Int32) → (Q (0 : Int32))))) ∧ (¬ (zv (s_doorAtRank z v1) [(-13)]) = (-13 : Int32) → (Q (0 : Int32)))) n7 x2_7) (1 : Int32))))))) n20 x3_20 x4_20 x5_20 → cn20 + n20 * 5 ≤ CL20 → sn20 + n20 * 30 ≤ SL20 → zl_Wd g [] z s H locs → lv_has ls 11 [(0, .ref (sw_ad g 0)), (1, .int v1), (2, .int x2_7), (3, .int x3_20), (4, .int x4_20), (5, .int x5_20)] → W p l e R s m args below meth c H locs cn20 sn20 Q0 (F0 m 20 ls []) := by
          intro n20
          induction n20 with
          | zero =>
            intro x3_20 x4_20 x5_20  H locs ls cn20 sn20 h
            exact False.elim h
          | succ n20 ih20 =>
            intro x3_20 x4_20 x5_20  H locs ls cn20 sn20 h hcn20 hsn20 hW hl
            rw [lL_doors_20.eq_2] at h
            obtain ⟨Tcn20, hTcn20⟩ : ∃ n : Nat, n = cn20 + 5 := ⟨_, rfl⟩
            obtain ⟨Tsn20, hTsn20⟩ : ∃ n : Nat, n = sn20 + 30 := ⟨_, rfl⟩
            have g107 : cn20 + 5 ≤ Tcn20 := Nat.le_of_eq hTcn20.symm
            have g108 : sn20 + 30 ≤ Tsn20 := Nat.le_of_eq hTsn20.symm
            have g109 : cn20 + 115 ≤ R.cells := zc9 (x := cn7) (D := 35) (s := 145) (t := 115) hcn20 hCL20 g16 (Nat.le_of_ble_eq_true rfl)
            have g110 : sn20 + 702 ≤ R.slots := zc9 (x := sn7) (D := 210) (s := 882) (t := 702) hsn20 hSL20 g17 (Nat.le_of_ble_eq_true rfl)
            refine lv_iload hx hb dL_doors_20 (lv_at hl 5 rfl) ?_
            refine lv_aload_n hx hb dL_doors_22 rfl (lv_at hl 0 rfl) ?_
            refine zl_ki (g := g) (rest := [.int x5_20]) (zl_runV (g := g) (As := []) (rest := [.int x5_20]) hx hb hml hown hts (zD_examinerCount l (zl_re g H.size) z) cv_X6_examinerCount q_491 rfl rfl ⟨by rw [hRf]; exact (Nat.le_of_ble_eq_true rfl), by rw [hRl]; exact (Nat.le_of_ble_eq_true rfl)⟩ hW (Or.inl (Nat.le_of_ble_eq_true rfl)) sl_0 rfl rfl hl.1 rfl (Nat.le_of_ble_eq_true rfl) dL_doors_23 ⟨(zc1 (D := 0) g109 (Nat.le_of_ble_eq_true rfl)), (zc1 (D := 0) g110 (Nat.le_of_ble_eq_true rfl))⟩) hW (fun r9 z9 H locs h9 hW => ?_)
            obtain ⟨rfl, e9⟩ := h9
            rw [e9] at hW
            refine lv_icmp_ge (tgt := 65) hx hb dL_doors_26 (by decide) (fun k111 => ?_) (fun k111 => ?_)
            · replace h := h.1 k111
              exact hX20 x3_20 x4_20 _ _ _ _ _ h (zc11 (zc1 (D := 0) g107 (Nat.le_of_ble_eq_true rfl)) hTcn20 hcn20) (zc11 (zc1 (D := 0) g108 (Nat.le_of_ble_eq_true rfl)) hTsn20 hsn20) hW (lv_sub hl [0, 1, 2, 3, 4] rfl)
            · replace h := h.2 k111
              refine lv_iload_n hx hb dL_doors_29 rfl (lv_at hl 3 rfl) ?_
              refine lv_aload_n hx hb dL_doors_30 rfl (lv_at hl 0 rfl) ?_
              refine lv_iload hx hb dL_doors_31 (lv_at hl 5 rfl) ?_
              refine lv_iload_n hx hb dL_doors_33 rfl (lv_at hl 2 rfl) ?_
              refine zl_ki (g := g) (rest := [.int x3_20]) (zl_runH (g := g) (As := [.ref (sw_ad g 0), .int x5_20, .int x2_7]) (rest := [.int x3_20]) hx hb hml hown hts (kL_isAssigned l hst (zl_re g H.size) z x5_20 x2_7) ch_L_isAssigned q_495 rfl rfl ⟨by rw [hRf]; exact (Nat.le_of_ble_eq_true rfl), by rw [hRl]; exact (Nat.le_of_ble_eq_true rfl)⟩ hW rfl hl.1 rfl (Nat.le_of_ble_eq_true rfl) dL_doors_34 ⟨(zc1 (D := 2) g109 (Nat.le_of_ble_eq_true rfl)), (zc1 (D := 12) g110 (Nat.le_of_ble_eq_true rfl))⟩) hW (fun r9 z9 H locs h9 hW => ?_)
              obtain ⟨rfl, e9⟩ := h9
              rw [e9, s_isAssigned_z] at hW
              refine lv_iadd hx hb dL_doors_37 ?_
              refine lv_topi (fun v112 ev112 => ?_)
              replace h := h v112 ev112
              refine lv_istore_n (lv' := [(3, .int v112), (0, .ref (sw_ad g 0)), (1, .int v1), (2, .int x2_7), (4, .int x4_20), (5, .int x5_20)]) hx hb dL_doors_38 rfl hl (Nat.le_of_ble_eq_true rfl) rfl (fun ls hl => ?_)
              refine lv_iload hx hb dL_doors_39 (lv_at hl 4 rfl) ?_
              refine lv_aload_n hx hb dL_doors_41 rfl (lv_at hl 1 rfl) ?_
              refine lv_iload hx hb dL_doors_42 (lv_at hl 5 rfl) ?_
              refine lv_iload_n hx hb dL_doors_44 rfl (lv_at hl 3 rfl) ?_
              refine zl_ki (g := g) (rest := [.int x4_20]) (zl_runH (g := g) (As := [.ref (sw_ad g 0), .int x5_20, .int x2_7]) (rest := [.int x4_20]) hx hb hml hown hts (kL_gradeBy l hst (zl_re g H.size) z x5_20 x2_7) ch_L_gradeBy q_513 rfl rfl ⟨by rw [hRf]; exact (Nat.le_of_ble_eq_true rfl), by rw [hRl]; exact (Nat.le_of_ble_eq_true rfl)⟩ hW rfl hl.1 rfl (Nat.le_of_ble_eq_true rfl) dL_doors_45 ⟨(zc1 (D := 5) g109 (Nat.le_of_ble_eq_true rfl)), (zc1 (D := 30) g110 (Nat.le_of_ble_eq_true rfl))⟩) hW (fun r9 z9 H locs h9 hW => ?_)
              obtain ⟨rfl, e9⟩ := h9
              rw [e9, s_gradeBy_z] at hW
              obtain ⟨CJ56, hCJ56⟩ : ∃ n : Nat, n = cn20 + 0 + 2 + 3 + 0 := ⟨_, rfl⟩
              obtain ⟨SJ56, hSJ56⟩ : ∃ n : Nat, n = sn20 + 0 + 12 + 18 + 0 := ⟨_, rfl⟩
              have hJ56 : ∀ (t0_56 : Int32) (H : Heap) (locs : List Loc) (ls : Array Slot) (cj56 sj56 : Nat), jL_doors_56 x4_20 x5_20 v112 (fun x3_20 x4_20 x5_20 => lL_doors_20 z x2_7 (fun x3_20k x4_20k => wL_median x2_7  z (fun r23 => (r23 < 0 → (jL_doors_91 z x2_7 x3_20k x4_20k r23 Q (fun x2_7 => lL_doors_7 z v1 Q (((zv (s_doorAtRank z v1) [(-13)]) = (-13 : Int32) → (((zv (s_doorAtRank z ((-1 : Int32))) [(-13)]) = (-13 : Int32) → (((zv (s_frameOfDoor z v1) [(-11)]) = (-11 : Int32) → (((zv (s_topic z v1) [(-11)]) = (-11 : Int32) → (((zv (s_examinersOf z v1) [(-11)]) = (-11 : Int32) → (((zv (s_gradesOf z ((-1 : Int32))) [(-11)]) = (-11 : Int32) → (((zv (s_result z v1) [(-11), (-13)]) = (-11 : Int32) → (((zv (s_passes z v1) [(-11)]) = (-11 : Int32) → (((zv (s_wasGranted z v1) [(-11)]) = (-11 : Int32) → (((zv (s_isEntitled z v1) [(-11)]) = (-11 : Int32) → (Q (1 : Int32))) ∧ (¬ (zv (s_isEntitled z v1) [(-11)]) = (-11 : Int32) → (Q (0 : Int32))))) ∧ (¬ (zv (s_wasGranted z v1) [(-11)]) = (-11 : Int32) → (Q (0 : Int32))))) ∧ (¬ (zv (s_passes z v1) [(-11)]) = (-11 : Int32) → (Q (0 : Int32))))) ∧ (¬ (zv (s_result z v1) [(-11), (-13)]) = (-11 : Int32) → (Q (0 : Int32))))) ∧ (¬ (zv (s_gradesOf z ((-1 : Int32))) [(-11)]) = (-11 : Int32) → (Q (0 : Int32))))) ∧ (¬ (zv (s_examinersOf z v1) [(-11)]) = (-11 : Int32) → (Q (0 : Int32))))) ∧ (¬ (zv (s_topic z v1) [(-11)]) = (-11 : Int32) → (Q (0 : Int32))))) ∧ (¬ (zv (s_frameOfDoor z v1) [(-11)]) = (-11 : Int32) → (Q (0 : Int32))))) ∧ (¬ (zv (s_doorAtRank z ((-1 : Int32))) [(-13)]) = (-13 : Int32) → (Q (0 : Int32))))) ∧ (¬ (zv (s_doorAtRank z v1) [(-13)]) = (-13 : Int32) → (Q (0 : Int32)))) n7 x2_7) (0 : Int32))) ∧ (¬ r23 < 0 → ((r23 < (nI (z.1 2)) → (jL_doors_91 z x2_7 x3_20k x4_20k r23 Q (fun x2_7 => lL_doors_7 z v1 Q (((zv (s_doorAtRank z v1) [(-13)]) = (-13 : Int32) → (((zv (s_doorAtRank z ((-1 : Int32))) [(-13)]) = (-13 : Int32) → (((zv (s_frameOfDoor z v1) [(-11)]) = (-11 : Int32) → (((zv (s_topic z v1) [(-11)]) = (-11 : Int32) → (((zv (s_examinersOf z v1) [(-11)]) = (-11 : Int32) → (((zv (s_gradesOf z ((-1 : Int32))) [(-11)]) = (-11 : Int32) → (((zv (s_result z v1) [(-11), (-13)]) = (-11 : Int32) → (((zv (s_passes z v1) [(-11)]) = (-11 : Int32) → (((zv (s_wasGranted z v1) [(-11)]) = (-11 : Int32) → (((zv (s_isEntitled z v1) [(-11)]) = (-11 : Int32) → (Q (1 : Int32))) ∧ (¬ (zv (s_isEntitled z v1) [(-11)]) = (-11 : Int32) → (Q (0 : Int32))))) ∧ (¬ (zv (s_wasGranted z v1) [(-11)]) = (-11 : Int32) → (Q (0 : Int32))))) ∧ (¬ (zv (s_passes z v1) [(-11)]) = (-11 : Int32) → (Q (0 : Int32))))) ∧ (¬ (zv (s_result z v1) [(-11), (-13)]) = (-11 : Int32) → (Q (0 : Int32))))) ∧ (¬ (zv (s_gradesOf z ((-1 : Int32))) [(-11)]) = (-11 : Int32) → (Q (0 : Int32))))) ∧ (¬ (zv (s_examinersOf z v1) [(-11)]) = (-11 : Int32) → (Q (0 : Int32))))) ∧ (¬ (zv (s_topic z v1) [(-11)]) = (-11 : Int32) → (Q (0 : Int32))))) ∧ (¬ (zv (s_frameOfDoor z v1) [(-11)]) = (-11 : Int32) → (Q (0 : Int32))))) ∧ (¬ (zv (s_doorAtRank z ((-1 : Int32))) [(-13)]) = (-13 : Int32) → (Q (0 : Int32))))) ∧ (¬ (zv (s_doorAtRank z v1) [(-13)]) = (-13 : Int32) → (Q (0 : Int32)))) n7 x2_7) (0 : Int32))) ∧ (¬ r23 < (nI (z.1 2)) → (jL_doors_91 z x2_7 x3_20k x4_20k r23 Q (fun x2_7 => lL_doors_7 z v1 Q (((zv (s_doorAtRank z v1) [(-13)]) = (-13 : Int32) → (((zv (s_doorAtRank z ((-1 : Int32))) [(-13)]) = (-13 : Int32) → (((zv (s_frameOfDoor z v1) [(-11)]) = (-11 : Int32) → (((zv (s_topic z v1) [(-11)]) = (-11 : Int32) → (((zv (s_examinersOf z v1) [(-11)]) = (-11 : Int32) → (((zv (s_gradesOf z ((-1 : Int32))) [(-11)]) = (-11 : Int32) → (((zv (s_result z v1) [(-11), (-13)]) = (-11 : Int32) → (((zv (s_passes z v1) [(-11)]) = (-11 : Int32) → (((zv (s_wasGranted z v1) [(-11)]) = (-11 : Int32) → (((zv (s_isEntitled z v1) [(-11)]) = (-11 : Int32) → (Q (1 : Int32))) ∧ (¬ (zv (s_isEntitled z v1) [(-11)]) = (-11 : Int32) → (Q (0 : Int32))))) ∧ (¬ (zv (s_wasGranted z v1) [(-11)]) = (-11 : Int32) → (Q (0 : Int32))))) ∧ (¬ (zv (s_passes z v1) [(-11)]) = (-11 : Int32) → (Q (0 : Int32))))) ∧ (¬ (zv (s_result z v1) [(-11), (-13)]) = (-11 : Int32) → (Q (0 : Int32))))) ∧ (¬ (zv (s_gradesOf z ((-1 : Int32))) [(-11)]) = (-11 : Int32) → (Q (0 : Int32))))) ∧ (¬ (zv (s_examinersOf z v1) [(-11)]) = (-11 : Int32) → (Q (0 : Int32))))) ∧ (¬ (zv (s_topic z v1) [(-11)]) = (-11 : Int32) → (Q (0 : Int32))))) ∧ (¬ (zv (s_frameOfDoor z v1) [(-11)]) = (-11 : Int32) → (Q (0 : Int32))))) ∧ (¬ (zv (s_doorAtRank z ((-1 : Int32))) [(-13)]) = (-13 : Int32) → (Q (0 : Int32))))) ∧ (¬ (zv (s_doorAtRank z v1) [(-13)]) = (-13 : Int32) → (Q (0 : Int32)))) n7 x2_7) (1 : Int32))))))) n20 x3_20 x4_20 x5_20) t0_56 → cj56 ≤ CJ56 → sj56 ≤ SJ56 → zl_Wd g [] z s H locs → lv_has ls 11 [(0, .ref (sw_ad g 0)), (1, .int v1), (2, .int x2_7), (3, .int v112), (5, .int x5_20)] → W p l e R s m args below meth c H locs cj56 sj56 Q0 (F0 m 56 ls [.int t0_56, .int x4_20]) := by
                intro t0_56 H locs ls cj56 sj56 h hcj56 hsj56 hW hl
                unfold jL_doors_56 at h
                have g113 : cj56 + 110 ≤ R.cells := zc8 (x := cn20) (D := 5) (s := 115) (s' := 110) hcj56 hCJ56 g109 (Nat.le_of_ble_eq_true rfl)
                have g114 : cj56 + 0 ≤ Tcn20 := zc8 (x := cn20) (D := 5) (s := 5) (s' := 0) hcj56 hCJ56 g107 (Nat.le_of_ble_eq_true rfl)
                have g115 : sj56 + 672 ≤ R.slots := zc8 (x := sn20) (D := 30) (s := 702) (s' := 672) hsj56 hSJ56 g110 (Nat.le_of_ble_eq_true rfl)
                have g116 : sj56 + 0 ≤ Tsn20 := zc8 (x := sn20) (D := 30) (s := 30) (s' := 0) hsj56 hSJ56 g108 (Nat.le_of_ble_eq_true rfl)
                refine lv_iadd hx hb dL_doors_56 ?_
                refine lv_topi (fun v117 ev117 => ?_)
                replace h := h v117 ev117
                refine lv_istore (lv' := [(4, .int v117), (0, .ref (sw_ad g 0)), (1, .int v1), (2, .int x2_7), (3, .int v112), (5, .int x5_20)]) hx hb dL_doors_57 hl (Nat.le_of_ble_eq_true rfl) rfl (fun ls hl => ?_)
                obtain ⟨v118, ev118⟩ : ∃ z : Int32, z = x5_20 + (1 : Int32) := ⟨_, rfl⟩
                replace h := h v118 ev118
                refine lv_iinc (v := v118) (lv' := [(5, .int v118), (4, .int v117), (0, .ref (sw_ad g 0)), (1, .int v1), (2, .int x2_7), (3, .int v112)]) hx hb dL_doors_59 hl (k := 5) rfl (by rw [ev118]; rfl) (Nat.le_of_ble_eq_true rfl) rfl (fun ls hl => ?_)
                refine lv_goto (tgt := 20) hx hb dL_doors_62 (by decide) ?_
                exact ih20 v112 v117 v118 _ _ _ _ _ h (zc10 (zc1 (D := 0) g114 (Nat.le_of_ble_eq_true rfl)) hTcn20 hcn20) (zc10 (zc1 (D := 0) g116 (Nat.le_of_ble_eq_true rfl)) hTsn20 hsn20) hW (lv_sub hl [2, 3, 4, 5, 1, 0] rfl)
              have g119 : cn20 + 5 ≤ CJ56 := Nat.le_of_eq hCJ56.symm
              have g120 : sn20 + 30 ≤ SJ56 := Nat.le_of_eq hSJ56.symm
              refine lv_if_lt (tgt := 55) hx hb dL_doors_48 (by decide) (fun k121 => ?_) (fun k121 => ?_)
              · replace h := h.1 k121
                refine lv_iconst (v := 0) hx hb dL_doors_55 (by decide) ?_
                exact hJ56 (0 : Int32) _ _ _ _ _ h (zc1 (D := 5) g119 (Nat.le_of_ble_eq_true rfl)) (zc1 (D := 30) g120 (Nat.le_of_ble_eq_true rfl)) hW (lv_sub hl [1, 2, 3, 0, 5] rfl)
              · replace h := h.2 k121
                refine lv_iconst (v := 1) hx hb dL_doors_51 (by decide) ?_
                refine lv_goto (tgt := 56) hx hb dL_doors_52 (by decide) ?_
                exact hJ56 (1 : Int32) _ _ _ _ _ h (zc1 (D := 5) g119 (Nat.le_of_ble_eq_true rfl)) (zc1 (D := 30) g120 (Nat.le_of_ble_eq_true rfl)) hW (lv_sub hl [1, 2, 3, 0, 5] rfl)
        exact key20 7 (0 : Int32) (0 : Int32) (0 : Int32) _ _ _ _ _ h (Nat.le_of_eq hCL20.symm) (Nat.le_of_eq hSL20.symm) hW (lv_sub hl [3, 4, 5, 2, 1, 0] rfl)
  exact key7 9 (0 : Int32) _ _ _ _ _ h (Nat.le_of_eq hCL7.symm) (Nat.le_of_eq hSL7.symm) hW (lv_sub hl [2, 1, 0] rfl)

def jL_examiners_116 (z : zG) (x3_9 : Int32) (x6_23 : Int32) (t0_48 : Int32) (v41 : Int32) (t0_80 : Int32) (v50 : Int32) (Q : Int32 → Prop) (N23 : Int32 → Int32 → Int32 → Prop) (t0_116 : Int32) : Prop :=
  (t0_116 = 0 → (((zv (s_mayJudge z x3_9 x6_23) [(-11)]) = (1 : Int32) → (((zv (s_isNeutral z x3_9 x6_23) [(-11)]) = 0 → (Q (0 : Int32))) ∧ (¬ (zv (s_isNeutral z x3_9 x6_23) [(-11)]) = 0 → ((t0_48 = 0 → ((t0_80 = 0 → ((t0_48 = 0 → (((zv (s_gradeBy z x3_9 x6_23) [(-11), (-13)]) = (-13 : Int32) → (∀ v91 : Int32, v91 = x6_23 + (1 : Int32) → (N23 v41 v50 v91))) ∧ (¬ (zv (s_gradeBy z x3_9 x6_23) [(-11), (-13)]) = (-13 : Int32) → (Q (0 : Int32))))) ∧ (¬ t0_48 = 0 → (∀ v89 : Int32, v89 = x6_23 + (1 : Int32) → (N23 v41 v50 v89))))) ∧ (¬ t0_80 = 0 → ((t0_48 = 0 → (((zv (s_mayJudge z x3_9 x6_23) [(-11)]) = 0 → (Q (0 : Int32))) ∧ (¬ (zv (s_mayJudge z x3_9 x6_23) [(-11)]) = 0 → ((s_examinersOf z x6_23).1 = 0 ∧ (((nI (s_examinersOf z x6_23).2.1) = (3 : Int32) → (Q (0 : Int32))) ∧ (¬ (nI (s_examinersOf z x6_23).2.1) = (3 : Int32) → ((t0_48 = 0 → (((zv (s_gradeBy z x3_9 x6_23) [(-11), (-13)]) = (-13 : Int32) → (∀ v99 : Int32, v99 = x6_23 + (1 : Int32) → (N23 v41 v50 v99))) ∧ (¬ (zv (s_gradeBy z x3_9 x6_23) [(-11), (-13)]) = (-13 : Int32) → (Q (0 : Int32))))) ∧ (¬ t0_48 = 0 → (∀ v97 : Int32, v97 = x6_23 + (1 : Int32) → (N23 v41 v50 v97)))))))))) ∧ (¬ t0_48 = 0 → (Q (0 : Int32))))))) ∧ (¬ t0_48 = 0 → (((zv (s_mayJudge z x3_9 x6_23) [(-11)]) = 0 → (Q (0 : Int32))) ∧ (¬ (zv (s_mayJudge z x3_9 x6_23) [(-11)]) = 0 → ((t0_80 = 0 → ((t0_48 = 0 → (((zv (s_gradeBy z x3_9 x6_23) [(-11), (-13)]) = (-13 : Int32) → (∀ v105 : Int32, v105 = x6_23 + (1 : Int32) → (N23 v41 v50 v105))) ∧ (¬ (zv (s_gradeBy z x3_9 x6_23) [(-11), (-13)]) = (-13 : Int32) → (Q (0 : Int32))))) ∧ (¬ t0_48 = 0 → (∀ v103 : Int32, v103 = x6_23 + (1 : Int32) → (N23 v41 v50 v103))))) ∧ (¬ t0_80 = 0 → ((t0_48 = 0 → (((zv (s_mayJudge z x3_9 x6_23) [(-11)]) = 0 → (Q (0 : Int32))) ∧ (¬ (zv (s_mayJudge z x3_9 x6_23) [(-11)]) = 0 → ((s_examinersOf z x6_23).1 = 0 ∧ (((nI (s_examinersOf z x6_23).2.1) = (3 : Int32) → (Q (0 : Int32))) ∧ (¬ (nI (s_examinersOf z x6_23).2.1) = (3 : Int32) → ((t0_48 = 0 → (((zv (s_gradeBy z x3_9 x6_23) [(-11), (-13)]) = (-13 : Int32) → (∀ v113 : Int32, v113 = x6_23 + (1 : Int32) → (N23 v41 v50 v113))) ∧ (¬ (zv (s_gradeBy z x3_9 x6_23) [(-11), (-13)]) = (-13 : Int32) → (Q (0 : Int32))))) ∧ (¬ t0_48 = 0 → (∀ v111 : Int32, v111 = x6_23 + (1 : Int32) → (N23 v41 v50 v111)))))))))) ∧ (¬ t0_48 = 0 → (Q (0 : Int32))))))))))))) ∧ (¬ (zv (s_mayJudge z x3_9 x6_23) [(-11)]) = (1 : Int32) → ((t0_48 = 0 → ((t0_80 = 0 → ((t0_48 = 0 → (((zv (s_gradeBy z x3_9 x6_23) [(-11), (-13)]) = (-13 : Int32) → (∀ v62 : Int32, v62 = x6_23 + (1 : Int32) → (N23 v41 v50 v62))) ∧ (¬ (zv (s_gradeBy z x3_9 x6_23) [(-11), (-13)]) = (-13 : Int32) → (Q (0 : Int32))))) ∧ (¬ t0_48 = 0 → (∀ v60 : Int32, v60 = x6_23 + (1 : Int32) → (N23 v41 v50 v60))))) ∧ (¬ t0_80 = 0 → ((t0_48 = 0 → (((zv (s_mayJudge z x3_9 x6_23) [(-11)]) = 0 → (Q (0 : Int32))) ∧ (¬ (zv (s_mayJudge z x3_9 x6_23) [(-11)]) = 0 → ((s_examinersOf z x6_23).1 = 0 ∧ (((nI (s_examinersOf z x6_23).2.1) = (3 : Int32) → (Q (0 : Int32))) ∧ (¬ (nI (s_examinersOf z x6_23).2.1) = (3 : Int32) → ((t0_48 = 0 → (((zv (s_gradeBy z x3_9 x6_23) [(-11), (-13)]) = (-13 : Int32) → (∀ v70 : Int32, v70 = x6_23 + (1 : Int32) → (N23 v41 v50 v70))) ∧ (¬ (zv (s_gradeBy z x3_9 x6_23) [(-11), (-13)]) = (-13 : Int32) → (Q (0 : Int32))))) ∧ (¬ t0_48 = 0 → (∀ v68 : Int32, v68 = x6_23 + (1 : Int32) → (N23 v41 v50 v68)))))))))) ∧ (¬ t0_48 = 0 → (Q (0 : Int32))))))) ∧ (¬ t0_48 = 0 → (((zv (s_mayJudge z x3_9 x6_23) [(-11)]) = 0 → (Q (0 : Int32))) ∧ (¬ (zv (s_mayJudge z x3_9 x6_23) [(-11)]) = 0 → ((t0_80 = 0 → ((t0_48 = 0 → (((zv (s_gradeBy z x3_9 x6_23) [(-11), (-13)]) = (-13 : Int32) → (∀ v76 : Int32, v76 = x6_23 + (1 : Int32) → (N23 v41 v50 v76))) ∧ (¬ (zv (s_gradeBy z x3_9 x6_23) [(-11), (-13)]) = (-13 : Int32) → (Q (0 : Int32))))) ∧ (¬ t0_48 = 0 → (∀ v74 : Int32, v74 = x6_23 + (1 : Int32) → (N23 v41 v50 v74))))) ∧ (¬ t0_80 = 0 → ((t0_48 = 0 → (((zv (s_mayJudge z x3_9 x6_23) [(-11)]) = 0 → (Q (0 : Int32))) ∧ (¬ (zv (s_mayJudge z x3_9 x6_23) [(-11)]) = 0 → ((s_examinersOf z x6_23).1 = 0 ∧ (((nI (s_examinersOf z x6_23).2.1) = (3 : Int32) → (Q (0 : Int32))) ∧ (¬ (nI (s_examinersOf z x6_23).2.1) = (3 : Int32) → ((t0_48 = 0 → (((zv (s_gradeBy z x3_9 x6_23) [(-11), (-13)]) = (-13 : Int32) → (∀ v84 : Int32, v84 = x6_23 + (1 : Int32) → (N23 v41 v50 v84))) ∧ (¬ (zv (s_gradeBy z x3_9 x6_23) [(-11), (-13)]) = (-13 : Int32) → (Q (0 : Int32))))) ∧ (¬ t0_48 = 0 → (∀ v82 : Int32, v82 = x6_23 + (1 : Int32) → (N23 v41 v50 v82)))))))))) ∧ (¬ t0_48 = 0 → (Q (0 : Int32))))))))))))) ∧ (¬ t0_116 = 0 → (((zv (s_isNeutral z x3_9 x6_23) [(-11)]) = (1 : Int32) → (Q (0 : Int32))) ∧ (¬ (zv (s_isNeutral z x3_9 x6_23) [(-11)]) = (1 : Int32) → (((zv (s_mayJudge z x3_9 x6_23) [(-11)]) = (1 : Int32) → (((zv (s_isNeutral z x3_9 x6_23) [(-11)]) = 0 → (Q (0 : Int32))) ∧ (¬ (zv (s_isNeutral z x3_9 x6_23) [(-11)]) = 0 → ((t0_48 = 0 → ((t0_80 = 0 → ((t0_48 = 0 → (((zv (s_gradeBy z x3_9 x6_23) [(-11), (-13)]) = (-13 : Int32) → (∀ v150 : Int32, v150 = x6_23 + (1 : Int32) → (N23 v41 v50 v150))) ∧ (¬ (zv (s_gradeBy z x3_9 x6_23) [(-11), (-13)]) = (-13 : Int32) → (Q (0 : Int32))))) ∧ (¬ t0_48 = 0 → (∀ v148 : Int32, v148 = x6_23 + (1 : Int32) → (N23 v41 v50 v148))))) ∧ (¬ t0_80 = 0 → ((t0_48 = 0 → (((zv (s_mayJudge z x3_9 x6_23) [(-11)]) = 0 → (Q (0 : Int32))) ∧ (¬ (zv (s_mayJudge z x3_9 x6_23) [(-11)]) = 0 → ((s_examinersOf z x6_23).1 = 0 ∧ (((nI (s_examinersOf z x6_23).2.1) = (3 : Int32) → (Q (0 : Int32))) ∧ (¬ (nI (s_examinersOf z x6_23).2.1) = (3 : Int32) → ((t0_48 = 0 → (((zv (s_gradeBy z x3_9 x6_23) [(-11), (-13)]) = (-13 : Int32) → (∀ v158 : Int32, v158 = x6_23 + (1 : Int32) → (N23 v41 v50 v158))) ∧ (¬ (zv (s_gradeBy z x3_9 x6_23) [(-11), (-13)]) = (-13 : Int32) → (Q (0 : Int32))))) ∧ (¬ t0_48 = 0 → (∀ v156 : Int32, v156 = x6_23 + (1 : Int32) → (N23 v41 v50 v156)))))))))) ∧ (¬ t0_48 = 0 → (Q (0 : Int32))))))) ∧ (¬ t0_48 = 0 → (((zv (s_mayJudge z x3_9 x6_23) [(-11)]) = 0 → (Q (0 : Int32))) ∧ (¬ (zv (s_mayJudge z x3_9 x6_23) [(-11)]) = 0 → ((t0_80 = 0 → ((t0_48 = 0 → (((zv (s_gradeBy z x3_9 x6_23) [(-11), (-13)]) = (-13 : Int32) → (∀ v164 : Int32, v164 = x6_23 + (1 : Int32) → (N23 v41 v50 v164))) ∧ (¬ (zv (s_gradeBy z x3_9 x6_23) [(-11), (-13)]) = (-13 : Int32) → (Q (0 : Int32))))) ∧ (¬ t0_48 = 0 → (∀ v162 : Int32, v162 = x6_23 + (1 : Int32) → (N23 v41 v50 v162))))) ∧ (¬ t0_80 = 0 → ((t0_48 = 0 → (((zv (s_mayJudge z x3_9 x6_23) [(-11)]) = 0 → (Q (0 : Int32))) ∧ (¬ (zv (s_mayJudge z x3_9 x6_23) [(-11)]) = 0 → ((s_examinersOf z x6_23).1 = 0 ∧ (((nI (s_examinersOf z x6_23).2.1) = (3 : Int32) → (Q (0 : Int32))) ∧ (¬ (nI (s_examinersOf z x6_23).2.1) = (3 : Int32) → ((t0_48 = 0 → (((zv (s_gradeBy z x3_9 x6_23) [(-11), (-13)]) = (-13 : Int32) → (∀ v172 : Int32, v172 = x6_23 + (1 : Int32) → (N23 v41 v50 v172))) ∧ (¬ (zv (s_gradeBy z x3_9 x6_23) [(-11), (-13)]) = (-13 : Int32) → (Q (0 : Int32))))) ∧ (¬ t0_48 = 0 → (∀ v170 : Int32, v170 = x6_23 + (1 : Int32) → (N23 v41 v50 v170)))))))))) ∧ (¬ t0_48 = 0 → (Q (0 : Int32))))))))))))) ∧ (¬ (zv (s_mayJudge z x3_9 x6_23) [(-11)]) = (1 : Int32) → ((t0_48 = 0 → ((t0_80 = 0 → ((t0_48 = 0 → (((zv (s_gradeBy z x3_9 x6_23) [(-11), (-13)]) = (-13 : Int32) → (∀ v121 : Int32, v121 = x6_23 + (1 : Int32) → (N23 v41 v50 v121))) ∧ (¬ (zv (s_gradeBy z x3_9 x6_23) [(-11), (-13)]) = (-13 : Int32) → (Q (0 : Int32))))) ∧ (¬ t0_48 = 0 → (∀ v119 : Int32, v119 = x6_23 + (1 : Int32) → (N23 v41 v50 v119))))) ∧ (¬ t0_80 = 0 → ((t0_48 = 0 → (((zv (s_mayJudge z x3_9 x6_23) [(-11)]) = 0 → (Q (0 : Int32))) ∧ (¬ (zv (s_mayJudge z x3_9 x6_23) [(-11)]) = 0 → ((s_examinersOf z x6_23).1 = 0 ∧ (((nI (s_examinersOf z x6_23).2.1) = (3 : Int32) → (Q (0 : Int32))) ∧ (¬ (nI (s_examinersOf z x6_23).2.1) = (3 : Int32) → ((t0_48 = 0 → (((zv (s_gradeBy z x3_9 x6_23) [(-11), (-13)]) = (-13 : Int32) → (∀ v129 : Int32, v129 = x6_23 + (1 : Int32) → (N23 v41 v50 v129))) ∧ (¬ (zv (s_gradeBy z x3_9 x6_23) [(-11), (-13)]) = (-13 : Int32) → (Q (0 : Int32))))) ∧ (¬ t0_48 = 0 → (∀ v127 : Int32, v127 = x6_23 + (1 : Int32) → (N23 v41 v50 v127)))))))))) ∧ (¬ t0_48 = 0 → (Q (0 : Int32))))))) ∧ (¬ t0_48 = 0 → (((zv (s_mayJudge z x3_9 x6_23) [(-11)]) = 0 → (Q (0 : Int32))) ∧ (¬ (zv (s_mayJudge z x3_9 x6_23) [(-11)]) = 0 → ((t0_80 = 0 → ((t0_48 = 0 → (((zv (s_gradeBy z x3_9 x6_23) [(-11), (-13)]) = (-13 : Int32) → (∀ v135 : Int32, v135 = x6_23 + (1 : Int32) → (N23 v41 v50 v135))) ∧ (¬ (zv (s_gradeBy z x3_9 x6_23) [(-11), (-13)]) = (-13 : Int32) → (Q (0 : Int32))))) ∧ (¬ t0_48 = 0 → (∀ v133 : Int32, v133 = x6_23 + (1 : Int32) → (N23 v41 v50 v133))))) ∧ (¬ t0_80 = 0 → ((t0_48 = 0 → (((zv (s_mayJudge z x3_9 x6_23) [(-11)]) = 0 → (Q (0 : Int32))) ∧ (¬ (zv (s_mayJudge z x3_9 x6_23) [(-11)]) = 0 → ((s_examinersOf z x6_23).1 = 0 ∧ (((nI (s_examinersOf z x6_23).2.1) = (3 : Int32) → (Q (0 : Int32))) ∧ (¬ (nI (s_examinersOf z x6_23).2.1) = (3 : Int32) → ((t0_48 = 0 → (((zv (s_gradeBy z x3_9 x6_23) [(-11), (-13)]) = (-13 : Int32) → (∀ v143 : Int32, v143 = x6_23 + (1 : Int32) → (N23 v41 v50 v143))) ∧ (¬ (zv (s_gradeBy z x3_9 x6_23) [(-11), (-13)]) = (-13 : Int32) → (Q (0 : Int32))))) ∧ (¬ t0_48 = 0 → (∀ v141 : Int32, v141 = x6_23 + (1 : Int32) → (N23 v41 v50 v141)))))))))) ∧ (¬ t0_48 = 0 → (Q (0 : Int32)))))))))))))))
def jL_examiners_94 (z : zG) (x3_9 : Int32) (x5_23 : Int32) (x6_23 : Int32) (t0_48 : Int32) (v41 : Int32) (t0_80 : Int32) (Q : Int32 → Prop) (N23 : Int32 → Int32 → Int32 → Prop) (t0_94 : Int32) : Prop :=
  ∀ v50 : Int32, v50 = (x5_23 + t0_94) → (((zv (s_frameOfExaminer z x3_9) [(-11)]) = (zv (s_frameOfDoor z x6_23) [(-11)]) → (jL_examiners_116 z x3_9 x6_23 t0_48 v41 t0_80 v50 Q N23 (1 : Int32))) ∧ (¬ (zv (s_frameOfExaminer z x3_9) [(-11)]) = (zv (s_frameOfDoor z x6_23) [(-11)]) → (jL_examiners_116 z x3_9 x6_23 t0_48 v41 t0_80 v50 Q N23 (0 : Int32))))
def jL_examiners_80 (z : zG) (x3_9 : Int32) (x5_23 : Int32) (x6_23 : Int32) (t0_48 : Int32) (v41 : Int32) (Q : Int32 → Prop) (N23 : Int32 → Int32 → Int32 → Prop) (t0_80 : Int32) : Prop :=
  (t0_80 = 0 → (jL_examiners_94 z x3_9 x5_23 x6_23 t0_48 v41 t0_80 Q N23 (0 : Int32))) ∧ (¬ t0_80 = 0 → (jL_examiners_94 z x3_9 x5_23 x6_23 t0_48 v41 t0_80 Q N23 (1 : Int32)))
def jL_examiners_62 (z : zG) (x3_9 : Int32) (x4_23 : Int32) (x5_23 : Int32) (x6_23 : Int32) (t0_48 : Int32) (Q : Int32 → Prop) (N23 : Int32 → Int32 → Int32 → Prop) (t0_62 : Int32) : Prop :=
  ∀ v41 : Int32, v41 = (x4_23 + t0_62) → (((zv (s_planned z x6_23) [(-11), (-13)]) = x3_9 → (jL_examiners_80 z x3_9 x5_23 x6_23 t0_48 v41 Q N23 (1 : Int32))) ∧ (¬ (zv (s_planned z x6_23) [(-11), (-13)]) = x3_9 → (jL_examiners_80 z x3_9 x5_23 x6_23 t0_48 v41 Q N23 (0 : Int32))))
def jL_examiners_48 (z : zG) (x3_9 : Int32) (x4_23 : Int32) (x5_23 : Int32) (x6_23 : Int32) (Q : Int32 → Prop) (N23 : Int32 → Int32 → Int32 → Prop) (t0_48 : Int32) : Prop :=
  (t0_48 = 0 → (jL_examiners_62 z x3_9 x4_23 x5_23 x6_23 t0_48 Q N23 (0 : Int32))) ∧ (¬ t0_48 = 0 → (jL_examiners_62 z x3_9 x4_23 x5_23 x6_23 t0_48 Q N23 (1 : Int32)))
def lL_examiners_23 (z : zG) (x3_9 : Int32) (Q : Int32 → Prop) (K23 : Int32 → Int32 → Prop) : Nat → Int32 → Int32 → Int32 → Prop
  | 0, _, _, _ => False
  | n23 + 1, x4_23, x5_23, x6_23 => ((nI (z.1 0)) ≤ x6_23 → (K23 x4_23 x5_23)) ∧ (¬ (nI (z.1 0)) ≤ x6_23 → (((zv (s_isAssigned z x3_9 x6_23) [(-11)]) = (1 : Int32) → (jL_examiners_48 z x3_9 x4_23 x5_23 x6_23 Q (fun x4_23 x5_23 x6_23 => lL_examiners_23 z x3_9 Q K23 n23 x4_23 x5_23 x6_23) (1 : Int32))) ∧ (¬ (zv (s_isAssigned z x3_9 x6_23) [(-11)]) = (1 : Int32) → (jL_examiners_48 z x3_9 x4_23 x5_23 x6_23 Q (fun x4_23 x5_23 x6_23 => lL_examiners_23 z x3_9 Q K23 n23 x4_23 x5_23 x6_23) (0 : Int32)))))
def lL_examiners_9 (z : zG) (v1 : Int32) (Q : Int32 → Prop) (K9 : Int32 → Prop) : Nat → Int32 → Int32 → Prop
  | 0, _, _ => False
  | n9 + 1, x2_9, x3_9 => (v1 ≤ x3_9 → (K9 x2_9)) ∧ (¬ v1 ≤ x3_9 → (lL_examiners_23 z x3_9 Q (fun x4_23k x5_23k => ∀ v24 : Int32, v24 = (x2_9 + x5_23k) → (((zv (s_load z x3_9) [(-11)]) = x4_23k → (((x4_23k + x5_23k) ≤ (4 : Int32) → (∀ v27 : Int32, v27 = x3_9 + (1 : Int32) → ((fun x2_9 x3_9 => lL_examiners_9 z v1 Q K9 n9 x2_9 x3_9) v24 v27))) ∧ (¬ (x4_23k + x5_23k) ≤ (4 : Int32) → (Q (0 : Int32))))) ∧ (¬ (zv (s_load z x3_9) [(-11)]) = x4_23k → (Q (0 : Int32))))) 9 (0 : Int32) (0 : Int32) (0 : Int32)))
def wL_examiners  (z : zG) (Q : Int32 → Prop) : Prop :=
  ∀ v1 : Int32, v1 = (nI (z.1 1)) → (lL_examiners_9 z v1 Q (fun x2_9k => ((nI (zsz z.1)) = x2_9k → (((nI (zsz z.1)) = x2_9k → (((zv (s_frameOfExaminer z v1) [(-11)]) = (-11 : Int32) → (((zv (s_load z v1) [(-11)]) = (-11 : Int32) → (((zv (s_isNeutral z v1 ((0 : Int32))) [(-11)]) = (-11 : Int32) → (((zv (s_isNeutral z ((0 : Int32)) ((-1 : Int32))) [(-11)]) = (-11 : Int32) → (((zv (s_mayJudge z v1 ((0 : Int32))) [(-11)]) = (-11 : Int32) → (((zv (s_isAssigned z ((0 : Int32)) ((nI (z.1 0)))) [(-11)]) = (-11 : Int32) → (((zv (s_gradeBy z v1 ((0 : Int32))) [(-11), (-13)]) = (-11 : Int32) → (((zv (s_planned z ((nI (z.1 0)))) [(-11), (-13)]) = (-11 : Int32) → (((zv (s_planned z ((-1 : Int32))) [(-11), (-13)]) = (-11 : Int32) → (Q (1 : Int32))) ∧ (¬ (zv (s_planned z ((-1 : Int32))) [(-11), (-13)]) = (-11 : Int32) → (Q (0 : Int32))))) ∧ (¬ (zv (s_planned z ((nI (z.1 0)))) [(-11), (-13)]) = (-11 : Int32) → (Q (0 : Int32))))) ∧ (¬ (zv (s_gradeBy z v1 ((0 : Int32))) [(-11), (-13)]) = (-11 : Int32) → (Q (0 : Int32))))) ∧ (¬ (zv (s_isAssigned z ((0 : Int32)) ((nI (z.1 0)))) [(-11)]) = (-11 : Int32) → (Q (0 : Int32))))) ∧ (¬ (zv (s_mayJudge z v1 ((0 : Int32))) [(-11)]) = (-11 : Int32) → (Q (0 : Int32))))) ∧ (¬ (zv (s_isNeutral z ((0 : Int32)) ((-1 : Int32))) [(-11)]) = (-11 : Int32) → (Q (0 : Int32))))) ∧ (¬ (zv (s_isNeutral z v1 ((0 : Int32))) [(-11)]) = (-11 : Int32) → (Q (0 : Int32))))) ∧ (¬ (zv (s_load z v1) [(-11)]) = (-11 : Int32) → (Q (0 : Int32))))) ∧ (¬ (zv (s_frameOfExaminer z v1) [(-11)]) = (-11 : Int32) → (Q (0 : Int32))))) ∧ (¬ (nI (zsz z.1)) = x2_9k → (Q (0 : Int32))))) ∧ (¬ (nI (zsz z.1)) = x2_9k → (Q (0 : Int32)))) 7 (0 : Int32) (0 : Int32))
theorem cs_L_examiners : sw_cS yL_examiners cL_examiners 10 (some .boolean) 1 := ⟨q_603, q_1, q_604, by decide +kernel⟩
set_option maxRecDepth 20000 in
set_option maxHeartbeats 4000000 in
theorem kL_examiners (l : Launch) (hst : l.stackTraces = false) (g : sG)  (z : zG) (Q : Int32 → Prop) (h : wL_examiners  z Q) : Met l yL_examiners (sw_ws yL_examiners cL_examiners 10 (some .boolean)) { frames := 10, cells := 1284, slots := 7704, locals := 183 } (va_Pc [.ref (sw_ad g 0)] (zl_Pr g z)) (va_Qi (fun r z' => Q r ∧ z' = z) (zl_Po g) (sw_A g)) 1284 7704 (sw_A g) := by
  refine zl_met (by decide) (Nat.le_of_ble_eq_true rfl) ?_
  intro p e s m args below meth c ls hx hb hr hts hown hml hlocks hW hl
  have hown : s.vm.findClass RL = some m.cls := hown
  have hl : lv_has ls 10 [(0, .ref (sw_ad g 0))] := hl
  obtain ⟨R, hRe⟩ : ∃ R : Room, R = { frames := 10, cells := 1284, slots := 7704, locals := 183 } := ⟨_, rfl⟩
  rw [← hRe]
  have hRf : R.frames = 10 := by rw [hRe]
  have hRc : R.cells = 1284 := by rw [hRe]
  have hRs : R.slots = 7704 := by rw [hRe]
  have hRl : R.locals = 183 := by rw [hRe]
  clear hRe
  have gc0 : 0 + 1284 ≤ R.cells := by rw [hRc]; exact (Nat.le_of_ble_eq_true rfl)
  have gs0 : 0 + 7704 ≤ R.slots := by rw [hRs]; exact (Nat.le_of_ble_eq_true rfl)
  obtain ⟨Q0, hQ0⟩ : ∃ Q0 : State → Prop, Q0 = MQ below (va_Qi (fun r z' => Q r ∧ z' = z) (zl_Po g) (sw_A g)) args s 1284 7704 (sw_A g) := ⟨_, rfl⟩
  rw [← hQ0]
  generalize hHs : s.heap = H at hW ⊢
  generalize hLo : ([] : List Loc) = locs at hW ⊢
  unfold wL_examiners at h
  refine lv_aload_n hx hb dL_examiners_0 rfl (lv_at hl 0 rfl) ?_
  refine zl_ki (g := g) (rest := []) (zl_runV (g := g) (As := []) (rest := []) hx hb hml hown hts (zD_examinerCount l (zl_re g H.size) z) cv_X6_examinerCount q_491 rfl rfl ⟨by rw [hRf]; exact (Nat.le_of_ble_eq_true rfl), by rw [hRl]; exact (Nat.le_of_ble_eq_true rfl)⟩ hW (Or.inl (Nat.le_of_ble_eq_true rfl)) sl_0 rfl rfl hl.1 rfl (Nat.le_of_ble_eq_true rfl) dL_examiners_1 ⟨(zc1 (D := 0) gc0 (Nat.le_of_ble_eq_true rfl)), (zc1 (D := 0) gs0 (Nat.le_of_ble_eq_true rfl))⟩) hW (fun r9 z9 H locs h9 hW => ?_)
  obtain ⟨rfl, e9⟩ := h9
  rw [e9] at hW
  refine lv_topi (fun v1 ev1 => ?_)
  replace h := h v1 ev1
  refine lv_istore_n (lv' := [(1, .int v1), (0, .ref (sw_ad g 0))]) hx hb dL_examiners_4 rfl hl (Nat.le_of_ble_eq_true rfl) rfl (fun ls hl => ?_)
  refine lv_iconst (v := 0) hx hb dL_examiners_5 (by decide) ?_
  refine lv_istore_n (lv' := [(2, .int (0 : Int32)), (1, .int v1), (0, .ref (sw_ad g 0))]) hx hb dL_examiners_6 rfl hl (Nat.le_of_ble_eq_true rfl) rfl (fun ls hl => ?_)
  refine lv_iconst (v := 0) hx hb dL_examiners_7 (by decide) ?_
  refine lv_istore_n (lv' := [(3, .int (0 : Int32)), (2, .int (0 : Int32)), (1, .int v1), (0, .ref (sw_ad g 0))]) hx hb dL_examiners_8 rfl hl (Nat.le_of_ble_eq_true rfl) rfl (fun ls hl => ?_)
  obtain ⟨CL9, hCL9⟩ : ∃ n : Nat, n = 0 + 0 + 1267 := ⟨_, rfl⟩
  obtain ⟨SL9, hSL9⟩ : ∃ n : Nat, n = 0 + 0 + 7602 := ⟨_, rfl⟩
  have hX9 : ∀ (x2_9k : Int32)  (H : Heap) (locs : List Loc) (ls : Array Slot) (cx9 sx9 : Nat), (((nI (zsz z.1)) = x2_9k → (((nI (zsz z.1)) = x2_9k → (((zv (s_frameOfExaminer z v1) [(-11)]) = (-11 : Int32) → (((zv (s_load z v1) [(-11)]) = (-11 : Int32) → (((zv (s_isNeutral z v1 ((0 : Int32))) [(-11)]) = (-11 : Int32) → (((zv (s_isNeutral z ((0 : Int32)) ((-1 : Int32))) [(-11)]) = (-11 : Int32) → (((zv (s_mayJudge z v1 ((0 : Int32))) [(-11)]) = (-11 : Int32) → (((zv (s_isAssigned z ((0 : Int32)) ((nI (z.1 0)))) [(-11)]) = (-11 : Int32) → (((zv (s_gradeBy z v1 ((0 : Int32))) [(-11), (-13)]) = (-11 : Int32) → (((zv (s_planned z ((nI (z.1 0)))) [(-11), (-13)]) = (-11 : Int32) → (((zv (s_planned z ((-1 : Int32))) [(-11), (-13)]) = (-11 : Int32) → (Q (1 : Int32))) ∧ (¬ (zv (s_planned z ((-1 : Int32))) [(-11), (-13)]) = (-11 : Int32) → (Q (0 : Int32))))) ∧ (¬ (zv (s_planned z ((nI (z.1 0)))) [(-11), (-13)]) = (-11 : Int32) → (Q (0 : Int32))))) ∧ (¬ (zv (s_gradeBy z v1 ((0 : Int32))) [(-11), (-13)]) = (-11 : Int32) → (Q (0 : Int32))))) ∧ (¬ (zv (s_isAssigned z ((0 : Int32)) ((nI (z.1 0)))) [(-11)]) = (-11 : Int32) → (Q (0 : Int32))))) ∧ (¬ (zv (s_mayJudge z v1 ((0 : Int32))) [(-11)]) = (-11 : Int32) → (Q (0 : Int32))))) ∧ (¬ (zv (s_isNeutral z ((0 : Int32)) ((-1 : Int32))) [(-11)]) = (-11 : Int32) → (Q (0 : Int32))))) ∧ (¬ (zv (s_isNeutral z v1 ((0 : Int32))) [(-11)]) = (-11 : Int32) → (Q (0 : Int32))))) ∧ (¬ (zv (s_load z v1) [(-11)]) = (-11 : Int32) → (Q (0 : Int32))))) ∧ (¬ (zv (s_frameOfExaminer z v1) [(-11)]) = (-11 : Int32) → (Q (0 : Int32))))) ∧ (¬ (nI (zsz z.1)) = x2_9k → (Q (0 : Int32))))) ∧ (¬ (nI (zsz z.1)) = x2_9k → (Q (0 : Int32)))) → cx9 ≤ CL9 → sx9 ≤ SL9 → zl_Wd g [] z s H locs → lv_has ls 10 [(0, .ref (sw_ad g 0)), (1, .int v1), (2, .int x2_9k)] → W p l e R s m args below meth c H locs cx9 sx9 Q0 (F0 m 257 ls []) := by
    intro x2_9k  H locs ls cx9 sx9 h hcx9 hsx9 hW hl
    have g2 : cx9 + 17 ≤ R.cells := zc8 (x := 0) (D := 1267) (s := 1284) (s' := 17) hcx9 hCL9 gc0 (Nat.le_of_ble_eq_true rfl)
    have g3 : sx9 + 102 ≤ R.slots := zc8 (x := 0) (D := 7602) (s := 7704) (s' := 102) hsx9 hSL9 gs0 (Nat.le_of_ble_eq_true rfl)
    refine lv_aload_n hx hb dL_examiners_257 rfl (lv_at hl 0 rfl) ?_
    refine zl_ki (g := g) (rest := []) (zl_runV (g := g) (As := []) (rest := []) hx hb hml hown hts (zD_planSize l (zl_re g H.size) z) cv_X6_planSize q_638 rfl rfl ⟨by rw [hRf]; exact (Nat.le_of_ble_eq_true rfl), by rw [hRl]; exact (Nat.le_of_ble_eq_true rfl)⟩ hW (Or.inl (Nat.le_of_ble_eq_true rfl)) sl_0 rfl rfl hl.1 rfl (Nat.le_of_ble_eq_true rfl) dL_examiners_258 ⟨(zc1 (D := 0) g2 (Nat.le_of_ble_eq_true rfl)), (zc1 (D := 0) g3 (Nat.le_of_ble_eq_true rfl))⟩) hW (fun r9 z9 H locs h9 hW => ?_)
    obtain ⟨rfl, e9⟩ := h9
    rw [e9] at hW
    refine lv_iload_n hx hb dL_examiners_261 rfl (lv_at hl 2 rfl) ?_
    refine lv_icmp_ne (tgt := 378) hx hb dL_examiners_262 (by decide) (fun k4 => ?_) (fun k4 => ?_)
    · replace h := h.2 k4
      refine lv_iconst (v := 0) hx hb dL_examiners_378 (by decide) ?_
      subst hQ0
      refine W.widen (k := 1284) (n := 7704) (Nat.le_trans (zc1 (D := 0) g2 (Nat.le_of_ble_eq_true rfl)) (Nat.le_of_eq hRc)) (Nat.le_trans (zc1 (D := 0) g3 (Nat.le_of_ble_eq_true rfl)) (Nat.le_of_eq hRs)) ?_
      exact zl_ri hx hb hr hlocks hW (by decide) ⟨h, rfl⟩ dL_examiners_379
    · replace h := h.1 k4
      refine lv_aload_n hx hb dL_examiners_265 rfl (lv_at hl 0 rfl) ?_
      refine zl_ki (g := g) (rest := []) (zl_runV (g := g) (As := []) (rest := []) hx hb hml hown hts (zD_planSizeBySets l (zl_re g H.size) z) cv_X6_planSizeBySets q_646 rfl rfl ⟨by rw [hRf]; exact (Nat.le_of_ble_eq_true rfl), by rw [hRl]; exact (Nat.le_of_ble_eq_true rfl)⟩ hW (Or.inl (Nat.le_of_ble_eq_true rfl)) sl_0 rfl rfl hl.1 rfl (Nat.le_of_ble_eq_true rfl) dL_examiners_266 ⟨(zc1 (D := 0) g2 (Nat.le_of_ble_eq_true rfl)), (zc1 (D := 0) g3 (Nat.le_of_ble_eq_true rfl))⟩) hW (fun r9 z9 H locs h9 hW => ?_)
      obtain ⟨rfl, e9⟩ := h9
      rw [e9] at hW
      refine lv_iload_n hx hb dL_examiners_269 rfl (lv_at hl 2 rfl) ?_
      refine lv_icmp_ne (tgt := 378) hx hb dL_examiners_270 (by decide) (fun k5 => ?_) (fun k5 => ?_)
      · replace h := h.2 k5
        refine lv_iconst (v := 0) hx hb dL_examiners_378 (by decide) ?_
        subst hQ0
        refine W.widen (k := 1284) (n := 7704) (Nat.le_trans (zc1 (D := 0) g2 (Nat.le_of_ble_eq_true rfl)) (Nat.le_of_eq hRc)) (Nat.le_trans (zc1 (D := 0) g3 (Nat.le_of_ble_eq_true rfl)) (Nat.le_of_eq hRs)) ?_
        exact zl_ri hx hb hr hlocks hW (by decide) ⟨h, rfl⟩ dL_examiners_379
      · replace h := h.1 k5
        refine lv_aload_n hx hb dL_examiners_273 rfl (lv_at hl 0 rfl) ?_
        refine lv_iload_n hx hb dL_examiners_274 rfl (lv_at hl 1 rfl) ?_
        refine zl_ki (g := g) (rest := []) (zl_runH (g := g) (As := [.ref (sw_ad g 0), .int v1]) (rest := []) hx hb hml hown hts (kL_frameOfExaminer l hst (zl_re g H.size) z v1) ch_L_frameOfExaminer q_611 rfl rfl ⟨by rw [hRf]; exact (Nat.le_of_ble_eq_true rfl), by rw [hRl]; exact (Nat.le_of_ble_eq_true rfl)⟩ hW rfl hl.1 rfl (Nat.le_of_ble_eq_true rfl) dL_examiners_275 ⟨(zc1 (D := 1) g2 (Nat.le_of_ble_eq_true rfl)), (zc1 (D := 6) g3 (Nat.le_of_ble_eq_true rfl))⟩) hW (fun r9 z9 H locs h9 hW => ?_)
        obtain ⟨rfl, e9⟩ := h9
        rw [e9, s_frameOfExaminer_z] at hW
        refine lv_bipush (v := -11) hx hb dL_examiners_278 (by decide) ?_
        refine lv_icmp_ne (tgt := 378) hx hb dL_examiners_280 (by decide) (fun k6 => ?_) (fun k6 => ?_)
        · replace h := h.2 k6
          refine lv_iconst (v := 0) hx hb dL_examiners_378 (by decide) ?_
          subst hQ0
          refine W.widen (k := 1284) (n := 7704) (Nat.le_trans (zc1 (D := 1) g2 (Nat.le_of_ble_eq_true rfl)) (Nat.le_of_eq hRc)) (Nat.le_trans (zc1 (D := 6) g3 (Nat.le_of_ble_eq_true rfl)) (Nat.le_of_eq hRs)) ?_
          exact zl_ri hx hb hr hlocks hW (by decide) ⟨h, rfl⟩ dL_examiners_379
        · replace h := h.1 k6
          refine lv_aload_n hx hb dL_examiners_283 rfl (lv_at hl 0 rfl) ?_
          refine lv_iload_n hx hb dL_examiners_284 rfl (lv_at hl 1 rfl) ?_
          refine zl_ki (g := g) (rest := []) (zl_runH (g := g) (As := [.ref (sw_ad g 0), .int v1]) (rest := []) hx hb hml hown hts (kL_load l hst (zl_re g H.size) z v1) ch_L_load q_631 rfl rfl ⟨by rw [hRf]; exact (Nat.le_of_ble_eq_true rfl), by rw [hRl]; exact (Nat.le_of_ble_eq_true rfl)⟩ hW rfl hl.1 rfl (Nat.le_of_ble_eq_true rfl) dL_examiners_285 ⟨(zc1 (D := 2) g2 (Nat.le_of_ble_eq_true rfl)), (zc1 (D := 12) g3 (Nat.le_of_ble_eq_true rfl))⟩) hW (fun r9 z9 H locs h9 hW => ?_)
          obtain ⟨rfl, e9⟩ := h9
          rw [e9, s_load_z] at hW
          refine lv_bipush (v := -11) hx hb dL_examiners_288 (by decide) ?_
          refine lv_icmp_ne (tgt := 378) hx hb dL_examiners_290 (by decide) (fun k7 => ?_) (fun k7 => ?_)
          · replace h := h.2 k7
            refine lv_iconst (v := 0) hx hb dL_examiners_378 (by decide) ?_
            subst hQ0
            refine W.widen (k := 1284) (n := 7704) (Nat.le_trans (zc1 (D := 2) g2 (Nat.le_of_ble_eq_true rfl)) (Nat.le_of_eq hRc)) (Nat.le_trans (zc1 (D := 12) g3 (Nat.le_of_ble_eq_true rfl)) (Nat.le_of_eq hRs)) ?_
            exact zl_ri hx hb hr hlocks hW (by decide) ⟨h, rfl⟩ dL_examiners_379
          · replace h := h.1 k7
            refine lv_aload_n hx hb dL_examiners_293 rfl (lv_at hl 0 rfl) ?_
            refine lv_iload_n hx hb dL_examiners_294 rfl (lv_at hl 1 rfl) ?_
            refine lv_iconst (v := 0) hx hb dL_examiners_295 (by decide) ?_
            refine zl_ki (g := g) (rest := []) (zl_runH (g := g) (As := [.ref (sw_ad g 0), .int v1, .int (0 : Int32)]) (rest := []) hx hb hml hown hts (kL_isNeutral l hst (zl_re g H.size) z v1 ((0 : Int32))) ch_L_isNeutral q_617 rfl rfl ⟨by rw [hRf]; exact (Nat.le_of_ble_eq_true rfl), by rw [hRl]; exact (Nat.le_of_ble_eq_true rfl)⟩ hW rfl hl.1 rfl (Nat.le_of_ble_eq_true rfl) dL_examiners_296 ⟨(zc1 (D := 4) g2 (Nat.le_of_ble_eq_true rfl)), (zc1 (D := 24) g3 (Nat.le_of_ble_eq_true rfl))⟩) hW (fun r9 z9 H locs h9 hW => ?_)
            obtain ⟨rfl, e9⟩ := h9
            rw [e9, s_isNeutral_z] at hW
            refine lv_bipush (v := -11) hx hb dL_examiners_299 (by decide) ?_
            refine lv_icmp_ne (tgt := 378) hx hb dL_examiners_301 (by decide) (fun k8 => ?_) (fun k8 => ?_)
            · replace h := h.2 k8
              refine lv_iconst (v := 0) hx hb dL_examiners_378 (by decide) ?_
              subst hQ0
              refine W.widen (k := 1284) (n := 7704) (Nat.le_trans (zc1 (D := 4) g2 (Nat.le_of_ble_eq_true rfl)) (Nat.le_of_eq hRc)) (Nat.le_trans (zc1 (D := 24) g3 (Nat.le_of_ble_eq_true rfl)) (Nat.le_of_eq hRs)) ?_
              exact zl_ri hx hb hr hlocks hW (by decide) ⟨h, rfl⟩ dL_examiners_379
            · replace h := h.1 k8
              refine lv_aload_n hx hb dL_examiners_304 rfl (lv_at hl 0 rfl) ?_
              refine lv_iconst (v := 0) hx hb dL_examiners_305 (by decide) ?_
              refine lv_iconst (v := -1) hx hb dL_examiners_306 (by decide) ?_
              refine zl_ki (g := g) (rest := []) (zl_runH (g := g) (As := [.ref (sw_ad g 0), .int (0 : Int32), .int (-1 : Int32)]) (rest := []) hx hb hml hown hts (kL_isNeutral l hst (zl_re g H.size) z ((0 : Int32)) ((-1 : Int32))) ch_L_isNeutral q_617 rfl rfl ⟨by rw [hRf]; exact (Nat.le_of_ble_eq_true rfl), by rw [hRl]; exact (Nat.le_of_ble_eq_true rfl)⟩ hW rfl hl.1 rfl (Nat.le_of_ble_eq_true rfl) dL_examiners_307 ⟨(zc1 (D := 6) g2 (Nat.le_of_ble_eq_true rfl)), (zc1 (D := 36) g3 (Nat.le_of_ble_eq_true rfl))⟩) hW (fun r9 z9 H locs h9 hW => ?_)
              obtain ⟨rfl, e9⟩ := h9
              rw [e9, s_isNeutral_z] at hW
              refine lv_bipush (v := -11) hx hb dL_examiners_310 (by decide) ?_
              refine lv_icmp_ne (tgt := 378) hx hb dL_examiners_312 (by decide) (fun k9 => ?_) (fun k9 => ?_)
              · replace h := h.2 k9
                refine lv_iconst (v := 0) hx hb dL_examiners_378 (by decide) ?_
                subst hQ0
                refine W.widen (k := 1284) (n := 7704) (Nat.le_trans (zc1 (D := 6) g2 (Nat.le_of_ble_eq_true rfl)) (Nat.le_of_eq hRc)) (Nat.le_trans (zc1 (D := 36) g3 (Nat.le_of_ble_eq_true rfl)) (Nat.le_of_eq hRs)) ?_
                exact zl_ri hx hb hr hlocks hW (by decide) ⟨h, rfl⟩ dL_examiners_379
              · replace h := h.1 k9
                refine lv_aload_n hx hb dL_examiners_315 rfl (lv_at hl 0 rfl) ?_
                refine lv_iload_n hx hb dL_examiners_316 rfl (lv_at hl 1 rfl) ?_
                refine lv_iconst (v := 0) hx hb dL_examiners_317 (by decide) ?_
                refine zl_ki (g := g) (rest := []) (zl_runH (g := g) (As := [.ref (sw_ad g 0), .int v1, .int (0 : Int32)]) (rest := []) hx hb hml hown hts (kL_mayJudge l hst (zl_re g H.size) z v1 ((0 : Int32))) ch_L_mayJudge q_624 rfl rfl ⟨by rw [hRf]; exact (Nat.le_of_ble_eq_true rfl), by rw [hRl]; exact (Nat.le_of_ble_eq_true rfl)⟩ hW rfl hl.1 rfl (Nat.le_of_ble_eq_true rfl) dL_examiners_318 ⟨(zc1 (D := 8) g2 (Nat.le_of_ble_eq_true rfl)), (zc1 (D := 48) g3 (Nat.le_of_ble_eq_true rfl))⟩) hW (fun r9 z9 H locs h9 hW => ?_)
                obtain ⟨rfl, e9⟩ := h9
                rw [e9, s_mayJudge_z] at hW
                refine lv_bipush (v := -11) hx hb dL_examiners_321 (by decide) ?_
                refine lv_icmp_ne (tgt := 378) hx hb dL_examiners_323 (by decide) (fun k10 => ?_) (fun k10 => ?_)
                · replace h := h.2 k10
                  refine lv_iconst (v := 0) hx hb dL_examiners_378 (by decide) ?_
                  subst hQ0
                  refine W.widen (k := 1284) (n := 7704) (Nat.le_trans (zc1 (D := 8) g2 (Nat.le_of_ble_eq_true rfl)) (Nat.le_of_eq hRc)) (Nat.le_trans (zc1 (D := 48) g3 (Nat.le_of_ble_eq_true rfl)) (Nat.le_of_eq hRs)) ?_
                  exact zl_ri hx hb hr hlocks hW (by decide) ⟨h, rfl⟩ dL_examiners_379
                · replace h := h.1 k10
                  refine lv_aload_n hx hb dL_examiners_326 rfl (lv_at hl 0 rfl) ?_
                  refine lv_iconst (v := 0) hx hb dL_examiners_327 (by decide) ?_
                  refine lv_aload_n hx hb dL_examiners_328 rfl (lv_at hl 0 rfl) ?_
                  refine zl_ki (g := g) (rest := [.int (0 : Int32), .ref (sw_ad g 0)]) (zl_runV (g := g) (As := []) (rest := [.int (0 : Int32), .ref (sw_ad g 0)]) hx hb hml hown hts (zD_doorCount l (zl_re g H.size) z) cv_X6_doorCount q_487 rfl rfl ⟨by rw [hRf]; exact (Nat.le_of_ble_eq_true rfl), by rw [hRl]; exact (Nat.le_of_ble_eq_true rfl)⟩ hW (Or.inl (Nat.le_of_ble_eq_true rfl)) sl_0 rfl rfl hl.1 rfl (Nat.le_of_ble_eq_true rfl) dL_examiners_329 ⟨(zc1 (D := 8) g2 (Nat.le_of_ble_eq_true rfl)), (zc1 (D := 48) g3 (Nat.le_of_ble_eq_true rfl))⟩) hW (fun r9 z9 H locs h9 hW => ?_)
                  obtain ⟨rfl, e9⟩ := h9
                  rw [e9] at hW
                  refine zl_ki (g := g) (rest := []) (zl_runH (g := g) (As := [.ref (sw_ad g 0), .int (0 : Int32), .int (nI (z.1 0))]) (rest := []) hx hb hml hown hts (kL_isAssigned l hst (zl_re g H.size) z ((0 : Int32)) ((nI (z.1 0)))) ch_L_isAssigned q_495 rfl rfl ⟨by rw [hRf]; exact (Nat.le_of_ble_eq_true rfl), by rw [hRl]; exact (Nat.le_of_ble_eq_true rfl)⟩ hW rfl hl.1 rfl (Nat.le_of_ble_eq_true rfl) dL_examiners_332 ⟨(zc1 (D := 10) g2 (Nat.le_of_ble_eq_true rfl)), (zc1 (D := 60) g3 (Nat.le_of_ble_eq_true rfl))⟩) hW (fun r9 z9 H locs h9 hW => ?_)
                  obtain ⟨rfl, e9⟩ := h9
                  rw [e9, s_isAssigned_z] at hW
                  refine lv_bipush (v := -11) hx hb dL_examiners_335 (by decide) ?_
                  refine lv_icmp_ne (tgt := 378) hx hb dL_examiners_337 (by decide) (fun k11 => ?_) (fun k11 => ?_)
                  · replace h := h.2 k11
                    refine lv_iconst (v := 0) hx hb dL_examiners_378 (by decide) ?_
                    subst hQ0
                    refine W.widen (k := 1284) (n := 7704) (Nat.le_trans (zc1 (D := 10) g2 (Nat.le_of_ble_eq_true rfl)) (Nat.le_of_eq hRc)) (Nat.le_trans (zc1 (D := 60) g3 (Nat.le_of_ble_eq_true rfl)) (Nat.le_of_eq hRs)) ?_
                    exact zl_ri hx hb hr hlocks hW (by decide) ⟨h, rfl⟩ dL_examiners_379
                  · replace h := h.1 k11
                    refine lv_aload_n hx hb dL_examiners_340 rfl (lv_at hl 0 rfl) ?_
                    refine lv_iload_n hx hb dL_examiners_341 rfl (lv_at hl 1 rfl) ?_
                    refine lv_iconst (v := 0) hx hb dL_examiners_342 (by decide) ?_
                    refine zl_ki (g := g) (rest := []) (zl_runH (g := g) (As := [.ref (sw_ad g 0), .int v1, .int (0 : Int32)]) (rest := []) hx hb hml hown hts (kL_gradeBy l hst (zl_re g H.size) z v1 ((0 : Int32))) ch_L_gradeBy q_513 rfl rfl ⟨by rw [hRf]; exact (Nat.le_of_ble_eq_true rfl), by rw [hRl]; exact (Nat.le_of_ble_eq_true rfl)⟩ hW rfl hl.1 rfl (Nat.le_of_ble_eq_true rfl) dL_examiners_343 ⟨(zc1 (D := 13) g2 (Nat.le_of_ble_eq_true rfl)), (zc1 (D := 78) g3 (Nat.le_of_ble_eq_true rfl))⟩) hW (fun r9 z9 H locs h9 hW => ?_)
                    obtain ⟨rfl, e9⟩ := h9
                    rw [e9, s_gradeBy_z] at hW
                    refine lv_bipush (v := -11) hx hb dL_examiners_346 (by decide) ?_
                    refine lv_icmp_ne (tgt := 378) hx hb dL_examiners_348 (by decide) (fun k12 => ?_) (fun k12 => ?_)
                    · replace h := h.2 k12
                      refine lv_iconst (v := 0) hx hb dL_examiners_378 (by decide) ?_
                      subst hQ0
                      refine W.widen (k := 1284) (n := 7704) (Nat.le_trans (zc1 (D := 13) g2 (Nat.le_of_ble_eq_true rfl)) (Nat.le_of_eq hRc)) (Nat.le_trans (zc1 (D := 78) g3 (Nat.le_of_ble_eq_true rfl)) (Nat.le_of_eq hRs)) ?_
                      exact zl_ri hx hb hr hlocks hW (by decide) ⟨h, rfl⟩ dL_examiners_379
                    · replace h := h.1 k12
                      refine lv_aload_n hx hb dL_examiners_351 rfl (lv_at hl 0 rfl) ?_
                      refine lv_aload_n hx hb dL_examiners_352 rfl (lv_at hl 0 rfl) ?_
                      refine zl_ki (g := g) (rest := [.ref (sw_ad g 0)]) (zl_runV (g := g) (As := []) (rest := [.ref (sw_ad g 0)]) hx hb hml hown hts (zD_doorCount l (zl_re g H.size) z) cv_X6_doorCount q_487 rfl rfl ⟨by rw [hRf]; exact (Nat.le_of_ble_eq_true rfl), by rw [hRl]; exact (Nat.le_of_ble_eq_true rfl)⟩ hW (Or.inl (Nat.le_of_ble_eq_true rfl)) sl_0 rfl rfl hl.1 rfl (Nat.le_of_ble_eq_true rfl) dL_examiners_353 ⟨(zc1 (D := 13) g2 (Nat.le_of_ble_eq_true rfl)), (zc1 (D := 78) g3 (Nat.le_of_ble_eq_true rfl))⟩) hW (fun r9 z9 H locs h9 hW => ?_)
                      obtain ⟨rfl, e9⟩ := h9
                      rw [e9] at hW
                      refine zl_ki (g := g) (rest := []) (zl_runH (g := g) (As := [.ref (sw_ad g 0), .int (nI (z.1 0))]) (rest := []) hx hb hml hown hts (kL_planned l hst (zl_re g H.size) z ((nI (z.1 0)))) ch_L_planned q_605 rfl rfl ⟨by rw [hRf]; exact (Nat.le_of_ble_eq_true rfl), by rw [hRl]; exact (Nat.le_of_ble_eq_true rfl)⟩ hW rfl hl.1 rfl (Nat.le_of_ble_eq_true rfl) dL_examiners_356 ⟨(zc1 (D := 15) g2 (Nat.le_of_ble_eq_true rfl)), (zc1 (D := 90) g3 (Nat.le_of_ble_eq_true rfl))⟩) hW (fun r9 z9 H locs h9 hW => ?_)
                      obtain ⟨rfl, e9⟩ := h9
                      rw [e9, s_planned_z] at hW
                      refine lv_bipush (v := -11) hx hb dL_examiners_359 (by decide) ?_
                      refine lv_icmp_ne (tgt := 378) hx hb dL_examiners_361 (by decide) (fun k13 => ?_) (fun k13 => ?_)
                      · replace h := h.2 k13
                        refine lv_iconst (v := 0) hx hb dL_examiners_378 (by decide) ?_
                        subst hQ0
                        refine W.widen (k := 1284) (n := 7704) (Nat.le_trans (zc1 (D := 15) g2 (Nat.le_of_ble_eq_true rfl)) (Nat.le_of_eq hRc)) (Nat.le_trans (zc1 (D := 90) g3 (Nat.le_of_ble_eq_true rfl)) (Nat.le_of_eq hRs)) ?_
                        exact zl_ri hx hb hr hlocks hW (by decide) ⟨h, rfl⟩ dL_examiners_379
                      · replace h := h.1 k13
                        refine lv_aload_n hx hb dL_examiners_364 rfl (lv_at hl 0 rfl) ?_
                        refine lv_iconst (v := -1) hx hb dL_examiners_365 (by decide) ?_
                        refine zl_ki (g := g) (rest := []) (zl_runH (g := g) (As := [.ref (sw_ad g 0), .int (-1 : Int32)]) (rest := []) hx hb hml hown hts (kL_planned l hst (zl_re g H.size) z ((-1 : Int32))) ch_L_planned q_605 rfl rfl ⟨by rw [hRf]; exact (Nat.le_of_ble_eq_true rfl), by rw [hRl]; exact (Nat.le_of_ble_eq_true rfl)⟩ hW rfl hl.1 rfl (Nat.le_of_ble_eq_true rfl) dL_examiners_366 ⟨(zc1 (D := 17) g2 (Nat.le_of_ble_eq_true rfl)), (zc1 (D := 102) g3 (Nat.le_of_ble_eq_true rfl))⟩) hW (fun r9 z9 H locs h9 hW => ?_)
                        obtain ⟨rfl, e9⟩ := h9
                        rw [e9, s_planned_z] at hW
                        refine lv_bipush (v := -11) hx hb dL_examiners_369 (by decide) ?_
                        refine lv_icmp_ne (tgt := 378) hx hb dL_examiners_371 (by decide) (fun k14 => ?_) (fun k14 => ?_)
                        · replace h := h.2 k14
                          refine lv_iconst (v := 0) hx hb dL_examiners_378 (by decide) ?_
                          subst hQ0
                          refine W.widen (k := 1284) (n := 7704) (Nat.le_trans (zc1 (D := 17) g2 (Nat.le_of_ble_eq_true rfl)) (Nat.le_of_eq hRc)) (Nat.le_trans (zc1 (D := 102) g3 (Nat.le_of_ble_eq_true rfl)) (Nat.le_of_eq hRs)) ?_
                          exact zl_ri hx hb hr hlocks hW (by decide) ⟨h, rfl⟩ dL_examiners_379
                        · replace h := h.1 k14
                          refine lv_iconst (v := 1) hx hb dL_examiners_374 (by decide) ?_
                          refine lv_goto (tgt := 379) hx hb dL_examiners_375 (by decide) ?_
                          subst hQ0
                          refine W.widen (k := 1284) (n := 7704) (Nat.le_trans (zc1 (D := 17) g2 (Nat.le_of_ble_eq_true rfl)) (Nat.le_of_eq hRc)) (Nat.le_trans (zc1 (D := 102) g3 (Nat.le_of_ble_eq_true rfl)) (Nat.le_of_eq hRs)) ?_
                          exact zl_ri hx hb hr hlocks hW (by decide) ⟨h, rfl⟩ dL_examiners_379
  have key9 : ∀ (n9 : Nat) (x2_9 : Int32) (x3_9 : Int32)  (H : Heap) (locs : List Loc) (ls : Array Slot) (cn9 sn9 : Nat), lL_examiners_9 z v1 Q (fun x2_9k => ((nI (zsz z.1)) = x2_9k → (((nI (zsz z.1)) = x2_9k → (((zv (s_frameOfExaminer z v1) [(-11)]) = (-11 : Int32) → (((zv (s_load z v1) [(-11)]) = (-11 : Int32) → (((zv (s_isNeutral z v1 ((0 : Int32))) [(-11)]) = (-11 : Int32) → (((zv (s_isNeutral z ((0 : Int32)) ((-1 : Int32))) [(-11)]) = (-11 : Int32) → (((zv (s_mayJudge z v1 ((0 : Int32))) [(-11)]) = (-11 : Int32) → (((zv (s_isAssigned z ((0 : Int32)) ((nI (z.1 0)))) [(-11)]) = (-11 : Int32) → (((zv (s_gradeBy z v1 ((0 : Int32))) [(-11), (-13)]) = (-11 : Int32) → (((zv (s_planned z ((nI (z.1 0)))) [(-11), (-13)]) = (-11 : Int32) → (((zv (s_planned z ((-1 : Int32))) [(-11), (-13)]) = (-11 : Int32) → (Q (1 : Int32))) ∧ (¬ (zv (s_planned z ((-1 : Int32))) [(-11), (-13)]) = (-11 : Int32) → (Q (0 : Int32))))) ∧ (¬ (zv (s_planned z ((nI (z.1 0)))) [(-11), (-13)]) = (-11 : Int32) → (Q (0 : Int32))))) ∧ (¬ (zv (s_gradeBy z v1 ((0 : Int32))) [(-11), (-13)]) = (-11 : Int32) → (Q (0 : Int32))))) ∧ (¬ (zv (s_isAssigned z ((0 : Int32)) ((nI (z.1 0)))) [(-11)]) = (-11 : Int32) → (Q (0 : Int32))))) ∧ (¬ (zv (s_mayJudge z v1 ((0 : Int32))) [(-11)]) = (-11 : Int32) → (Q (0 : Int32))))) ∧ (¬ (zv (s_isNeutral z ((0 : Int32)) ((-1 : Int32))) [(-11)]) = (-11 : Int32) → (Q (0 : Int32))))) ∧ (¬ (zv (s_isNeutral z v1 ((0 : Int32))) [(-11)]) = (-11 : Int32) → (Q (0 : Int32))))) ∧ (¬ (zv (s_load z v1) [(-11)]) = (-11 : Int32) → (Q (0 : Int32))))) ∧ (¬ (zv (s_frameOfExaminer z v1) [(-11)]) = (-11 : Int32) → (Q (0 : Int32))))) ∧ (¬ (nI (zsz z.1)) = x2_9k → (Q (0 : Int32))))) ∧ (¬ (nI (zsz z.1)) = x2_9k → (Q (0 : Int32)))) n9 x2_9 x3_9 → cn9 + n9 * 181 ≤ CL9 → sn9 + n9 * 1086 ≤ SL9 → zl_Wd g [] z s H locs → lv_has ls 10 [(0, .ref (sw_ad g 0)), (1, .int v1), (2, .int x2_9), (3, .int x3_9)] → W p l e R s m args below meth c H locs cn9 sn9 Q0 (F0 m 9 ls []) := by
    intro n9
    induction n9 with
    | zero =>
      intro x2_9 x3_9  H locs ls cn9 sn9 h
      exact False.elim h
    | succ n9 ih9 =>
      intro x2_9 x3_9  H locs ls cn9 sn9 h hcn9 hsn9 hW hl
      rw [lL_examiners_9.eq_2] at h
      obtain ⟨Tcn9, hTcn9⟩ : ∃ n : Nat, n = cn9 + 181 := ⟨_, rfl⟩
      obtain ⟨Tsn9, hTsn9⟩ : ∃ n : Nat, n = sn9 + 1086 := ⟨_, rfl⟩
      have g15 : cn9 + 181 ≤ Tcn9 := Nat.le_of_eq hTcn9.symm
      have g16 : sn9 + 1086 ≤ Tsn9 := Nat.le_of_eq hTsn9.symm
      have g17 : cn9 + 198 ≤ R.cells := zc9 (x := 0) (D := 1267) (s := 1284) (t := 198) hcn9 hCL9 gc0 (Nat.le_of_ble_eq_true rfl)
      have g18 : sn9 + 1188 ≤ R.slots := zc9 (x := 0) (D := 7602) (s := 7704) (t := 1188) hsn9 hSL9 gs0 (Nat.le_of_ble_eq_true rfl)
      refine lv_iload_n hx hb dL_examiners_9 rfl (lv_at hl 3 rfl) ?_
      refine lv_iload_n hx hb dL_examiners_10 rfl (lv_at hl 1 rfl) ?_
      refine lv_icmp_ge (tgt := 257) hx hb dL_examiners_11 (by decide) (fun k19 => ?_) (fun k19 => ?_)
      · replace h := h.1 k19
        exact hX9 x2_9 _ _ _ _ _ h (zc11 (zc1 (D := 0) g15 (Nat.le_of_ble_eq_true rfl)) hTcn9 hcn9) (zc11 (zc1 (D := 0) g16 (Nat.le_of_ble_eq_true rfl)) hTsn9 hsn9) hW (lv_sub hl [0, 1, 2] rfl)
      · replace h := h.2 k19
        refine lv_iconst (v := 0) hx hb dL_examiners_14 (by decide) ?_
        refine lv_istore (lv' := [(4, .int (0 : Int32)), (0, .ref (sw_ad g 0)), (1, .int v1), (2, .int x2_9), (3, .int x3_9)]) hx hb dL_examiners_15 hl (Nat.le_of_ble_eq_true rfl) rfl (fun ls hl => ?_)
        refine lv_iconst (v := 0) hx hb dL_examiners_17 (by decide) ?_
        refine lv_istore (lv' := [(5, .int (0 : Int32)), (4, .int (0 : Int32)), (0, .ref (sw_ad g 0)), (1, .int v1), (2, .int x2_9), (3, .int x3_9)]) hx hb dL_examiners_18 hl (Nat.le_of_ble_eq_true rfl) rfl (fun ls hl => ?_)
        refine lv_iconst (v := 0) hx hb dL_examiners_20 (by decide) ?_
        refine lv_istore (lv' := [(6, .int (0 : Int32)), (5, .int (0 : Int32)), (4, .int (0 : Int32)), (0, .ref (sw_ad g 0)), (1, .int v1), (2, .int x2_9), (3, .int x3_9)]) hx hb dL_examiners_21 hl (Nat.le_of_ble_eq_true rfl) rfl (fun ls hl => ?_)
        obtain ⟨CL23, hCL23⟩ : ∃ n : Nat, n = cn9 + 180 := ⟨_, rfl⟩
        obtain ⟨SL23, hSL23⟩ : ∃ n : Nat, n = sn9 + 1080 := ⟨_, rfl⟩
        have hX23 : ∀ (x4_23k : Int32) (x5_23k : Int32)  (H : Heap) (locs : List Loc) (ls : Array Slot) (cx23 sx23 : Nat), (∀ v24 : Int32, v24 = (x2_9 + x5_23k) → (((zv (s_load z x3_9) [(-11)]) = x4_23k → (((x4_23k + x5_23k) ≤ (4 : Int32) → (∀ v27 : Int32, v27 = x3_9 + (1 : Int32) → ((fun x2_9 x3_9 => lL_examiners_9 z v1 Q (fun x2_9k => ((nI (zsz z.1)) = x2_9k → (((nI (zsz z.1)) = x2_9k → (((zv (s_frameOfExaminer z v1) [(-11)]) = (-11 : Int32) → (((zv (s_load z v1) [(-11)]) = (-11 : Int32) → (((zv (s_isNeutral z v1 ((0 : Int32))) [(-11)]) = (-11 : Int32) → (((zv (s_isNeutral z ((0 : Int32)) ((-1 : Int32))) [(-11)]) = (-11 : Int32) → (((zv (s_mayJudge z v1 ((0 : Int32))) [(-11)]) = (-11 : Int32) → (((zv (s_isAssigned z ((0 : Int32)) ((nI (z.1 0)))) [(-11)]) = (-11 : Int32) → (((zv (s_gradeBy z v1 ((0 : Int32))) [(-11), (-13)]) = (-11 : Int32) → (((zv (s_planned z ((nI (z.1 0)))) [(-11), (-13)]) = (-11 : Int32) → (((zv (s_planned z ((-1 : Int32))) [(-11), (-13)]) = (-11 : Int32) → (Q (1 : Int32))) ∧ (¬ (zv (s_planned z ((-1 : Int32))) [(-11), (-13)]) = (-11 : Int32) → (Q (0 : Int32))))) ∧ (¬ (zv (s_planned z ((nI (z.1 0)))) [(-11), (-13)]) = (-11 : Int32) → (Q (0 : Int32))))) ∧ (¬ (zv (s_gradeBy z v1 ((0 : Int32))) [(-11), (-13)]) = (-11 : Int32) → (Q (0 : Int32))))) ∧ (¬ (zv (s_isAssigned z ((0 : Int32)) ((nI (z.1 0)))) [(-11)]) = (-11 : Int32) → (Q (0 : Int32))))) ∧ (¬ (zv (s_mayJudge z v1 ((0 : Int32))) [(-11)]) = (-11 : Int32) → (Q (0 : Int32))))) ∧ (¬ (zv (s_isNeutral z ((0 : Int32)) ((-1 : Int32))) [(-11)]) = (-11 : Int32) → (Q (0 : Int32))))) ∧ (¬ (zv (s_isNeutral z v1 ((0 : Int32))) [(-11)]) = (-11 : Int32) → (Q (0 : Int32))))) ∧ (¬ (zv (s_load z v1) [(-11)]) = (-11 : Int32) → (Q (0 : Int32))))) ∧ (¬ (zv (s_frameOfExaminer z v1) [(-11)]) = (-11 : Int32) → (Q (0 : Int32))))) ∧ (¬ (nI (zsz z.1)) = x2_9k → (Q (0 : Int32))))) ∧ (¬ (nI (zsz z.1)) = x2_9k → (Q (0 : Int32)))) n9 x2_9 x3_9) v24 v27))) ∧ (¬ (x4_23k + x5_23k) ≤ (4 : Int32) → (Q (0 : Int32))))) ∧ (¬ (zv (s_load z x3_9) [(-11)]) = x4_23k → (Q (0 : Int32))))) → cx23 ≤ CL23 → sx23 ≤ SL23 → zl_Wd g [] z s H locs → lv_has ls 10 [(0, .ref (sw_ad g 0)), (1, .int v1), (2, .int x2_9), (3, .int x3_9), (4, .int x4_23k), (5, .int x5_23k)] → W p l e R s m args below meth c H locs cx23 sx23 Q0 (F0 m 225 ls []) := by
          intro x4_23k x5_23k  H locs ls cx23 sx23 h hcx23 hsx23 hW hl
          have g20 : cx23 + 18 ≤ R.cells := zc8 (x := cn9) (D := 180) (s := 198) (s' := 18) hcx23 hCL23 g17 (Nat.le_of_ble_eq_true rfl)
          have g21 : cx23 + 1 ≤ Tcn9 := zc8 (x := cn9) (D := 180) (s := 181) (s' := 1) hcx23 hCL23 g15 (Nat.le_of_ble_eq_true rfl)
          have g22 : sx23 + 108 ≤ R.slots := zc8 (x := sn9) (D := 1080) (s := 1188) (s' := 108) hsx23 hSL23 g18 (Nat.le_of_ble_eq_true rfl)
          have g23 : sx23 + 6 ≤ Tsn9 := zc8 (x := sn9) (D := 1080) (s := 1086) (s' := 6) hsx23 hSL23 g16 (Nat.le_of_ble_eq_true rfl)
          refine lv_iload_n hx hb dL_examiners_225 rfl (lv_at hl 2 rfl) ?_
          refine lv_iload hx hb dL_examiners_226 (lv_at hl 5 rfl) ?_
          refine lv_iadd hx hb dL_examiners_228 ?_
          refine lv_topi (fun v24 ev24 => ?_)
          replace h := h v24 ev24
          refine lv_istore_n (lv' := [(2, .int v24), (0, .ref (sw_ad g 0)), (1, .int v1), (3, .int x3_9), (4, .int x4_23k), (5, .int x5_23k)]) hx hb dL_examiners_229 rfl hl (Nat.le_of_ble_eq_true rfl) rfl (fun ls hl => ?_)
          refine lv_aload_n hx hb dL_examiners_230 rfl (lv_at hl 1 rfl) ?_
          refine lv_iload_n hx hb dL_examiners_231 rfl (lv_at hl 3 rfl) ?_
          refine zl_ki (g := g) (rest := []) (zl_runH (g := g) (As := [.ref (sw_ad g 0), .int x3_9]) (rest := []) hx hb hml hown hts (kL_load l hst (zl_re g H.size) z x3_9) ch_L_load q_631 rfl rfl ⟨by rw [hRf]; exact (Nat.le_of_ble_eq_true rfl), by rw [hRl]; exact (Nat.le_of_ble_eq_true rfl)⟩ hW rfl hl.1 rfl (Nat.le_of_ble_eq_true rfl) dL_examiners_232 ⟨(zc1 (D := 1) g20 (Nat.le_of_ble_eq_true rfl)), (zc1 (D := 6) g22 (Nat.le_of_ble_eq_true rfl))⟩) hW (fun r9 z9 H locs h9 hW => ?_)
          obtain ⟨rfl, e9⟩ := h9
          rw [e9, s_load_z] at hW
          refine lv_iload hx hb dL_examiners_235 (lv_at hl 4 rfl) ?_
          refine lv_icmp_ne (tgt := 249) hx hb dL_examiners_237 (by decide) (fun k25 => ?_) (fun k25 => ?_)
          · replace h := h.2 k25
            refine lv_iconst (v := 0) hx hb dL_examiners_249 (by decide) ?_
            subst hQ0
            refine W.widen (k := 1284) (n := 7704) (Nat.le_trans (zc1 (D := 1) g20 (Nat.le_of_ble_eq_true rfl)) (Nat.le_of_eq hRc)) (Nat.le_trans (zc1 (D := 6) g22 (Nat.le_of_ble_eq_true rfl)) (Nat.le_of_eq hRs)) ?_
            exact zl_ri hx hb hr hlocks hW (by decide) ⟨h, rfl⟩ dL_examiners_250
          · replace h := h.1 k25
            refine lv_iload hx hb dL_examiners_240 (lv_at hl 4 rfl) ?_
            refine lv_iload hx hb dL_examiners_242 (lv_at hl 5 rfl) ?_
            refine lv_iadd hx hb dL_examiners_244 ?_
            refine lv_iconst (v := 4) hx hb dL_examiners_245 (by decide) ?_
            refine lv_icmp_le (tgt := 251) hx hb dL_examiners_246 (by decide) (fun k26 => ?_) (fun k26 => ?_)
            · replace h := h.1 k26
              obtain ⟨v27, ev27⟩ : ∃ z : Int32, z = x3_9 + (1 : Int32) := ⟨_, rfl⟩
              replace h := h v27 ev27
              refine lv_iinc (v := v27) (lv' := [(3, .int v27), (2, .int v24), (0, .ref (sw_ad g 0)), (1, .int v1), (4, .int x4_23k), (5, .int x5_23k)]) hx hb dL_examiners_251 hl (k := 3) rfl (by rw [ev27]; rfl) (Nat.le_of_ble_eq_true rfl) rfl (fun ls hl => ?_)
              refine lv_goto (tgt := 9) hx hb dL_examiners_254 (by decide) ?_
              exact ih9 v24 v27 _ _ _ _ _ h (zc10 (zc1 (D := 1) g21 (Nat.le_of_ble_eq_true rfl)) hTcn9 hcn9) (zc10 (zc1 (D := 6) g23 (Nat.le_of_ble_eq_true rfl)) hTsn9 hsn9) hW (lv_sub hl [2, 3, 1, 0] rfl)
            · replace h := h.2 k26
              refine lv_iconst (v := 0) hx hb dL_examiners_249 (by decide) ?_
              subst hQ0
              refine W.widen (k := 1284) (n := 7704) (Nat.le_trans (zc1 (D := 1) g20 (Nat.le_of_ble_eq_true rfl)) (Nat.le_of_eq hRc)) (Nat.le_trans (zc1 (D := 6) g22 (Nat.le_of_ble_eq_true rfl)) (Nat.le_of_eq hRs)) ?_
              exact zl_ri hx hb hr hlocks hW (by decide) ⟨h, rfl⟩ dL_examiners_250
        have key23 : ∀ (n23 : Nat) (x4_23 : Int32) (x5_23 : Int32) (x6_23 : Int32)  (H : Heap) (locs : List Loc) (ls : Array Slot) (cn23 sn23 : Nat), lL_examiners_23 z x3_9 Q (fun x4_23k x5_23k => ∀ v24 : Int32, v24 = (x2_9 + x5_23k) → (((zv (s_load z x3_9) [(-11)]) = x4_23k → (((x4_23k + x5_23k) ≤ (4 : Int32) → (∀ v27 : Int32, v27 = x3_9 + (1 : Int32) → ((fun x2_9 x3_9 => lL_examiners_9 z v1 Q (fun x2_9k => ((nI (zsz z.1)) = x2_9k → (((nI (zsz z.1)) = x2_9k → (((zv (s_frameOfExaminer z v1) [(-11)]) = (-11 : Int32) → (((zv (s_load z v1) [(-11)]) = (-11 : Int32) → (((zv (s_isNeutral z v1 ((0 : Int32))) [(-11)]) = (-11 : Int32) → (((zv (s_isNeutral z ((0 : Int32)) ((-1 : Int32))) [(-11)]) = (-11 : Int32) → (((zv (s_mayJudge z v1 ((0 : Int32))) [(-11)]) = (-11 : Int32) → (((zv (s_isAssigned z ((0 : Int32)) ((nI (z.1 0)))) [(-11)]) = (-11 : Int32) → (((zv (s_gradeBy z v1 ((0 : Int32))) [(-11), (-13)]) = (-11 : Int32) → (((zv (s_planned z ((nI (z.1 0)))) [(-11), (-13)]) = (-11 : Int32) → (((zv (s_planned z ((-1 : Int32))) [(-11), (-13)]) = (-11 : Int32) → (Q (1 : Int32))) ∧ (¬ (zv (s_planned z ((-1 : Int32))) [(-11), (-13)]) = (-11 : Int32) → (Q (0 : Int32))))) ∧ (¬ (zv (s_planned z ((nI (z.1 0)))) [(-11), (-13)]) = (-11 : Int32) → (Q (0 : Int32))))) ∧ (¬ (zv (s_gradeBy z v1 ((0 : Int32))) [(-11), (-13)]) = (-11 : Int32) → (Q (0 : Int32))))) ∧ (¬ (zv (s_isAssigned z ((0 : Int32)) ((nI (z.1 0)))) [(-11)]) = (-11 : Int32) → (Q (0 : Int32))))) ∧ (¬ (zv (s_mayJudge z v1 ((0 : Int32))) [(-11)]) = (-11 : Int32) → (Q (0 : Int32))))) ∧ (¬ (zv (s_isNeutral z ((0 : Int32)) ((-1 : Int32))) [(-11)]) = (-11 : Int32) → (Q (0 : Int32))))) ∧ (¬ (zv (s_isNeutral z v1 ((0 : Int32))) [(-11)]) = (-11 : Int32) → (Q (0 : Int32))))) ∧ (¬ (zv (s_load z v1) [(-11)]) = (-11 : Int32) → (Q (0 : Int32))))) ∧ (¬ (zv (s_frameOfExaminer z v1) [(-11)]) = (-11 : Int32) → (Q (0 : Int32))))) ∧ (¬ (nI (zsz z.1)) = x2_9k → (Q (0 : Int32))))) ∧ (¬ (nI (zsz z.1)) = x2_9k → (Q (0 : Int32)))) n9 x2_9 x3_9) v24 v27))) ∧ (¬ (x4_23k + x5_23k) ≤ (4 : Int32) → (Q (0 : Int32))))) ∧ (¬ (zv (s_load z x3_9) [(-11)]) = x4_23k → (Q (0 : Int32))))) n23 x4_23 x5_23 x6_23 → cn23 + n23 * 20 ≤ CL23 → sn23 + n23 * 120 ≤ SL23 → zl_Wd g [] z s H locs → lv_has ls 10 [(0, .ref (sw_ad g 0)), (1, .int v1), (2, .int x2_9), (3, .int x3_9), (4, .int x4_23), (5, .int x5_23), (6, .int x6_23)] → W p l e R s m args below meth c H locs cn23 sn23 Q0 (F0 m 23 ls []) := by
          intro n23
          induction n23 with
          | zero =>
            intro x4_23 x5_23 x6_23  H locs ls cn23 sn23 h
            exact False.elim h
          | succ n23 ih23 =>
            intro x4_23 x5_23 x6_23  H locs ls cn23 sn23 h hcn23 hsn23 hW hl
            rw [lL_examiners_23.eq_2] at h
            obtain ⟨Tcn23, hTcn23⟩ : ∃ n : Nat, n = cn23 + 20 := ⟨_, rfl⟩
            obtain ⟨Tsn23, hTsn23⟩ : ∃ n : Nat, n = sn23 + 120 := ⟨_, rfl⟩
            have g28 : cn23 + 20 ≤ Tcn23 := Nat.le_of_eq hTcn23.symm
            have g29 : sn23 + 120 ≤ Tsn23 := Nat.le_of_eq hTsn23.symm
            have g30 : cn23 + 38 ≤ R.cells := zc9 (x := cn9) (D := 180) (s := 198) (t := 38) hcn23 hCL23 g17 (Nat.le_of_ble_eq_true rfl)
            have g31 : sn23 + 228 ≤ R.slots := zc9 (x := sn9) (D := 1080) (s := 1188) (t := 228) hsn23 hSL23 g18 (Nat.le_of_ble_eq_true rfl)
            refine lv_iload hx hb dL_examiners_23 (lv_at hl 6 rfl) ?_
            refine lv_aload_n hx hb dL_examiners_25 rfl (lv_at hl 0 rfl) ?_
            refine zl_ki (g := g) (rest := [.int x6_23]) (zl_runV (g := g) (As := []) (rest := [.int x6_23]) hx hb hml hown hts (zD_doorCount l (zl_re g H.size) z) cv_X6_doorCount q_487 rfl rfl ⟨by rw [hRf]; exact (Nat.le_of_ble_eq_true rfl), by rw [hRl]; exact (Nat.le_of_ble_eq_true rfl)⟩ hW (Or.inl (Nat.le_of_ble_eq_true rfl)) sl_0 rfl rfl hl.1 rfl (Nat.le_of_ble_eq_true rfl) dL_examiners_26 ⟨(zc1 (D := 0) g30 (Nat.le_of_ble_eq_true rfl)), (zc1 (D := 0) g31 (Nat.le_of_ble_eq_true rfl))⟩) hW (fun r9 z9 H locs h9 hW => ?_)
            obtain ⟨rfl, e9⟩ := h9
            rw [e9] at hW
            refine lv_icmp_ge (tgt := 225) hx hb dL_examiners_29 (by decide) (fun k32 => ?_) (fun k32 => ?_)
            · replace h := h.1 k32
              exact hX23 x4_23 x5_23 _ _ _ _ _ h (zc11 (zc1 (D := 0) g28 (Nat.le_of_ble_eq_true rfl)) hTcn23 hcn23) (zc11 (zc1 (D := 0) g29 (Nat.le_of_ble_eq_true rfl)) hTsn23 hsn23) hW (lv_sub hl [0, 1, 2, 3, 4, 5] rfl)
            · replace h := h.2 k32
              refine lv_aload_n hx hb dL_examiners_32 rfl (lv_at hl 0 rfl) ?_
              refine lv_iload_n hx hb dL_examiners_33 rfl (lv_at hl 3 rfl) ?_
              refine lv_iload hx hb dL_examiners_34 (lv_at hl 6 rfl) ?_
              refine zl_ki (g := g) (rest := []) (zl_runH (g := g) (As := [.ref (sw_ad g 0), .int x3_9, .int x6_23]) (rest := []) hx hb hml hown hts (kL_isAssigned l hst (zl_re g H.size) z x3_9 x6_23) ch_L_isAssigned q_495 rfl rfl ⟨by rw [hRf]; exact (Nat.le_of_ble_eq_true rfl), by rw [hRl]; exact (Nat.le_of_ble_eq_true rfl)⟩ hW rfl hl.1 rfl (Nat.le_of_ble_eq_true rfl) dL_examiners_36 ⟨(zc1 (D := 2) g30 (Nat.le_of_ble_eq_true rfl)), (zc1 (D := 12) g31 (Nat.le_of_ble_eq_true rfl))⟩) hW (fun r9 z9 H locs h9 hW => ?_)
              obtain ⟨rfl, e9⟩ := h9
              rw [e9, s_isAssigned_z] at hW
              refine lv_iconst (v := 1) hx hb dL_examiners_39 (by decide) ?_
              obtain ⟨CJ48, hCJ48⟩ : ∃ n : Nat, n = cn23 + 0 + 2 + 0 := ⟨_, rfl⟩
              obtain ⟨SJ48, hSJ48⟩ : ∃ n : Nat, n = sn23 + 0 + 12 + 0 := ⟨_, rfl⟩
              have hJ48 : ∀ (t0_48 : Int32) (H : Heap) (locs : List Loc) (ls : Array Slot) (cj48 sj48 : Nat), jL_examiners_48 z x3_9 x4_23 x5_23 x6_23 Q (fun x4_23 x5_23 x6_23 => lL_examiners_23 z x3_9 Q (fun x4_23k x5_23k => ∀ v24 : Int32, v24 = (x2_9 + x5_23k) → (((zv (s_load z x3_9) [(-11)]) = x4_23k → (((x4_23k + x5_23k) ≤ (4 : Int32) → (∀ v27 : Int32, v27 = x3_9 + (1 : Int32) → ((fun x2_9 x3_9 => lL_examiners_9 z v1 Q (fun x2_9k => ((nI (zsz z.1)) = x2_9k → (((nI (zsz z.1)) = x2_9k → (((zv (s_frameOfExaminer z v1) [(-11)]) = (-11 : Int32) → (((zv (s_load z v1) [(-11)]) = (-11 : Int32) → (((zv (s_isNeutral z v1 ((0 : Int32))) [(-11)]) = (-11 : Int32) → (((zv (s_isNeutral z ((0 : Int32)) ((-1 : Int32))) [(-11)]) = (-11 : Int32) → (((zv (s_mayJudge z v1 ((0 : Int32))) [(-11)]) = (-11 : Int32) → (((zv (s_isAssigned z ((0 : Int32)) ((nI (z.1 0)))) [(-11)]) = (-11 : Int32) → (((zv (s_gradeBy z v1 ((0 : Int32))) [(-11), (-13)]) = (-11 : Int32) → (((zv (s_planned z ((nI (z.1 0)))) [(-11), (-13)]) = (-11 : Int32) → (((zv (s_planned z ((-1 : Int32))) [(-11), (-13)]) = (-11 : Int32) → (Q (1 : Int32))) ∧ (¬ (zv (s_planned z ((-1 : Int32))) [(-11), (-13)]) = (-11 : Int32) → (Q (0 : Int32))))) ∧ (¬ (zv (s_planned z ((nI (z.1 0)))) [(-11), (-13)]) = (-11 : Int32) → (Q (0 : Int32))))) ∧ (¬ (zv (s_gradeBy z v1 ((0 : Int32))) [(-11), (-13)]) = (-11 : Int32) → (Q (0 : Int32))))) ∧ (¬ (zv (s_isAssigned z ((0 : Int32)) ((nI (z.1 0)))) [(-11)]) = (-11 : Int32) → (Q (0 : Int32))))) ∧ (¬ (zv (s_mayJudge z v1 ((0 : Int32))) [(-11)]) = (-11 : Int32) → (Q (0 : Int32))))) ∧ (¬ (zv (s_isNeutral z ((0 : Int32)) ((-1 : Int32))) [(-11)]) = (-11 : Int32) → (Q (0 : Int32))))) ∧ (¬ (zv (s_isNeutral z v1 ((0 : Int32))) [(-11)]) = (-11 : Int32) → (Q (0 : Int32))))) ∧ (¬ (zv (s_load z v1) [(-11)]) = (-11 : Int32) → (Q (0 : Int32))))) ∧ (¬ (zv (s_frameOfExaminer z v1) [(-11)]) = (-11 : Int32) → (Q (0 : Int32))))) ∧ (¬ (nI (zsz z.1)) = x2_9k → (Q (0 : Int32))))) ∧ (¬ (nI (zsz z.1)) = x2_9k → (Q (0 : Int32)))) n9 x2_9 x3_9) v24 v27))) ∧ (¬ (x4_23k + x5_23k) ≤ (4 : Int32) → (Q (0 : Int32))))) ∧ (¬ (zv (s_load z x3_9) [(-11)]) = x4_23k → (Q (0 : Int32))))) n23 x4_23 x5_23 x6_23) t0_48 → cj48 ≤ CJ48 → sj48 ≤ SJ48 → zl_Wd g [] z s H locs → lv_has ls 10 [(0, .ref (sw_ad g 0)), (1, .int v1), (2, .int x2_9), (3, .int x3_9), (4, .int x4_23), (5, .int x5_23), (6, .int x6_23)] → W p l e R s m args below meth c H locs cj48 sj48 Q0 (F0 m 48 ls [.int t0_48]) := by
                intro t0_48 H locs ls cj48 sj48 h hcj48 hsj48 hW hl
                unfold jL_examiners_48 at h
                have g33 : cj48 + 36 ≤ R.cells := zc8 (x := cn23) (D := 2) (s := 38) (s' := 36) hcj48 hCJ48 g30 (Nat.le_of_ble_eq_true rfl)
                have g34 : cj48 + 18 ≤ Tcn23 := zc8 (x := cn23) (D := 2) (s := 20) (s' := 18) hcj48 hCJ48 g28 (Nat.le_of_ble_eq_true rfl)
                have g35 : sj48 + 216 ≤ R.slots := zc8 (x := sn23) (D := 12) (s := 228) (s' := 216) hsj48 hSJ48 g31 (Nat.le_of_ble_eq_true rfl)
                have g36 : sj48 + 108 ≤ Tsn23 := zc8 (x := sn23) (D := 12) (s := 120) (s' := 108) hsj48 hSJ48 g29 (Nat.le_of_ble_eq_true rfl)
                refine lv_istore (lv' := [(7, .int t0_48), (0, .ref (sw_ad g 0)), (1, .int v1), (2, .int x2_9), (3, .int x3_9), (4, .int x4_23), (5, .int x5_23), (6, .int x6_23)]) hx hb dL_examiners_48 hl (Nat.le_of_ble_eq_true rfl) rfl (fun ls hl => ?_)
                refine lv_iload hx hb dL_examiners_50 (lv_at hl 5 rfl) ?_
                refine lv_iload hx hb dL_examiners_52 (lv_at hl 0 rfl) ?_
                obtain ⟨CJ62, hCJ62⟩ : ∃ n : Nat, n = cj48 + 0 := ⟨_, rfl⟩
                obtain ⟨SJ62, hSJ62⟩ : ∃ n : Nat, n = sj48 + 0 := ⟨_, rfl⟩
                have hJ62 : ∀ (t0_62 : Int32) (H : Heap) (locs : List Loc) (ls : Array Slot) (cj62 sj62 : Nat), jL_examiners_62 z x3_9 x4_23 x5_23 x6_23 t0_48 Q (fun x4_23 x5_23 x6_23 => lL_examiners_23 z x3_9 Q (fun x4_23k x5_23k => ∀ v24 : Int32, v24 = (x2_9 + x5_23k) → (((zv (s_load z x3_9) [(-11)]) = x4_23k → (((x4_23k + x5_23k) ≤ (4 : Int32) → (∀ v27 : Int32, v27 = x3_9 + (1 : Int32) → ((fun x2_9 x3_9 => lL_examiners_9 z v1 Q (fun x2_9k => ((nI (zsz z.1)) = x2_9k → (((nI (zsz z.1)) = x2_9k → (((zv (s_frameOfExaminer z v1) [(-11)]) = (-11 : Int32) → (((zv (s_load z v1) [(-11)]) = (-11 : Int32) → (((zv (s_isNeutral z v1 ((0 : Int32))) [(-11)]) = (-11 : Int32) → (((zv (s_isNeutral z ((0 : Int32)) ((-1 : Int32))) [(-11)]) = (-11 : Int32) → (((zv (s_mayJudge z v1 ((0 : Int32))) [(-11)]) = (-11 : Int32) → (((zv (s_isAssigned z ((0 : Int32)) ((nI (z.1 0)))) [(-11)]) = (-11 : Int32) → (((zv (s_gradeBy z v1 ((0 : Int32))) [(-11), (-13)]) = (-11 : Int32) → (((zv (s_planned z ((nI (z.1 0)))) [(-11), (-13)]) = (-11 : Int32) → (((zv (s_planned z ((-1 : Int32))) [(-11), (-13)]) = (-11 : Int32) → (Q (1 : Int32))) ∧ (¬ (zv (s_planned z ((-1 : Int32))) [(-11), (-13)]) = (-11 : Int32) → (Q (0 : Int32))))) ∧ (¬ (zv (s_planned z ((nI (z.1 0)))) [(-11), (-13)]) = (-11 : Int32) → (Q (0 : Int32))))) ∧ (¬ (zv (s_gradeBy z v1 ((0 : Int32))) [(-11), (-13)]) = (-11 : Int32) → (Q (0 : Int32))))) ∧ (¬ (zv (s_isAssigned z ((0 : Int32)) ((nI (z.1 0)))) [(-11)]) = (-11 : Int32) → (Q (0 : Int32))))) ∧ (¬ (zv (s_mayJudge z v1 ((0 : Int32))) [(-11)]) = (-11 : Int32) → (Q (0 : Int32))))) ∧ (¬ (zv (s_isNeutral z ((0 : Int32)) ((-1 : Int32))) [(-11)]) = (-11 : Int32) → (Q (0 : Int32))))) ∧ (¬ (zv (s_isNeutral z v1 ((0 : Int32))) [(-11)]) = (-11 : Int32) → (Q (0 : Int32))))) ∧ (¬ (zv (s_load z v1) [(-11)]) = (-11 : Int32) → (Q (0 : Int32))))) ∧ (¬ (zv (s_frameOfExaminer z v1) [(-11)]) = (-11 : Int32) → (Q (0 : Int32))))) ∧ (¬ (nI (zsz z.1)) = x2_9k → (Q (0 : Int32))))) ∧ (¬ (nI (zsz z.1)) = x2_9k → (Q (0 : Int32)))) n9 x2_9 x3_9) v24 v27))) ∧ (¬ (x4_23k + x5_23k) ≤ (4 : Int32) → (Q (0 : Int32))))) ∧ (¬ (zv (s_load z x3_9) [(-11)]) = x4_23k → (Q (0 : Int32))))) n23 x4_23 x5_23 x6_23) t0_62 → cj62 ≤ CJ62 → sj62 ≤ SJ62 → zl_Wd g [] z s H locs → lv_has ls 10 [(0, .ref (sw_ad g 0)), (1, .int v1), (2, .int x2_9), (3, .int x3_9), (5, .int x5_23), (6, .int x6_23), (7, .int t0_48)] → W p l e R s m args below meth c H locs cj62 sj62 Q0 (F0 m 62 ls [.int t0_62, .int x4_23]) := by
                  intro t0_62 H locs ls cj62 sj62 h hcj62 hsj62 hW hl
                  unfold jL_examiners_62 at h
                  have g37 : cj62 + 36 ≤ R.cells := zc8 (x := cj48) (D := 0) (s := 36) (s' := 36) hcj62 hCJ62 g33 (Nat.le_of_ble_eq_true rfl)
                  have g38 : cj62 + 18 ≤ Tcn23 := zc8 (x := cj48) (D := 0) (s := 18) (s' := 18) hcj62 hCJ62 g34 (Nat.le_of_ble_eq_true rfl)
                  have g39 : sj62 + 216 ≤ R.slots := zc8 (x := sj48) (D := 0) (s := 216) (s' := 216) hsj62 hSJ62 g35 (Nat.le_of_ble_eq_true rfl)
                  have g40 : sj62 + 108 ≤ Tsn23 := zc8 (x := sj48) (D := 0) (s := 108) (s' := 108) hsj62 hSJ62 g36 (Nat.le_of_ble_eq_true rfl)
                  refine lv_iadd hx hb dL_examiners_62 ?_
                  refine lv_topi (fun v41 ev41 => ?_)
                  replace h := h v41 ev41
                  refine lv_istore (lv' := [(4, .int v41), (0, .ref (sw_ad g 0)), (1, .int v1), (2, .int x2_9), (3, .int x3_9), (5, .int x5_23), (6, .int x6_23), (7, .int t0_48)]) hx hb dL_examiners_63 hl (Nat.le_of_ble_eq_true rfl) rfl (fun ls hl => ?_)
                  refine lv_aload_n hx hb dL_examiners_65 rfl (lv_at hl 1 rfl) ?_
                  refine lv_iload hx hb dL_examiners_66 (lv_at hl 6 rfl) ?_
                  refine zl_ki (g := g) (rest := []) (zl_runH (g := g) (As := [.ref (sw_ad g 0), .int x6_23]) (rest := []) hx hb hml hown hts (kL_planned l hst (zl_re g H.size) z x6_23) ch_L_planned q_605 rfl rfl ⟨by rw [hRf]; exact (Nat.le_of_ble_eq_true rfl), by rw [hRl]; exact (Nat.le_of_ble_eq_true rfl)⟩ hW rfl hl.1 rfl (Nat.le_of_ble_eq_true rfl) dL_examiners_68 ⟨(zc1 (D := 2) g37 (Nat.le_of_ble_eq_true rfl)), (zc1 (D := 12) g39 (Nat.le_of_ble_eq_true rfl))⟩) hW (fun r9 z9 H locs h9 hW => ?_)
                  obtain ⟨rfl, e9⟩ := h9
                  rw [e9, s_planned_z] at hW
                  refine lv_iload_n hx hb dL_examiners_71 rfl (lv_at hl 4 rfl) ?_
                  obtain ⟨CJ80, hCJ80⟩ : ∃ n : Nat, n = cj62 + 2 + 0 := ⟨_, rfl⟩
                  obtain ⟨SJ80, hSJ80⟩ : ∃ n : Nat, n = sj62 + 12 + 0 := ⟨_, rfl⟩
                  have hJ80 : ∀ (t0_80 : Int32) (H : Heap) (locs : List Loc) (ls : Array Slot) (cj80 sj80 : Nat), jL_examiners_80 z x3_9 x5_23 x6_23 t0_48 v41 Q (fun x4_23 x5_23 x6_23 => lL_examiners_23 z x3_9 Q (fun x4_23k x5_23k => ∀ v24 : Int32, v24 = (x2_9 + x5_23k) → (((zv (s_load z x3_9) [(-11)]) = x4_23k → (((x4_23k + x5_23k) ≤ (4 : Int32) → (∀ v27 : Int32, v27 = x3_9 + (1 : Int32) → ((fun x2_9 x3_9 => lL_examiners_9 z v1 Q (fun x2_9k => ((nI (zsz z.1)) = x2_9k → (((nI (zsz z.1)) = x2_9k → (((zv (s_frameOfExaminer z v1) [(-11)]) = (-11 : Int32) → (((zv (s_load z v1) [(-11)]) = (-11 : Int32) → (((zv (s_isNeutral z v1 ((0 : Int32))) [(-11)]) = (-11 : Int32) → (((zv (s_isNeutral z ((0 : Int32)) ((-1 : Int32))) [(-11)]) = (-11 : Int32) → (((zv (s_mayJudge z v1 ((0 : Int32))) [(-11)]) = (-11 : Int32) → (((zv (s_isAssigned z ((0 : Int32)) ((nI (z.1 0)))) [(-11)]) = (-11 : Int32) → (((zv (s_gradeBy z v1 ((0 : Int32))) [(-11), (-13)]) = (-11 : Int32) → (((zv (s_planned z ((nI (z.1 0)))) [(-11), (-13)]) = (-11 : Int32) → (((zv (s_planned z ((-1 : Int32))) [(-11), (-13)]) = (-11 : Int32) → (Q (1 : Int32))) ∧ (¬ (zv (s_planned z ((-1 : Int32))) [(-11), (-13)]) = (-11 : Int32) → (Q (0 : Int32))))) ∧ (¬ (zv (s_planned z ((nI (z.1 0)))) [(-11), (-13)]) = (-11 : Int32) → (Q (0 : Int32))))) ∧ (¬ (zv (s_gradeBy z v1 ((0 : Int32))) [(-11), (-13)]) = (-11 : Int32) → (Q (0 : Int32))))) ∧ (¬ (zv (s_isAssigned z ((0 : Int32)) ((nI (z.1 0)))) [(-11)]) = (-11 : Int32) → (Q (0 : Int32))))) ∧ (¬ (zv (s_mayJudge z v1 ((0 : Int32))) [(-11)]) = (-11 : Int32) → (Q (0 : Int32))))) ∧ (¬ (zv (s_isNeutral z ((0 : Int32)) ((-1 : Int32))) [(-11)]) = (-11 : Int32) → (Q (0 : Int32))))) ∧ (¬ (zv (s_isNeutral z v1 ((0 : Int32))) [(-11)]) = (-11 : Int32) → (Q (0 : Int32))))) ∧ (¬ (zv (s_load z v1) [(-11)]) = (-11 : Int32) → (Q (0 : Int32))))) ∧ (¬ (zv (s_frameOfExaminer z v1) [(-11)]) = (-11 : Int32) → (Q (0 : Int32))))) ∧ (¬ (nI (zsz z.1)) = x2_9k → (Q (0 : Int32))))) ∧ (¬ (nI (zsz z.1)) = x2_9k → (Q (0 : Int32)))) n9 x2_9 x3_9) v24 v27))) ∧ (¬ (x4_23k + x5_23k) ≤ (4 : Int32) → (Q (0 : Int32))))) ∧ (¬ (zv (s_load z x3_9) [(-11)]) = x4_23k → (Q (0 : Int32))))) n23 x4_23 x5_23 x6_23) t0_80 → cj80 ≤ CJ80 → sj80 ≤ SJ80 → zl_Wd g [] z s H locs → lv_has ls 10 [(0, .ref (sw_ad g 0)), (1, .int v1), (2, .int x2_9), (3, .int x3_9), (4, .int v41), (5, .int x5_23), (6, .int x6_23), (7, .int t0_48)] → W p l e R s m args below meth c H locs cj80 sj80 Q0 (F0 m 80 ls [.int t0_80]) := by
                    intro t0_80 H locs ls cj80 sj80 h hcj80 hsj80 hW hl
                    unfold jL_examiners_80 at h
                    have g42 : cj80 + 34 ≤ R.cells := zc8 (x := cj62) (D := 2) (s := 36) (s' := 34) hcj80 hCJ80 g37 (Nat.le_of_ble_eq_true rfl)
                    have g43 : cj80 + 16 ≤ Tcn23 := zc8 (x := cj62) (D := 2) (s := 18) (s' := 16) hcj80 hCJ80 g38 (Nat.le_of_ble_eq_true rfl)
                    have g44 : sj80 + 204 ≤ R.slots := zc8 (x := sj62) (D := 12) (s := 216) (s' := 204) hsj80 hSJ80 g39 (Nat.le_of_ble_eq_true rfl)
                    have g45 : sj80 + 96 ≤ Tsn23 := zc8 (x := sj62) (D := 12) (s := 108) (s' := 96) hsj80 hSJ80 g40 (Nat.le_of_ble_eq_true rfl)
                    refine lv_istore (lv' := [(8, .int t0_80), (0, .ref (sw_ad g 0)), (1, .int v1), (2, .int x2_9), (3, .int x3_9), (4, .int v41), (5, .int x5_23), (6, .int x6_23), (7, .int t0_48)]) hx hb dL_examiners_80 hl (Nat.le_of_ble_eq_true rfl) rfl (fun ls hl => ?_)
                    refine lv_iload hx hb dL_examiners_82 (lv_at hl 6 rfl) ?_
                    refine lv_iload hx hb dL_examiners_84 (lv_at hl 0 rfl) ?_
                    obtain ⟨CJ94, hCJ94⟩ : ∃ n : Nat, n = cj80 + 0 := ⟨_, rfl⟩
                    obtain ⟨SJ94, hSJ94⟩ : ∃ n : Nat, n = sj80 + 0 := ⟨_, rfl⟩
                    have hJ94 : ∀ (t0_94 : Int32) (H : Heap) (locs : List Loc) (ls : Array Slot) (cj94 sj94 : Nat), jL_examiners_94 z x3_9 x5_23 x6_23 t0_48 v41 t0_80 Q (fun x4_23 x5_23 x6_23 => lL_examiners_23 z x3_9 Q (fun x4_23k x5_23k => ∀ v24 : Int32, v24 = (x2_9 + x5_23k) → (((zv (s_load z x3_9) [(-11)]) = x4_23k → (((x4_23k + x5_23k) ≤ (4 : Int32) → (∀ v27 : Int32, v27 = x3_9 + (1 : Int32) → ((fun x2_9 x3_9 => lL_examiners_9 z v1 Q (fun x2_9k => ((nI (zsz z.1)) = x2_9k → (((nI (zsz z.1)) = x2_9k → (((zv (s_frameOfExaminer z v1) [(-11)]) = (-11 : Int32) → (((zv (s_load z v1) [(-11)]) = (-11 : Int32) → (((zv (s_isNeutral z v1 ((0 : Int32))) [(-11)]) = (-11 : Int32) → (((zv (s_isNeutral z ((0 : Int32)) ((-1 : Int32))) [(-11)]) = (-11 : Int32) → (((zv (s_mayJudge z v1 ((0 : Int32))) [(-11)]) = (-11 : Int32) → (((zv (s_isAssigned z ((0 : Int32)) ((nI (z.1 0)))) [(-11)]) = (-11 : Int32) → (((zv (s_gradeBy z v1 ((0 : Int32))) [(-11), (-13)]) = (-11 : Int32) → (((zv (s_planned z ((nI (z.1 0)))) [(-11), (-13)]) = (-11 : Int32) → (((zv (s_planned z ((-1 : Int32))) [(-11), (-13)]) = (-11 : Int32) → (Q (1 : Int32))) ∧ (¬ (zv (s_planned z ((-1 : Int32))) [(-11), (-13)]) = (-11 : Int32) → (Q (0 : Int32))))) ∧ (¬ (zv (s_planned z ((nI (z.1 0)))) [(-11), (-13)]) = (-11 : Int32) → (Q (0 : Int32))))) ∧ (¬ (zv (s_gradeBy z v1 ((0 : Int32))) [(-11), (-13)]) = (-11 : Int32) → (Q (0 : Int32))))) ∧ (¬ (zv (s_isAssigned z ((0 : Int32)) ((nI (z.1 0)))) [(-11)]) = (-11 : Int32) → (Q (0 : Int32))))) ∧ (¬ (zv (s_mayJudge z v1 ((0 : Int32))) [(-11)]) = (-11 : Int32) → (Q (0 : Int32))))) ∧ (¬ (zv (s_isNeutral z ((0 : Int32)) ((-1 : Int32))) [(-11)]) = (-11 : Int32) → (Q (0 : Int32))))) ∧ (¬ (zv (s_isNeutral z v1 ((0 : Int32))) [(-11)]) = (-11 : Int32) → (Q (0 : Int32))))) ∧ (¬ (zv (s_load z v1) [(-11)]) = (-11 : Int32) → (Q (0 : Int32))))) ∧ (¬ (zv (s_frameOfExaminer z v1) [(-11)]) = (-11 : Int32) → (Q (0 : Int32))))) ∧ (¬ (nI (zsz z.1)) = x2_9k → (Q (0 : Int32))))) ∧ (¬ (nI (zsz z.1)) = x2_9k → (Q (0 : Int32)))) n9 x2_9 x3_9) v24 v27))) ∧ (¬ (x4_23k + x5_23k) ≤ (4 : Int32) → (Q (0 : Int32))))) ∧ (¬ (zv (s_load z x3_9) [(-11)]) = x4_23k → (Q (0 : Int32))))) n23 x4_23 x5_23 x6_23) t0_94 → cj94 ≤ CJ94 → sj94 ≤ SJ94 → zl_Wd g [] z s H locs → lv_has ls 10 [(0, .ref (sw_ad g 0)), (1, .int v1), (2, .int x2_9), (3, .int x3_9), (4, .int v41), (6, .int x6_23), (7, .int t0_48), (8, .int t0_80)] → W p l e R s m args below meth c H locs cj94 sj94 Q0 (F0 m 94 ls [.int t0_94, .int x5_23]) := by
                      intro t0_94 H locs ls cj94 sj94 h hcj94 hsj94 hW hl
                      unfold jL_examiners_94 at h
                      have g46 : cj94 + 34 ≤ R.cells := zc8 (x := cj80) (D := 0) (s := 34) (s' := 34) hcj94 hCJ94 g42 (Nat.le_of_ble_eq_true rfl)
                      have g47 : cj94 + 16 ≤ Tcn23 := zc8 (x := cj80) (D := 0) (s := 16) (s' := 16) hcj94 hCJ94 g43 (Nat.le_of_ble_eq_true rfl)
                      have g48 : sj94 + 204 ≤ R.slots := zc8 (x := sj80) (D := 0) (s := 204) (s' := 204) hsj94 hSJ94 g44 (Nat.le_of_ble_eq_true rfl)
                      have g49 : sj94 + 96 ≤ Tsn23 := zc8 (x := sj80) (D := 0) (s := 96) (s' := 96) hsj94 hSJ94 g45 (Nat.le_of_ble_eq_true rfl)
                      refine lv_iadd hx hb dL_examiners_94 ?_
                      refine lv_topi (fun v50 ev50 => ?_)
                      replace h := h v50 ev50
                      refine lv_istore (lv' := [(5, .int v50), (0, .ref (sw_ad g 0)), (1, .int v1), (2, .int x2_9), (3, .int x3_9), (4, .int v41), (6, .int x6_23), (7, .int t0_48), (8, .int t0_80)]) hx hb dL_examiners_95 hl (Nat.le_of_ble_eq_true rfl) rfl (fun ls hl => ?_)
                      refine lv_aload_n hx hb dL_examiners_97 rfl (lv_at hl 1 rfl) ?_
                      refine lv_iload_n hx hb dL_examiners_98 rfl (lv_at hl 4 rfl) ?_
                      refine zl_ki (g := g) (rest := []) (zl_runH (g := g) (As := [.ref (sw_ad g 0), .int x3_9]) (rest := []) hx hb hml hown hts (kL_frameOfExaminer l hst (zl_re g H.size) z x3_9) ch_L_frameOfExaminer q_611 rfl rfl ⟨by rw [hRf]; exact (Nat.le_of_ble_eq_true rfl), by rw [hRl]; exact (Nat.le_of_ble_eq_true rfl)⟩ hW rfl hl.1 rfl (Nat.le_of_ble_eq_true rfl) dL_examiners_99 ⟨(zc1 (D := 1) g46 (Nat.le_of_ble_eq_true rfl)), (zc1 (D := 6) g48 (Nat.le_of_ble_eq_true rfl))⟩) hW (fun r9 z9 H locs h9 hW => ?_)
                      obtain ⟨rfl, e9⟩ := h9
                      rw [e9, s_frameOfExaminer_z] at hW
                      refine lv_aload_n hx hb dL_examiners_102 rfl (lv_at hl 1 rfl) ?_
                      refine lv_iload hx hb dL_examiners_103 (lv_at hl 6 rfl) ?_
                      refine zl_ki (g := g) (rest := [.int (zv (s_frameOfExaminer z x3_9) [(-11)])]) (zl_runH (g := g) (As := [.ref (sw_ad g 0), .int x6_23]) (rest := [.int (zv (s_frameOfExaminer z x3_9) [(-11)])]) hx hb hml hown hts (kL_frameOfDoor l hst (zl_re g H.size) z x6_23) ch_L_frameOfDoor q_588 rfl rfl ⟨by rw [hRf]; exact (Nat.le_of_ble_eq_true rfl), by rw [hRl]; exact (Nat.le_of_ble_eq_true rfl)⟩ hW rfl hl.1 rfl (Nat.le_of_ble_eq_true rfl) dL_examiners_105 ⟨(zc1 (D := 2) g46 (Nat.le_of_ble_eq_true rfl)), (zc1 (D := 12) g48 (Nat.le_of_ble_eq_true rfl))⟩) hW (fun r9 z9 H locs h9 hW => ?_)
                      obtain ⟨rfl, e9⟩ := h9
                      rw [e9, s_frameOfDoor_z] at hW
                      obtain ⟨CJ116, hCJ116⟩ : ∃ n : Nat, n = cj94 + 1 + 1 + 0 := ⟨_, rfl⟩
                      obtain ⟨SJ116, hSJ116⟩ : ∃ n : Nat, n = sj94 + 6 + 6 + 0 := ⟨_, rfl⟩
                      have hJ116 : ∀ (t0_116 : Int32) (H : Heap) (locs : List Loc) (ls : Array Slot) (cj116 sj116 : Nat), jL_examiners_116 z x3_9 x6_23 t0_48 v41 t0_80 v50 Q (fun x4_23 x5_23 x6_23 => lL_examiners_23 z x3_9 Q (fun x4_23k x5_23k => ∀ v24 : Int32, v24 = (x2_9 + x5_23k) → (((zv (s_load z x3_9) [(-11)]) = x4_23k → (((x4_23k + x5_23k) ≤ (4 : Int32) → (∀ v27 : Int32, v27 = x3_9 + (1 : Int32) → ((fun x2_9 x3_9 => lL_examiners_9 z v1 Q (fun x2_9k => ((nI (zsz z.1)) = x2_9k → (((nI (zsz z.1)) = x2_9k → (((zv (s_frameOfExaminer z v1) [(-11)]) = (-11 : Int32) → (((zv (s_load z v1) [(-11)]) = (-11 : Int32) → (((zv (s_isNeutral z v1 ((0 : Int32))) [(-11)]) = (-11 : Int32) → (((zv (s_isNeutral z ((0 : Int32)) ((-1 : Int32))) [(-11)]) = (-11 : Int32) → (((zv (s_mayJudge z v1 ((0 : Int32))) [(-11)]) = (-11 : Int32) → (((zv (s_isAssigned z ((0 : Int32)) ((nI (z.1 0)))) [(-11)]) = (-11 : Int32) → (((zv (s_gradeBy z v1 ((0 : Int32))) [(-11), (-13)]) = (-11 : Int32) → (((zv (s_planned z ((nI (z.1 0)))) [(-11), (-13)]) = (-11 : Int32) → (((zv (s_planned z ((-1 : Int32))) [(-11), (-13)]) = (-11 : Int32) → (Q (1 : Int32))) ∧ (¬ (zv (s_planned z ((-1 : Int32))) [(-11), (-13)]) = (-11 : Int32) → (Q (0 : Int32))))) ∧ (¬ (zv (s_planned z ((nI (z.1 0)))) [(-11), (-13)]) = (-11 : Int32) → (Q (0 : Int32))))) ∧ (¬ (zv (s_gradeBy z v1 ((0 : Int32))) [(-11), (-13)]) = (-11 : Int32) → (Q (0 : Int32))))) ∧ (¬ (zv (s_isAssigned z ((0 : Int32)) ((nI (z.1 0)))) [(-11)]) = (-11 : Int32) → (Q (0 : Int32))))) ∧ (¬ (zv (s_mayJudge z v1 ((0 : Int32))) [(-11)]) = (-11 : Int32) → (Q (0 : Int32))))) ∧ (¬ (zv (s_isNeutral z ((0 : Int32)) ((-1 : Int32))) [(-11)]) = (-11 : Int32) → (Q (0 : Int32))))) ∧ (¬ (zv (s_isNeutral z v1 ((0 : Int32))) [(-11)]) = (-11 : Int32) → (Q (0 : Int32))))) ∧ (¬ (zv (s_load z v1) [(-11)]) = (-11 : Int32) → (Q (0 : Int32))))) ∧ (¬ (zv (s_frameOfExaminer z v1) [(-11)]) = (-11 : Int32) → (Q (0 : Int32))))) ∧ (¬ (nI (zsz z.1)) = x2_9k → (Q (0 : Int32))))) ∧ (¬ (nI (zsz z.1)) = x2_9k → (Q (0 : Int32)))) n9 x2_9 x3_9) v24 v27))) ∧ (¬ (x4_23k + x5_23k) ≤ (4 : Int32) → (Q (0 : Int32))))) ∧ (¬ (zv (s_load z x3_9) [(-11)]) = x4_23k → (Q (0 : Int32))))) n23 x4_23 x5_23 x6_23) t0_116 → cj116 ≤ CJ116 → sj116 ≤ SJ116 → zl_Wd g [] z s H locs → lv_has ls 10 [(0, .ref (sw_ad g 0)), (1, .int v1), (2, .int x2_9), (3, .int x3_9), (4, .int v41), (5, .int v50), (6, .int x6_23), (7, .int t0_48), (8, .int t0_80)] → W p l e R s m args below meth c H locs cj116 sj116 Q0 (F0 m 116 ls [.int t0_116]) := by
                        intro t0_116 H locs ls cj116 sj116 h hcj116 hsj116 hW hl
                        unfold jL_examiners_116 at h
                        have g51 : cj116 + 32 ≤ R.cells := zc8 (x := cj94) (D := 2) (s := 34) (s' := 32) hcj116 hCJ116 g46 (Nat.le_of_ble_eq_true rfl)
                        have g52 : cj116 + 14 ≤ Tcn23 := zc8 (x := cj94) (D := 2) (s := 16) (s' := 14) hcj116 hCJ116 g47 (Nat.le_of_ble_eq_true rfl)
                        have g53 : sj116 + 192 ≤ R.slots := zc8 (x := sj94) (D := 12) (s := 204) (s' := 192) hsj116 hSJ116 g48 (Nat.le_of_ble_eq_true rfl)
                        have g54 : sj116 + 84 ≤ Tsn23 := zc8 (x := sj94) (D := 12) (s := 96) (s' := 84) hsj116 hSJ116 g49 (Nat.le_of_ble_eq_true rfl)
                        refine lv_istore (lv' := [(9, .int t0_116), (0, .ref (sw_ad g 0)), (1, .int v1), (2, .int x2_9), (3, .int x3_9), (4, .int v41), (5, .int v50), (6, .int x6_23), (7, .int t0_48), (8, .int t0_80)]) hx hb dL_examiners_116 hl (Nat.le_of_ble_eq_true rfl) rfl (fun ls hl => ?_)
                        refine lv_iload hx hb dL_examiners_118 (lv_at hl 0 rfl) ?_
                        refine lv_if_eq (tgt := 134) hx hb dL_examiners_120 (by decide) (fun k55 => ?_) (fun k55 => ?_)
                        · replace h := h.1 k55
                          refine lv_aload_n hx hb dL_examiners_134 rfl (lv_at hl 1 rfl) ?_
                          refine lv_iload_n hx hb dL_examiners_135 rfl (lv_at hl 4 rfl) ?_
                          refine lv_iload hx hb dL_examiners_136 (lv_at hl 7 rfl) ?_
                          refine zl_ki (g := g) (rest := []) (zl_runH (g := g) (As := [.ref (sw_ad g 0), .int x3_9, .int x6_23]) (rest := []) hx hb hml hown hts (kL_mayJudge l hst (zl_re g H.size) z x3_9 x6_23) ch_L_mayJudge q_624 rfl rfl ⟨by rw [hRf]; exact (Nat.le_of_ble_eq_true rfl), by rw [hRl]; exact (Nat.le_of_ble_eq_true rfl)⟩ hW rfl hl.1 rfl (Nat.le_of_ble_eq_true rfl) dL_examiners_138 ⟨(zc1 (D := 2) g51 (Nat.le_of_ble_eq_true rfl)), (zc1 (D := 12) g53 (Nat.le_of_ble_eq_true rfl))⟩) hW (fun r9 z9 H locs h9 hW => ?_)
                          obtain ⟨rfl, e9⟩ := h9
                          rw [e9, s_mayJudge_z] at hW
                          refine lv_iconst (v := 1) hx hb dL_examiners_141 (by decide) ?_
                          refine lv_icmp_ne (tgt := 155) hx hb dL_examiners_142 (by decide) (fun k56 => ?_) (fun k56 => ?_)
                          · replace h := h.2 k56
                            refine lv_iload hx hb dL_examiners_155 (lv_at hl 8 rfl) ?_
                            refine lv_if_eq (tgt := 170) hx hb dL_examiners_157 (by decide) (fun k57 => ?_) (fun k57 => ?_)
                            · replace h := h.1 k57
                              refine lv_iload hx hb dL_examiners_170 (lv_at hl 9 rfl) ?_
                              refine lv_if_eq (tgt := 200) hx hb dL_examiners_172 (by decide) (fun k58 => ?_) (fun k58 => ?_)
                              · replace h := h.1 k58
                                refine lv_iload hx hb dL_examiners_200 (lv_at hl 8 rfl) ?_
                                refine lv_if_ne (tgt := 219) hx hb dL_examiners_202 (by decide) (fun k59 => ?_) (fun k59 => ?_)
                                · replace h := h.2 k59
                                  obtain ⟨v60, ev60⟩ : ∃ z : Int32, z = x6_23 + (1 : Int32) := ⟨_, rfl⟩
                                  replace h := h v60 ev60
                                  refine lv_iinc (v := v60) (lv' := [(6, .int v60), (9, .int t0_116), (0, .ref (sw_ad g 0)), (1, .int v1), (2, .int x2_9), (3, .int x3_9), (4, .int v41), (5, .int v50), (7, .int t0_48), (8, .int t0_80)]) hx hb dL_examiners_219 hl (k := 7) rfl (by rw [ev60]; rfl) (Nat.le_of_ble_eq_true rfl) rfl (fun ls hl => ?_)
                                  refine lv_goto (tgt := 23) hx hb dL_examiners_222 (by decide) ?_
                                  exact ih23 v41 v50 v60 _ _ _ _ _ h (zc10 (zc1 (D := 2) g52 (Nat.le_of_ble_eq_true rfl)) hTcn23 hcn23) (zc10 (zc1 (D := 12) g54 (Nat.le_of_ble_eq_true rfl)) hTsn23 hsn23) hW (lv_sub hl [2, 3, 4, 5, 6, 7, 0] rfl)
                                · replace h := h.1 k59
                                  refine lv_aload_n hx hb dL_examiners_205 rfl (lv_at hl 1 rfl) ?_
                                  refine lv_iload_n hx hb dL_examiners_206 rfl (lv_at hl 4 rfl) ?_
                                  refine lv_iload hx hb dL_examiners_207 (lv_at hl 7 rfl) ?_
                                  refine zl_ki (g := g) (rest := []) (zl_runH (g := g) (As := [.ref (sw_ad g 0), .int x3_9, .int x6_23]) (rest := []) hx hb hml hown hts (kL_gradeBy l hst (zl_re g H.size) z x3_9 x6_23) ch_L_gradeBy q_513 rfl rfl ⟨by rw [hRf]; exact (Nat.le_of_ble_eq_true rfl), by rw [hRl]; exact (Nat.le_of_ble_eq_true rfl)⟩ hW rfl hl.1 rfl (Nat.le_of_ble_eq_true rfl) dL_examiners_209 ⟨(zc1 (D := 5) g51 (Nat.le_of_ble_eq_true rfl)), (zc1 (D := 30) g53 (Nat.le_of_ble_eq_true rfl))⟩) hW (fun r9 z9 H locs h9 hW => ?_)
                                  obtain ⟨rfl, e9⟩ := h9
                                  rw [e9, s_gradeBy_z] at hW
                                  refine lv_bipush (v := -13) hx hb dL_examiners_212 (by decide) ?_
                                  refine lv_icmp_eq (tgt := 219) hx hb dL_examiners_214 (by decide) (fun k61 => ?_) (fun k61 => ?_)
                                  · replace h := h.1 k61
                                    obtain ⟨v62, ev62⟩ : ∃ z : Int32, z = x6_23 + (1 : Int32) := ⟨_, rfl⟩
                                    replace h := h v62 ev62
                                    refine lv_iinc (v := v62) (lv' := [(6, .int v62), (9, .int t0_116), (0, .ref (sw_ad g 0)), (1, .int v1), (2, .int x2_9), (3, .int x3_9), (4, .int v41), (5, .int v50), (7, .int t0_48), (8, .int t0_80)]) hx hb dL_examiners_219 hl (k := 7) rfl (by rw [ev62]; rfl) (Nat.le_of_ble_eq_true rfl) rfl (fun ls hl => ?_)
                                    refine lv_goto (tgt := 23) hx hb dL_examiners_222 (by decide) ?_
                                    exact ih23 v41 v50 v62 _ _ _ _ _ h (zc10 (zc1 (D := 5) g52 (Nat.le_of_ble_eq_true rfl)) hTcn23 hcn23) (zc10 (zc1 (D := 30) g54 (Nat.le_of_ble_eq_true rfl)) hTsn23 hsn23) hW (lv_sub hl [2, 3, 4, 5, 6, 7, 0] rfl)
                                  · replace h := h.2 k61
                                    refine lv_iconst (v := 0) hx hb dL_examiners_217 (by decide) ?_
                                    subst hQ0
                                    refine W.widen (k := 1284) (n := 7704) (Nat.le_trans (zc1 (D := 5) g51 (Nat.le_of_ble_eq_true rfl)) (Nat.le_of_eq hRc)) (Nat.le_trans (zc1 (D := 30) g53 (Nat.le_of_ble_eq_true rfl)) (Nat.le_of_eq hRs)) ?_
                                    exact zl_ri hx hb hr hlocks hW (by decide) ⟨h, rfl⟩ dL_examiners_218
                              · replace h := h.2 k58
                                refine lv_iload hx hb dL_examiners_175 (lv_at hl 8 rfl) ?_
                                refine lv_if_ne (tgt := 217) hx hb dL_examiners_177 (by decide) (fun k63 => ?_) (fun k63 => ?_)
                                · replace h := h.2 k63
                                  refine lv_iconst (v := 0) hx hb dL_examiners_217 (by decide) ?_
                                  subst hQ0
                                  refine W.widen (k := 1284) (n := 7704) (Nat.le_trans (zc1 (D := 2) g51 (Nat.le_of_ble_eq_true rfl)) (Nat.le_of_eq hRc)) (Nat.le_trans (zc1 (D := 12) g53 (Nat.le_of_ble_eq_true rfl)) (Nat.le_of_eq hRs)) ?_
                                  exact zl_ri hx hb hr hlocks hW (by decide) ⟨h, rfl⟩ dL_examiners_218
                                · replace h := h.1 k63
                                  refine lv_aload_n hx hb dL_examiners_180 rfl (lv_at hl 1 rfl) ?_
                                  refine lv_iload_n hx hb dL_examiners_181 rfl (lv_at hl 4 rfl) ?_
                                  refine lv_iload hx hb dL_examiners_182 (lv_at hl 7 rfl) ?_
                                  refine zl_ki (g := g) (rest := []) (zl_runH (g := g) (As := [.ref (sw_ad g 0), .int x3_9, .int x6_23]) (rest := []) hx hb hml hown hts (kL_mayJudge l hst (zl_re g H.size) z x3_9 x6_23) ch_L_mayJudge q_624 rfl rfl ⟨by rw [hRf]; exact (Nat.le_of_ble_eq_true rfl), by rw [hRl]; exact (Nat.le_of_ble_eq_true rfl)⟩ hW rfl hl.1 rfl (Nat.le_of_ble_eq_true rfl) dL_examiners_184 ⟨(zc1 (D := 4) g51 (Nat.le_of_ble_eq_true rfl)), (zc1 (D := 24) g53 (Nat.le_of_ble_eq_true rfl))⟩) hW (fun r9 z9 H locs h9 hW => ?_)
                                  obtain ⟨rfl, e9⟩ := h9
                                  rw [e9, s_mayJudge_z] at hW
                                  refine lv_if_eq (tgt := 217) hx hb dL_examiners_187 (by decide) (fun k64 => ?_) (fun k64 => ?_)
                                  · replace h := h.1 k64
                                    refine lv_iconst (v := 0) hx hb dL_examiners_217 (by decide) ?_
                                    subst hQ0
                                    refine W.widen (k := 1284) (n := 7704) (Nat.le_trans (zc1 (D := 4) g51 (Nat.le_of_ble_eq_true rfl)) (Nat.le_of_eq hRc)) (Nat.le_trans (zc1 (D := 24) g53 (Nat.le_of_ble_eq_true rfl)) (Nat.le_of_eq hRs)) ?_
                                    exact zl_ri hx hb hr hlocks hW (by decide) ⟨h, rfl⟩ dL_examiners_218
                                  · replace h := h.2 k64
                                    refine lv_aload_n hx hb dL_examiners_190 rfl (lv_at hl 1 rfl) ?_
                                    refine lv_iload hx hb dL_examiners_191 (lv_at hl 7 rfl) ?_
                                    have y65 := h.1
                                    replace h := h.2
                                    refine zl_ki (g := g) (rest := []) (zl_runV (g := g) (As := [.int x6_23]) (rest := []) hx hb hml hown hts (zD_examinersOf l hst (zl_re g H.size) z x6_23 y65) cv_X6_examinersOf q_532 rfl rfl ⟨by rw [hRf]; exact (Nat.le_of_ble_eq_true rfl), by rw [hRl]; exact (Nat.le_of_ble_eq_true rfl)⟩ hW (Or.inl (Nat.le_of_ble_eq_true rfl)) sl_0 rfl rfl hl.1 rfl (Nat.le_of_ble_eq_true rfl) dL_examiners_193 ⟨(zc1 (D := 5) g51 (Nat.le_of_ble_eq_true rfl)), (zc1 (D := 30) g53 (Nat.le_of_ble_eq_true rfl))⟩) hW (fun r9 z9 H locs h9 hW => ?_)
                                    clear y65
                                    obtain ⟨rfl, e9⟩ := h9
                                    rw [e9, s_examinersOf_z] at hW
                                    refine lv_iconst (v := 3) hx hb dL_examiners_196 (by decide) ?_
                                    refine lv_icmp_eq (tgt := 217) hx hb dL_examiners_197 (by decide) (fun k66 => ?_) (fun k66 => ?_)
                                    · replace h := h.1 k66
                                      refine lv_iconst (v := 0) hx hb dL_examiners_217 (by decide) ?_
                                      subst hQ0
                                      refine W.widen (k := 1284) (n := 7704) (Nat.le_trans (zc1 (D := 5) g51 (Nat.le_of_ble_eq_true rfl)) (Nat.le_of_eq hRc)) (Nat.le_trans (zc1 (D := 30) g53 (Nat.le_of_ble_eq_true rfl)) (Nat.le_of_eq hRs)) ?_
                                      exact zl_ri hx hb hr hlocks hW (by decide) ⟨h, rfl⟩ dL_examiners_218
                                    · replace h := h.2 k66
                                      refine lv_iload hx hb dL_examiners_200 (lv_at hl 8 rfl) ?_
                                      refine lv_if_ne (tgt := 219) hx hb dL_examiners_202 (by decide) (fun k67 => ?_) (fun k67 => ?_)
                                      · replace h := h.2 k67
                                        obtain ⟨v68, ev68⟩ : ∃ z : Int32, z = x6_23 + (1 : Int32) := ⟨_, rfl⟩
                                        replace h := h v68 ev68
                                        refine lv_iinc (v := v68) (lv' := [(6, .int v68), (9, .int t0_116), (0, .ref (sw_ad g 0)), (1, .int v1), (2, .int x2_9), (3, .int x3_9), (4, .int v41), (5, .int v50), (7, .int t0_48), (8, .int t0_80)]) hx hb dL_examiners_219 hl (k := 7) rfl (by rw [ev68]; rfl) (Nat.le_of_ble_eq_true rfl) rfl (fun ls hl => ?_)
                                        refine lv_goto (tgt := 23) hx hb dL_examiners_222 (by decide) ?_
                                        exact ih23 v41 v50 v68 _ _ _ _ _ h (zc10 (zc1 (D := 5) g52 (Nat.le_of_ble_eq_true rfl)) hTcn23 hcn23) (zc10 (zc1 (D := 30) g54 (Nat.le_of_ble_eq_true rfl)) hTsn23 hsn23) hW (lv_sub hl [2, 3, 4, 5, 6, 7, 0] rfl)
                                      · replace h := h.1 k67
                                        refine lv_aload_n hx hb dL_examiners_205 rfl (lv_at hl 1 rfl) ?_
                                        refine lv_iload_n hx hb dL_examiners_206 rfl (lv_at hl 4 rfl) ?_
                                        refine lv_iload hx hb dL_examiners_207 (lv_at hl 7 rfl) ?_
                                        refine zl_ki (g := g) (rest := []) (zl_runH (g := g) (As := [.ref (sw_ad g 0), .int x3_9, .int x6_23]) (rest := []) hx hb hml hown hts (kL_gradeBy l hst (zl_re g H.size) z x3_9 x6_23) ch_L_gradeBy q_513 rfl rfl ⟨by rw [hRf]; exact (Nat.le_of_ble_eq_true rfl), by rw [hRl]; exact (Nat.le_of_ble_eq_true rfl)⟩ hW rfl hl.1 rfl (Nat.le_of_ble_eq_true rfl) dL_examiners_209 ⟨(zc1 (D := 8) g51 (Nat.le_of_ble_eq_true rfl)), (zc1 (D := 48) g53 (Nat.le_of_ble_eq_true rfl))⟩) hW (fun r9 z9 H locs h9 hW => ?_)
                                        obtain ⟨rfl, e9⟩ := h9
                                        rw [e9, s_gradeBy_z] at hW
                                        refine lv_bipush (v := -13) hx hb dL_examiners_212 (by decide) ?_
                                        refine lv_icmp_eq (tgt := 219) hx hb dL_examiners_214 (by decide) (fun k69 => ?_) (fun k69 => ?_)
                                        · replace h := h.1 k69
                                          obtain ⟨v70, ev70⟩ : ∃ z : Int32, z = x6_23 + (1 : Int32) := ⟨_, rfl⟩
                                          replace h := h v70 ev70
                                          refine lv_iinc (v := v70) (lv' := [(6, .int v70), (9, .int t0_116), (0, .ref (sw_ad g 0)), (1, .int v1), (2, .int x2_9), (3, .int x3_9), (4, .int v41), (5, .int v50), (7, .int t0_48), (8, .int t0_80)]) hx hb dL_examiners_219 hl (k := 7) rfl (by rw [ev70]; rfl) (Nat.le_of_ble_eq_true rfl) rfl (fun ls hl => ?_)
                                          refine lv_goto (tgt := 23) hx hb dL_examiners_222 (by decide) ?_
                                          exact ih23 v41 v50 v70 _ _ _ _ _ h (zc10 (zc1 (D := 8) g52 (Nat.le_of_ble_eq_true rfl)) hTcn23 hcn23) (zc10 (zc1 (D := 48) g54 (Nat.le_of_ble_eq_true rfl)) hTsn23 hsn23) hW (lv_sub hl [2, 3, 4, 5, 6, 7, 0] rfl)
                                        · replace h := h.2 k69
                                          refine lv_iconst (v := 0) hx hb dL_examiners_217 (by decide) ?_
                                          subst hQ0
                                          refine W.widen (k := 1284) (n := 7704) (Nat.le_trans (zc1 (D := 8) g51 (Nat.le_of_ble_eq_true rfl)) (Nat.le_of_eq hRc)) (Nat.le_trans (zc1 (D := 48) g53 (Nat.le_of_ble_eq_true rfl)) (Nat.le_of_eq hRs)) ?_
                                          exact zl_ri hx hb hr hlocks hW (by decide) ⟨h, rfl⟩ dL_examiners_218
                            · replace h := h.2 k57
                              refine lv_aload_n hx hb dL_examiners_160 rfl (lv_at hl 1 rfl) ?_
                              refine lv_iload_n hx hb dL_examiners_161 rfl (lv_at hl 4 rfl) ?_
                              refine lv_iload hx hb dL_examiners_162 (lv_at hl 7 rfl) ?_
                              refine zl_ki (g := g) (rest := []) (zl_runH (g := g) (As := [.ref (sw_ad g 0), .int x3_9, .int x6_23]) (rest := []) hx hb hml hown hts (kL_mayJudge l hst (zl_re g H.size) z x3_9 x6_23) ch_L_mayJudge q_624 rfl rfl ⟨by rw [hRf]; exact (Nat.le_of_ble_eq_true rfl), by rw [hRl]; exact (Nat.le_of_ble_eq_true rfl)⟩ hW rfl hl.1 rfl (Nat.le_of_ble_eq_true rfl) dL_examiners_164 ⟨(zc1 (D := 4) g51 (Nat.le_of_ble_eq_true rfl)), (zc1 (D := 24) g53 (Nat.le_of_ble_eq_true rfl))⟩) hW (fun r9 z9 H locs h9 hW => ?_)
                              obtain ⟨rfl, e9⟩ := h9
                              rw [e9, s_mayJudge_z] at hW
                              refine lv_if_eq (tgt := 217) hx hb dL_examiners_167 (by decide) (fun k71 => ?_) (fun k71 => ?_)
                              · replace h := h.1 k71
                                refine lv_iconst (v := 0) hx hb dL_examiners_217 (by decide) ?_
                                subst hQ0
                                refine W.widen (k := 1284) (n := 7704) (Nat.le_trans (zc1 (D := 4) g51 (Nat.le_of_ble_eq_true rfl)) (Nat.le_of_eq hRc)) (Nat.le_trans (zc1 (D := 24) g53 (Nat.le_of_ble_eq_true rfl)) (Nat.le_of_eq hRs)) ?_
                                exact zl_ri hx hb hr hlocks hW (by decide) ⟨h, rfl⟩ dL_examiners_218
                              · replace h := h.2 k71
                                refine lv_iload hx hb dL_examiners_170 (lv_at hl 9 rfl) ?_
                                refine lv_if_eq (tgt := 200) hx hb dL_examiners_172 (by decide) (fun k72 => ?_) (fun k72 => ?_)
                                · replace h := h.1 k72
                                  refine lv_iload hx hb dL_examiners_200 (lv_at hl 8 rfl) ?_
                                  refine lv_if_ne (tgt := 219) hx hb dL_examiners_202 (by decide) (fun k73 => ?_) (fun k73 => ?_)
                                  · replace h := h.2 k73
                                    obtain ⟨v74, ev74⟩ : ∃ z : Int32, z = x6_23 + (1 : Int32) := ⟨_, rfl⟩
                                    replace h := h v74 ev74
                                    refine lv_iinc (v := v74) (lv' := [(6, .int v74), (9, .int t0_116), (0, .ref (sw_ad g 0)), (1, .int v1), (2, .int x2_9), (3, .int x3_9), (4, .int v41), (5, .int v50), (7, .int t0_48), (8, .int t0_80)]) hx hb dL_examiners_219 hl (k := 7) rfl (by rw [ev74]; rfl) (Nat.le_of_ble_eq_true rfl) rfl (fun ls hl => ?_)
                                    refine lv_goto (tgt := 23) hx hb dL_examiners_222 (by decide) ?_
                                    exact ih23 v41 v50 v74 _ _ _ _ _ h (zc10 (zc1 (D := 4) g52 (Nat.le_of_ble_eq_true rfl)) hTcn23 hcn23) (zc10 (zc1 (D := 24) g54 (Nat.le_of_ble_eq_true rfl)) hTsn23 hsn23) hW (lv_sub hl [2, 3, 4, 5, 6, 7, 0] rfl)
                                  · replace h := h.1 k73
                                    refine lv_aload_n hx hb dL_examiners_205 rfl (lv_at hl 1 rfl) ?_
                                    refine lv_iload_n hx hb dL_examiners_206 rfl (lv_at hl 4 rfl) ?_
                                    refine lv_iload hx hb dL_examiners_207 (lv_at hl 7 rfl) ?_
                                    refine zl_ki (g := g) (rest := []) (zl_runH (g := g) (As := [.ref (sw_ad g 0), .int x3_9, .int x6_23]) (rest := []) hx hb hml hown hts (kL_gradeBy l hst (zl_re g H.size) z x3_9 x6_23) ch_L_gradeBy q_513 rfl rfl ⟨by rw [hRf]; exact (Nat.le_of_ble_eq_true rfl), by rw [hRl]; exact (Nat.le_of_ble_eq_true rfl)⟩ hW rfl hl.1 rfl (Nat.le_of_ble_eq_true rfl) dL_examiners_209 ⟨(zc1 (D := 7) g51 (Nat.le_of_ble_eq_true rfl)), (zc1 (D := 42) g53 (Nat.le_of_ble_eq_true rfl))⟩) hW (fun r9 z9 H locs h9 hW => ?_)
                                    obtain ⟨rfl, e9⟩ := h9
                                    rw [e9, s_gradeBy_z] at hW
                                    refine lv_bipush (v := -13) hx hb dL_examiners_212 (by decide) ?_
                                    refine lv_icmp_eq (tgt := 219) hx hb dL_examiners_214 (by decide) (fun k75 => ?_) (fun k75 => ?_)
                                    · replace h := h.1 k75
                                      obtain ⟨v76, ev76⟩ : ∃ z : Int32, z = x6_23 + (1 : Int32) := ⟨_, rfl⟩
                                      replace h := h v76 ev76
                                      refine lv_iinc (v := v76) (lv' := [(6, .int v76), (9, .int t0_116), (0, .ref (sw_ad g 0)), (1, .int v1), (2, .int x2_9), (3, .int x3_9), (4, .int v41), (5, .int v50), (7, .int t0_48), (8, .int t0_80)]) hx hb dL_examiners_219 hl (k := 7) rfl (by rw [ev76]; rfl) (Nat.le_of_ble_eq_true rfl) rfl (fun ls hl => ?_)
                                      refine lv_goto (tgt := 23) hx hb dL_examiners_222 (by decide) ?_
                                      exact ih23 v41 v50 v76 _ _ _ _ _ h (zc10 (zc1 (D := 7) g52 (Nat.le_of_ble_eq_true rfl)) hTcn23 hcn23) (zc10 (zc1 (D := 42) g54 (Nat.le_of_ble_eq_true rfl)) hTsn23 hsn23) hW (lv_sub hl [2, 3, 4, 5, 6, 7, 0] rfl)
                                    · replace h := h.2 k75
                                      refine lv_iconst (v := 0) hx hb dL_examiners_217 (by decide) ?_
                                      subst hQ0
                                      refine W.widen (k := 1284) (n := 7704) (Nat.le_trans (zc1 (D := 7) g51 (Nat.le_of_ble_eq_true rfl)) (Nat.le_of_eq hRc)) (Nat.le_trans (zc1 (D := 42) g53 (Nat.le_of_ble_eq_true rfl)) (Nat.le_of_eq hRs)) ?_
                                      exact zl_ri hx hb hr hlocks hW (by decide) ⟨h, rfl⟩ dL_examiners_218
                                · replace h := h.2 k72
                                  refine lv_iload hx hb dL_examiners_175 (lv_at hl 8 rfl) ?_
                                  refine lv_if_ne (tgt := 217) hx hb dL_examiners_177 (by decide) (fun k77 => ?_) (fun k77 => ?_)
                                  · replace h := h.2 k77
                                    refine lv_iconst (v := 0) hx hb dL_examiners_217 (by decide) ?_
                                    subst hQ0
                                    refine W.widen (k := 1284) (n := 7704) (Nat.le_trans (zc1 (D := 4) g51 (Nat.le_of_ble_eq_true rfl)) (Nat.le_of_eq hRc)) (Nat.le_trans (zc1 (D := 24) g53 (Nat.le_of_ble_eq_true rfl)) (Nat.le_of_eq hRs)) ?_
                                    exact zl_ri hx hb hr hlocks hW (by decide) ⟨h, rfl⟩ dL_examiners_218
                                  · replace h := h.1 k77
                                    refine lv_aload_n hx hb dL_examiners_180 rfl (lv_at hl 1 rfl) ?_
                                    refine lv_iload_n hx hb dL_examiners_181 rfl (lv_at hl 4 rfl) ?_
                                    refine lv_iload hx hb dL_examiners_182 (lv_at hl 7 rfl) ?_
                                    refine zl_ki (g := g) (rest := []) (zl_runH (g := g) (As := [.ref (sw_ad g 0), .int x3_9, .int x6_23]) (rest := []) hx hb hml hown hts (kL_mayJudge l hst (zl_re g H.size) z x3_9 x6_23) ch_L_mayJudge q_624 rfl rfl ⟨by rw [hRf]; exact (Nat.le_of_ble_eq_true rfl), by rw [hRl]; exact (Nat.le_of_ble_eq_true rfl)⟩ hW rfl hl.1 rfl (Nat.le_of_ble_eq_true rfl) dL_examiners_184 ⟨(zc1 (D := 6) g51 (Nat.le_of_ble_eq_true rfl)), (zc1 (D := 36) g53 (Nat.le_of_ble_eq_true rfl))⟩) hW (fun r9 z9 H locs h9 hW => ?_)
                                    obtain ⟨rfl, e9⟩ := h9
                                    rw [e9, s_mayJudge_z] at hW
                                    refine lv_if_eq (tgt := 217) hx hb dL_examiners_187 (by decide) (fun k78 => ?_) (fun k78 => ?_)
                                    · replace h := h.1 k78
                                      refine lv_iconst (v := 0) hx hb dL_examiners_217 (by decide) ?_
                                      subst hQ0
                                      refine W.widen (k := 1284) (n := 7704) (Nat.le_trans (zc1 (D := 6) g51 (Nat.le_of_ble_eq_true rfl)) (Nat.le_of_eq hRc)) (Nat.le_trans (zc1 (D := 36) g53 (Nat.le_of_ble_eq_true rfl)) (Nat.le_of_eq hRs)) ?_
                                      exact zl_ri hx hb hr hlocks hW (by decide) ⟨h, rfl⟩ dL_examiners_218
                                    · replace h := h.2 k78
                                      refine lv_aload_n hx hb dL_examiners_190 rfl (lv_at hl 1 rfl) ?_
                                      refine lv_iload hx hb dL_examiners_191 (lv_at hl 7 rfl) ?_
                                      have y79 := h.1
                                      replace h := h.2
                                      refine zl_ki (g := g) (rest := []) (zl_runV (g := g) (As := [.int x6_23]) (rest := []) hx hb hml hown hts (zD_examinersOf l hst (zl_re g H.size) z x6_23 y79) cv_X6_examinersOf q_532 rfl rfl ⟨by rw [hRf]; exact (Nat.le_of_ble_eq_true rfl), by rw [hRl]; exact (Nat.le_of_ble_eq_true rfl)⟩ hW (Or.inl (Nat.le_of_ble_eq_true rfl)) sl_0 rfl rfl hl.1 rfl (Nat.le_of_ble_eq_true rfl) dL_examiners_193 ⟨(zc1 (D := 7) g51 (Nat.le_of_ble_eq_true rfl)), (zc1 (D := 42) g53 (Nat.le_of_ble_eq_true rfl))⟩) hW (fun r9 z9 H locs h9 hW => ?_)
                                      clear y79
                                      obtain ⟨rfl, e9⟩ := h9
                                      rw [e9, s_examinersOf_z] at hW
                                      refine lv_iconst (v := 3) hx hb dL_examiners_196 (by decide) ?_
                                      refine lv_icmp_eq (tgt := 217) hx hb dL_examiners_197 (by decide) (fun k80 => ?_) (fun k80 => ?_)
                                      · replace h := h.1 k80
                                        refine lv_iconst (v := 0) hx hb dL_examiners_217 (by decide) ?_
                                        subst hQ0
                                        refine W.widen (k := 1284) (n := 7704) (Nat.le_trans (zc1 (D := 7) g51 (Nat.le_of_ble_eq_true rfl)) (Nat.le_of_eq hRc)) (Nat.le_trans (zc1 (D := 42) g53 (Nat.le_of_ble_eq_true rfl)) (Nat.le_of_eq hRs)) ?_
                                        exact zl_ri hx hb hr hlocks hW (by decide) ⟨h, rfl⟩ dL_examiners_218
                                      · replace h := h.2 k80
                                        refine lv_iload hx hb dL_examiners_200 (lv_at hl 8 rfl) ?_
                                        refine lv_if_ne (tgt := 219) hx hb dL_examiners_202 (by decide) (fun k81 => ?_) (fun k81 => ?_)
                                        · replace h := h.2 k81
                                          obtain ⟨v82, ev82⟩ : ∃ z : Int32, z = x6_23 + (1 : Int32) := ⟨_, rfl⟩
                                          replace h := h v82 ev82
                                          refine lv_iinc (v := v82) (lv' := [(6, .int v82), (9, .int t0_116), (0, .ref (sw_ad g 0)), (1, .int v1), (2, .int x2_9), (3, .int x3_9), (4, .int v41), (5, .int v50), (7, .int t0_48), (8, .int t0_80)]) hx hb dL_examiners_219 hl (k := 7) rfl (by rw [ev82]; rfl) (Nat.le_of_ble_eq_true rfl) rfl (fun ls hl => ?_)
                                          refine lv_goto (tgt := 23) hx hb dL_examiners_222 (by decide) ?_
                                          exact ih23 v41 v50 v82 _ _ _ _ _ h (zc10 (zc1 (D := 7) g52 (Nat.le_of_ble_eq_true rfl)) hTcn23 hcn23) (zc10 (zc1 (D := 42) g54 (Nat.le_of_ble_eq_true rfl)) hTsn23 hsn23) hW (lv_sub hl [2, 3, 4, 5, 6, 7, 0] rfl)
                                        · replace h := h.1 k81
                                          refine lv_aload_n hx hb dL_examiners_205 rfl (lv_at hl 1 rfl) ?_
                                          refine lv_iload_n hx hb dL_examiners_206 rfl (lv_at hl 4 rfl) ?_
                                          refine lv_iload hx hb dL_examiners_207 (lv_at hl 7 rfl) ?_
                                          refine zl_ki (g := g) (rest := []) (zl_runH (g := g) (As := [.ref (sw_ad g 0), .int x3_9, .int x6_23]) (rest := []) hx hb hml hown hts (kL_gradeBy l hst (zl_re g H.size) z x3_9 x6_23) ch_L_gradeBy q_513 rfl rfl ⟨by rw [hRf]; exact (Nat.le_of_ble_eq_true rfl), by rw [hRl]; exact (Nat.le_of_ble_eq_true rfl)⟩ hW rfl hl.1 rfl (Nat.le_of_ble_eq_true rfl) dL_examiners_209 ⟨(zc1 (D := 10) g51 (Nat.le_of_ble_eq_true rfl)), (zc1 (D := 60) g53 (Nat.le_of_ble_eq_true rfl))⟩) hW (fun r9 z9 H locs h9 hW => ?_)
                                          obtain ⟨rfl, e9⟩ := h9
                                          rw [e9, s_gradeBy_z] at hW
                                          refine lv_bipush (v := -13) hx hb dL_examiners_212 (by decide) ?_
                                          refine lv_icmp_eq (tgt := 219) hx hb dL_examiners_214 (by decide) (fun k83 => ?_) (fun k83 => ?_)
                                          · replace h := h.1 k83
                                            obtain ⟨v84, ev84⟩ : ∃ z : Int32, z = x6_23 + (1 : Int32) := ⟨_, rfl⟩
                                            replace h := h v84 ev84
                                            refine lv_iinc (v := v84) (lv' := [(6, .int v84), (9, .int t0_116), (0, .ref (sw_ad g 0)), (1, .int v1), (2, .int x2_9), (3, .int x3_9), (4, .int v41), (5, .int v50), (7, .int t0_48), (8, .int t0_80)]) hx hb dL_examiners_219 hl (k := 7) rfl (by rw [ev84]; rfl) (Nat.le_of_ble_eq_true rfl) rfl (fun ls hl => ?_)
                                            refine lv_goto (tgt := 23) hx hb dL_examiners_222 (by decide) ?_
                                            exact ih23 v41 v50 v84 _ _ _ _ _ h (zc10 (zc1 (D := 10) g52 (Nat.le_of_ble_eq_true rfl)) hTcn23 hcn23) (zc10 (zc1 (D := 60) g54 (Nat.le_of_ble_eq_true rfl)) hTsn23 hsn23) hW (lv_sub hl [2, 3, 4, 5, 6, 7, 0] rfl)
                                          · replace h := h.2 k83
                                            refine lv_iconst (v := 0) hx hb dL_examiners_217 (by decide) ?_
                                            subst hQ0
                                            refine W.widen (k := 1284) (n := 7704) (Nat.le_trans (zc1 (D := 10) g51 (Nat.le_of_ble_eq_true rfl)) (Nat.le_of_eq hRc)) (Nat.le_trans (zc1 (D := 60) g53 (Nat.le_of_ble_eq_true rfl)) (Nat.le_of_eq hRs)) ?_
                                            exact zl_ri hx hb hr hlocks hW (by decide) ⟨h, rfl⟩ dL_examiners_218
                          · replace h := h.1 k56
                            refine lv_aload_n hx hb dL_examiners_145 rfl (lv_at hl 1 rfl) ?_
                            refine lv_iload_n hx hb dL_examiners_146 rfl (lv_at hl 4 rfl) ?_
                            refine lv_iload hx hb dL_examiners_147 (lv_at hl 7 rfl) ?_
                            refine zl_ki (g := g) (rest := []) (zl_runH (g := g) (As := [.ref (sw_ad g 0), .int x3_9, .int x6_23]) (rest := []) hx hb hml hown hts (kL_isNeutral l hst (zl_re g H.size) z x3_9 x6_23) ch_L_isNeutral q_617 rfl rfl ⟨by rw [hRf]; exact (Nat.le_of_ble_eq_true rfl), by rw [hRl]; exact (Nat.le_of_ble_eq_true rfl)⟩ hW rfl hl.1 rfl (Nat.le_of_ble_eq_true rfl) dL_examiners_149 ⟨(zc1 (D := 4) g51 (Nat.le_of_ble_eq_true rfl)), (zc1 (D := 24) g53 (Nat.le_of_ble_eq_true rfl))⟩) hW (fun r9 z9 H locs h9 hW => ?_)
                            obtain ⟨rfl, e9⟩ := h9
                            rw [e9, s_isNeutral_z] at hW
                            refine lv_if_eq (tgt := 217) hx hb dL_examiners_152 (by decide) (fun k85 => ?_) (fun k85 => ?_)
                            · replace h := h.1 k85
                              refine lv_iconst (v := 0) hx hb dL_examiners_217 (by decide) ?_
                              subst hQ0
                              refine W.widen (k := 1284) (n := 7704) (Nat.le_trans (zc1 (D := 4) g51 (Nat.le_of_ble_eq_true rfl)) (Nat.le_of_eq hRc)) (Nat.le_trans (zc1 (D := 24) g53 (Nat.le_of_ble_eq_true rfl)) (Nat.le_of_eq hRs)) ?_
                              exact zl_ri hx hb hr hlocks hW (by decide) ⟨h, rfl⟩ dL_examiners_218
                            · replace h := h.2 k85
                              refine lv_iload hx hb dL_examiners_155 (lv_at hl 8 rfl) ?_
                              refine lv_if_eq (tgt := 170) hx hb dL_examiners_157 (by decide) (fun k86 => ?_) (fun k86 => ?_)
                              · replace h := h.1 k86
                                refine lv_iload hx hb dL_examiners_170 (lv_at hl 9 rfl) ?_
                                refine lv_if_eq (tgt := 200) hx hb dL_examiners_172 (by decide) (fun k87 => ?_) (fun k87 => ?_)
                                · replace h := h.1 k87
                                  refine lv_iload hx hb dL_examiners_200 (lv_at hl 8 rfl) ?_
                                  refine lv_if_ne (tgt := 219) hx hb dL_examiners_202 (by decide) (fun k88 => ?_) (fun k88 => ?_)
                                  · replace h := h.2 k88
                                    obtain ⟨v89, ev89⟩ : ∃ z : Int32, z = x6_23 + (1 : Int32) := ⟨_, rfl⟩
                                    replace h := h v89 ev89
                                    refine lv_iinc (v := v89) (lv' := [(6, .int v89), (9, .int t0_116), (0, .ref (sw_ad g 0)), (1, .int v1), (2, .int x2_9), (3, .int x3_9), (4, .int v41), (5, .int v50), (7, .int t0_48), (8, .int t0_80)]) hx hb dL_examiners_219 hl (k := 7) rfl (by rw [ev89]; rfl) (Nat.le_of_ble_eq_true rfl) rfl (fun ls hl => ?_)
                                    refine lv_goto (tgt := 23) hx hb dL_examiners_222 (by decide) ?_
                                    exact ih23 v41 v50 v89 _ _ _ _ _ h (zc10 (zc1 (D := 4) g52 (Nat.le_of_ble_eq_true rfl)) hTcn23 hcn23) (zc10 (zc1 (D := 24) g54 (Nat.le_of_ble_eq_true rfl)) hTsn23 hsn23) hW (lv_sub hl [2, 3, 4, 5, 6, 7, 0] rfl)
                                  · replace h := h.1 k88
                                    refine lv_aload_n hx hb dL_examiners_205 rfl (lv_at hl 1 rfl) ?_
                                    refine lv_iload_n hx hb dL_examiners_206 rfl (lv_at hl 4 rfl) ?_
                                    refine lv_iload hx hb dL_examiners_207 (lv_at hl 7 rfl) ?_
                                    refine zl_ki (g := g) (rest := []) (zl_runH (g := g) (As := [.ref (sw_ad g 0), .int x3_9, .int x6_23]) (rest := []) hx hb hml hown hts (kL_gradeBy l hst (zl_re g H.size) z x3_9 x6_23) ch_L_gradeBy q_513 rfl rfl ⟨by rw [hRf]; exact (Nat.le_of_ble_eq_true rfl), by rw [hRl]; exact (Nat.le_of_ble_eq_true rfl)⟩ hW rfl hl.1 rfl (Nat.le_of_ble_eq_true rfl) dL_examiners_209 ⟨(zc1 (D := 7) g51 (Nat.le_of_ble_eq_true rfl)), (zc1 (D := 42) g53 (Nat.le_of_ble_eq_true rfl))⟩) hW (fun r9 z9 H locs h9 hW => ?_)
                                    obtain ⟨rfl, e9⟩ := h9
                                    rw [e9, s_gradeBy_z] at hW
                                    refine lv_bipush (v := -13) hx hb dL_examiners_212 (by decide) ?_
                                    refine lv_icmp_eq (tgt := 219) hx hb dL_examiners_214 (by decide) (fun k90 => ?_) (fun k90 => ?_)
                                    · replace h := h.1 k90
                                      obtain ⟨v91, ev91⟩ : ∃ z : Int32, z = x6_23 + (1 : Int32) := ⟨_, rfl⟩
                                      replace h := h v91 ev91
                                      refine lv_iinc (v := v91) (lv' := [(6, .int v91), (9, .int t0_116), (0, .ref (sw_ad g 0)), (1, .int v1), (2, .int x2_9), (3, .int x3_9), (4, .int v41), (5, .int v50), (7, .int t0_48), (8, .int t0_80)]) hx hb dL_examiners_219 hl (k := 7) rfl (by rw [ev91]; rfl) (Nat.le_of_ble_eq_true rfl) rfl (fun ls hl => ?_)
                                      refine lv_goto (tgt := 23) hx hb dL_examiners_222 (by decide) ?_
                                      exact ih23 v41 v50 v91 _ _ _ _ _ h (zc10 (zc1 (D := 7) g52 (Nat.le_of_ble_eq_true rfl)) hTcn23 hcn23) (zc10 (zc1 (D := 42) g54 (Nat.le_of_ble_eq_true rfl)) hTsn23 hsn23) hW (lv_sub hl [2, 3, 4, 5, 6, 7, 0] rfl)
                                    · replace h := h.2 k90
                                      refine lv_iconst (v := 0) hx hb dL_examiners_217 (by decide) ?_
                                      subst hQ0
                                      refine W.widen (k := 1284) (n := 7704) (Nat.le_trans (zc1 (D := 7) g51 (Nat.le_of_ble_eq_true rfl)) (Nat.le_of_eq hRc)) (Nat.le_trans (zc1 (D := 42) g53 (Nat.le_of_ble_eq_true rfl)) (Nat.le_of_eq hRs)) ?_
                                      exact zl_ri hx hb hr hlocks hW (by decide) ⟨h, rfl⟩ dL_examiners_218
                                · replace h := h.2 k87
                                  refine lv_iload hx hb dL_examiners_175 (lv_at hl 8 rfl) ?_
                                  refine lv_if_ne (tgt := 217) hx hb dL_examiners_177 (by decide) (fun k92 => ?_) (fun k92 => ?_)
                                  · replace h := h.2 k92
                                    refine lv_iconst (v := 0) hx hb dL_examiners_217 (by decide) ?_
                                    subst hQ0
                                    refine W.widen (k := 1284) (n := 7704) (Nat.le_trans (zc1 (D := 4) g51 (Nat.le_of_ble_eq_true rfl)) (Nat.le_of_eq hRc)) (Nat.le_trans (zc1 (D := 24) g53 (Nat.le_of_ble_eq_true rfl)) (Nat.le_of_eq hRs)) ?_
                                    exact zl_ri hx hb hr hlocks hW (by decide) ⟨h, rfl⟩ dL_examiners_218
                                  · replace h := h.1 k92
                                    refine lv_aload_n hx hb dL_examiners_180 rfl (lv_at hl 1 rfl) ?_
                                    refine lv_iload_n hx hb dL_examiners_181 rfl (lv_at hl 4 rfl) ?_
                                    refine lv_iload hx hb dL_examiners_182 (lv_at hl 7 rfl) ?_
                                    refine zl_ki (g := g) (rest := []) (zl_runH (g := g) (As := [.ref (sw_ad g 0), .int x3_9, .int x6_23]) (rest := []) hx hb hml hown hts (kL_mayJudge l hst (zl_re g H.size) z x3_9 x6_23) ch_L_mayJudge q_624 rfl rfl ⟨by rw [hRf]; exact (Nat.le_of_ble_eq_true rfl), by rw [hRl]; exact (Nat.le_of_ble_eq_true rfl)⟩ hW rfl hl.1 rfl (Nat.le_of_ble_eq_true rfl) dL_examiners_184 ⟨(zc1 (D := 6) g51 (Nat.le_of_ble_eq_true rfl)), (zc1 (D := 36) g53 (Nat.le_of_ble_eq_true rfl))⟩) hW (fun r9 z9 H locs h9 hW => ?_)
                                    obtain ⟨rfl, e9⟩ := h9
                                    rw [e9, s_mayJudge_z] at hW
                                    refine lv_if_eq (tgt := 217) hx hb dL_examiners_187 (by decide) (fun k93 => ?_) (fun k93 => ?_)
                                    · replace h := h.1 k93
                                      refine lv_iconst (v := 0) hx hb dL_examiners_217 (by decide) ?_
                                      subst hQ0
                                      refine W.widen (k := 1284) (n := 7704) (Nat.le_trans (zc1 (D := 6) g51 (Nat.le_of_ble_eq_true rfl)) (Nat.le_of_eq hRc)) (Nat.le_trans (zc1 (D := 36) g53 (Nat.le_of_ble_eq_true rfl)) (Nat.le_of_eq hRs)) ?_
                                      exact zl_ri hx hb hr hlocks hW (by decide) ⟨h, rfl⟩ dL_examiners_218
                                    · replace h := h.2 k93
                                      refine lv_aload_n hx hb dL_examiners_190 rfl (lv_at hl 1 rfl) ?_
                                      refine lv_iload hx hb dL_examiners_191 (lv_at hl 7 rfl) ?_
                                      have y94 := h.1
                                      replace h := h.2
                                      refine zl_ki (g := g) (rest := []) (zl_runV (g := g) (As := [.int x6_23]) (rest := []) hx hb hml hown hts (zD_examinersOf l hst (zl_re g H.size) z x6_23 y94) cv_X6_examinersOf q_532 rfl rfl ⟨by rw [hRf]; exact (Nat.le_of_ble_eq_true rfl), by rw [hRl]; exact (Nat.le_of_ble_eq_true rfl)⟩ hW (Or.inl (Nat.le_of_ble_eq_true rfl)) sl_0 rfl rfl hl.1 rfl (Nat.le_of_ble_eq_true rfl) dL_examiners_193 ⟨(zc1 (D := 7) g51 (Nat.le_of_ble_eq_true rfl)), (zc1 (D := 42) g53 (Nat.le_of_ble_eq_true rfl))⟩) hW (fun r9 z9 H locs h9 hW => ?_)
                                      clear y94
                                      obtain ⟨rfl, e9⟩ := h9
                                      rw [e9, s_examinersOf_z] at hW
                                      refine lv_iconst (v := 3) hx hb dL_examiners_196 (by decide) ?_
                                      refine lv_icmp_eq (tgt := 217) hx hb dL_examiners_197 (by decide) (fun k95 => ?_) (fun k95 => ?_)
                                      · replace h := h.1 k95
                                        refine lv_iconst (v := 0) hx hb dL_examiners_217 (by decide) ?_
                                        subst hQ0
                                        refine W.widen (k := 1284) (n := 7704) (Nat.le_trans (zc1 (D := 7) g51 (Nat.le_of_ble_eq_true rfl)) (Nat.le_of_eq hRc)) (Nat.le_trans (zc1 (D := 42) g53 (Nat.le_of_ble_eq_true rfl)) (Nat.le_of_eq hRs)) ?_
                                        exact zl_ri hx hb hr hlocks hW (by decide) ⟨h, rfl⟩ dL_examiners_218
                                      · replace h := h.2 k95
                                        refine lv_iload hx hb dL_examiners_200 (lv_at hl 8 rfl) ?_
                                        refine lv_if_ne (tgt := 219) hx hb dL_examiners_202 (by decide) (fun k96 => ?_) (fun k96 => ?_)
                                        · replace h := h.2 k96
                                          obtain ⟨v97, ev97⟩ : ∃ z : Int32, z = x6_23 + (1 : Int32) := ⟨_, rfl⟩
                                          replace h := h v97 ev97
                                          refine lv_iinc (v := v97) (lv' := [(6, .int v97), (9, .int t0_116), (0, .ref (sw_ad g 0)), (1, .int v1), (2, .int x2_9), (3, .int x3_9), (4, .int v41), (5, .int v50), (7, .int t0_48), (8, .int t0_80)]) hx hb dL_examiners_219 hl (k := 7) rfl (by rw [ev97]; rfl) (Nat.le_of_ble_eq_true rfl) rfl (fun ls hl => ?_)
                                          refine lv_goto (tgt := 23) hx hb dL_examiners_222 (by decide) ?_
                                          exact ih23 v41 v50 v97 _ _ _ _ _ h (zc10 (zc1 (D := 7) g52 (Nat.le_of_ble_eq_true rfl)) hTcn23 hcn23) (zc10 (zc1 (D := 42) g54 (Nat.le_of_ble_eq_true rfl)) hTsn23 hsn23) hW (lv_sub hl [2, 3, 4, 5, 6, 7, 0] rfl)
                                        · replace h := h.1 k96
                                          refine lv_aload_n hx hb dL_examiners_205 rfl (lv_at hl 1 rfl) ?_
                                          refine lv_iload_n hx hb dL_examiners_206 rfl (lv_at hl 4 rfl) ?_
                                          refine lv_iload hx hb dL_examiners_207 (lv_at hl 7 rfl) ?_
                                          refine zl_ki (g := g) (rest := []) (zl_runH (g := g) (As := [.ref (sw_ad g 0), .int x3_9, .int x6_23]) (rest := []) hx hb hml hown hts (kL_gradeBy l hst (zl_re g H.size) z x3_9 x6_23) ch_L_gradeBy q_513 rfl rfl ⟨by rw [hRf]; exact (Nat.le_of_ble_eq_true rfl), by rw [hRl]; exact (Nat.le_of_ble_eq_true rfl)⟩ hW rfl hl.1 rfl (Nat.le_of_ble_eq_true rfl) dL_examiners_209 ⟨(zc1 (D := 10) g51 (Nat.le_of_ble_eq_true rfl)), (zc1 (D := 60) g53 (Nat.le_of_ble_eq_true rfl))⟩) hW (fun r9 z9 H locs h9 hW => ?_)
                                          obtain ⟨rfl, e9⟩ := h9
                                          rw [e9, s_gradeBy_z] at hW
                                          refine lv_bipush (v := -13) hx hb dL_examiners_212 (by decide) ?_
                                          refine lv_icmp_eq (tgt := 219) hx hb dL_examiners_214 (by decide) (fun k98 => ?_) (fun k98 => ?_)
                                          · replace h := h.1 k98
                                            obtain ⟨v99, ev99⟩ : ∃ z : Int32, z = x6_23 + (1 : Int32) := ⟨_, rfl⟩
                                            replace h := h v99 ev99
                                            refine lv_iinc (v := v99) (lv' := [(6, .int v99), (9, .int t0_116), (0, .ref (sw_ad g 0)), (1, .int v1), (2, .int x2_9), (3, .int x3_9), (4, .int v41), (5, .int v50), (7, .int t0_48), (8, .int t0_80)]) hx hb dL_examiners_219 hl (k := 7) rfl (by rw [ev99]; rfl) (Nat.le_of_ble_eq_true rfl) rfl (fun ls hl => ?_)
                                            refine lv_goto (tgt := 23) hx hb dL_examiners_222 (by decide) ?_
                                            exact ih23 v41 v50 v99 _ _ _ _ _ h (zc10 (zc1 (D := 10) g52 (Nat.le_of_ble_eq_true rfl)) hTcn23 hcn23) (zc10 (zc1 (D := 60) g54 (Nat.le_of_ble_eq_true rfl)) hTsn23 hsn23) hW (lv_sub hl [2, 3, 4, 5, 6, 7, 0] rfl)
                                          · replace h := h.2 k98
                                            refine lv_iconst (v := 0) hx hb dL_examiners_217 (by decide) ?_
                                            subst hQ0
                                            refine W.widen (k := 1284) (n := 7704) (Nat.le_trans (zc1 (D := 10) g51 (Nat.le_of_ble_eq_true rfl)) (Nat.le_of_eq hRc)) (Nat.le_trans (zc1 (D := 60) g53 (Nat.le_of_ble_eq_true rfl)) (Nat.le_of_eq hRs)) ?_
                                            exact zl_ri hx hb hr hlocks hW (by decide) ⟨h, rfl⟩ dL_examiners_218
                              · replace h := h.2 k86
                                refine lv_aload_n hx hb dL_examiners_160 rfl (lv_at hl 1 rfl) ?_
                                refine lv_iload_n hx hb dL_examiners_161 rfl (lv_at hl 4 rfl) ?_
                                refine lv_iload hx hb dL_examiners_162 (lv_at hl 7 rfl) ?_
                                refine zl_ki (g := g) (rest := []) (zl_runH (g := g) (As := [.ref (sw_ad g 0), .int x3_9, .int x6_23]) (rest := []) hx hb hml hown hts (kL_mayJudge l hst (zl_re g H.size) z x3_9 x6_23) ch_L_mayJudge q_624 rfl rfl ⟨by rw [hRf]; exact (Nat.le_of_ble_eq_true rfl), by rw [hRl]; exact (Nat.le_of_ble_eq_true rfl)⟩ hW rfl hl.1 rfl (Nat.le_of_ble_eq_true rfl) dL_examiners_164 ⟨(zc1 (D := 6) g51 (Nat.le_of_ble_eq_true rfl)), (zc1 (D := 36) g53 (Nat.le_of_ble_eq_true rfl))⟩) hW (fun r9 z9 H locs h9 hW => ?_)
                                obtain ⟨rfl, e9⟩ := h9
                                rw [e9, s_mayJudge_z] at hW
                                refine lv_if_eq (tgt := 217) hx hb dL_examiners_167 (by decide) (fun k100 => ?_) (fun k100 => ?_)
                                · replace h := h.1 k100
                                  refine lv_iconst (v := 0) hx hb dL_examiners_217 (by decide) ?_
                                  subst hQ0
                                  refine W.widen (k := 1284) (n := 7704) (Nat.le_trans (zc1 (D := 6) g51 (Nat.le_of_ble_eq_true rfl)) (Nat.le_of_eq hRc)) (Nat.le_trans (zc1 (D := 36) g53 (Nat.le_of_ble_eq_true rfl)) (Nat.le_of_eq hRs)) ?_
                                  exact zl_ri hx hb hr hlocks hW (by decide) ⟨h, rfl⟩ dL_examiners_218
                                · replace h := h.2 k100
                                  refine lv_iload hx hb dL_examiners_170 (lv_at hl 9 rfl) ?_
                                  refine lv_if_eq (tgt := 200) hx hb dL_examiners_172 (by decide) (fun k101 => ?_) (fun k101 => ?_)
                                  · replace h := h.1 k101
                                    refine lv_iload hx hb dL_examiners_200 (lv_at hl 8 rfl) ?_
                                    refine lv_if_ne (tgt := 219) hx hb dL_examiners_202 (by decide) (fun k102 => ?_) (fun k102 => ?_)
                                    · replace h := h.2 k102
                                      obtain ⟨v103, ev103⟩ : ∃ z : Int32, z = x6_23 + (1 : Int32) := ⟨_, rfl⟩
                                      replace h := h v103 ev103
                                      refine lv_iinc (v := v103) (lv' := [(6, .int v103), (9, .int t0_116), (0, .ref (sw_ad g 0)), (1, .int v1), (2, .int x2_9), (3, .int x3_9), (4, .int v41), (5, .int v50), (7, .int t0_48), (8, .int t0_80)]) hx hb dL_examiners_219 hl (k := 7) rfl (by rw [ev103]; rfl) (Nat.le_of_ble_eq_true rfl) rfl (fun ls hl => ?_)
                                      refine lv_goto (tgt := 23) hx hb dL_examiners_222 (by decide) ?_
                                      exact ih23 v41 v50 v103 _ _ _ _ _ h (zc10 (zc1 (D := 6) g52 (Nat.le_of_ble_eq_true rfl)) hTcn23 hcn23) (zc10 (zc1 (D := 36) g54 (Nat.le_of_ble_eq_true rfl)) hTsn23 hsn23) hW (lv_sub hl [2, 3, 4, 5, 6, 7, 0] rfl)
                                    · replace h := h.1 k102
                                      refine lv_aload_n hx hb dL_examiners_205 rfl (lv_at hl 1 rfl) ?_
                                      refine lv_iload_n hx hb dL_examiners_206 rfl (lv_at hl 4 rfl) ?_
                                      refine lv_iload hx hb dL_examiners_207 (lv_at hl 7 rfl) ?_
                                      refine zl_ki (g := g) (rest := []) (zl_runH (g := g) (As := [.ref (sw_ad g 0), .int x3_9, .int x6_23]) (rest := []) hx hb hml hown hts (kL_gradeBy l hst (zl_re g H.size) z x3_9 x6_23) ch_L_gradeBy q_513 rfl rfl ⟨by rw [hRf]; exact (Nat.le_of_ble_eq_true rfl), by rw [hRl]; exact (Nat.le_of_ble_eq_true rfl)⟩ hW rfl hl.1 rfl (Nat.le_of_ble_eq_true rfl) dL_examiners_209 ⟨(zc1 (D := 9) g51 (Nat.le_of_ble_eq_true rfl)), (zc1 (D := 54) g53 (Nat.le_of_ble_eq_true rfl))⟩) hW (fun r9 z9 H locs h9 hW => ?_)
                                      obtain ⟨rfl, e9⟩ := h9
                                      rw [e9, s_gradeBy_z] at hW
                                      refine lv_bipush (v := -13) hx hb dL_examiners_212 (by decide) ?_
                                      refine lv_icmp_eq (tgt := 219) hx hb dL_examiners_214 (by decide) (fun k104 => ?_) (fun k104 => ?_)
                                      · replace h := h.1 k104
                                        obtain ⟨v105, ev105⟩ : ∃ z : Int32, z = x6_23 + (1 : Int32) := ⟨_, rfl⟩
                                        replace h := h v105 ev105
                                        refine lv_iinc (v := v105) (lv' := [(6, .int v105), (9, .int t0_116), (0, .ref (sw_ad g 0)), (1, .int v1), (2, .int x2_9), (3, .int x3_9), (4, .int v41), (5, .int v50), (7, .int t0_48), (8, .int t0_80)]) hx hb dL_examiners_219 hl (k := 7) rfl (by rw [ev105]; rfl) (Nat.le_of_ble_eq_true rfl) rfl (fun ls hl => ?_)
                                        refine lv_goto (tgt := 23) hx hb dL_examiners_222 (by decide) ?_
                                        exact ih23 v41 v50 v105 _ _ _ _ _ h (zc10 (zc1 (D := 9) g52 (Nat.le_of_ble_eq_true rfl)) hTcn23 hcn23) (zc10 (zc1 (D := 54) g54 (Nat.le_of_ble_eq_true rfl)) hTsn23 hsn23) hW (lv_sub hl [2, 3, 4, 5, 6, 7, 0] rfl)
                                      · replace h := h.2 k104
                                        refine lv_iconst (v := 0) hx hb dL_examiners_217 (by decide) ?_
                                        subst hQ0
                                        refine W.widen (k := 1284) (n := 7704) (Nat.le_trans (zc1 (D := 9) g51 (Nat.le_of_ble_eq_true rfl)) (Nat.le_of_eq hRc)) (Nat.le_trans (zc1 (D := 54) g53 (Nat.le_of_ble_eq_true rfl)) (Nat.le_of_eq hRs)) ?_
                                        exact zl_ri hx hb hr hlocks hW (by decide) ⟨h, rfl⟩ dL_examiners_218
                                  · replace h := h.2 k101
                                    refine lv_iload hx hb dL_examiners_175 (lv_at hl 8 rfl) ?_
                                    refine lv_if_ne (tgt := 217) hx hb dL_examiners_177 (by decide) (fun k106 => ?_) (fun k106 => ?_)
                                    · replace h := h.2 k106
                                      refine lv_iconst (v := 0) hx hb dL_examiners_217 (by decide) ?_
                                      subst hQ0
                                      refine W.widen (k := 1284) (n := 7704) (Nat.le_trans (zc1 (D := 6) g51 (Nat.le_of_ble_eq_true rfl)) (Nat.le_of_eq hRc)) (Nat.le_trans (zc1 (D := 36) g53 (Nat.le_of_ble_eq_true rfl)) (Nat.le_of_eq hRs)) ?_
                                      exact zl_ri hx hb hr hlocks hW (by decide) ⟨h, rfl⟩ dL_examiners_218
                                    · replace h := h.1 k106
                                      refine lv_aload_n hx hb dL_examiners_180 rfl (lv_at hl 1 rfl) ?_
                                      refine lv_iload_n hx hb dL_examiners_181 rfl (lv_at hl 4 rfl) ?_
                                      refine lv_iload hx hb dL_examiners_182 (lv_at hl 7 rfl) ?_
                                      refine zl_ki (g := g) (rest := []) (zl_runH (g := g) (As := [.ref (sw_ad g 0), .int x3_9, .int x6_23]) (rest := []) hx hb hml hown hts (kL_mayJudge l hst (zl_re g H.size) z x3_9 x6_23) ch_L_mayJudge q_624 rfl rfl ⟨by rw [hRf]; exact (Nat.le_of_ble_eq_true rfl), by rw [hRl]; exact (Nat.le_of_ble_eq_true rfl)⟩ hW rfl hl.1 rfl (Nat.le_of_ble_eq_true rfl) dL_examiners_184 ⟨(zc1 (D := 8) g51 (Nat.le_of_ble_eq_true rfl)), (zc1 (D := 48) g53 (Nat.le_of_ble_eq_true rfl))⟩) hW (fun r9 z9 H locs h9 hW => ?_)
                                      obtain ⟨rfl, e9⟩ := h9
                                      rw [e9, s_mayJudge_z] at hW
                                      refine lv_if_eq (tgt := 217) hx hb dL_examiners_187 (by decide) (fun k107 => ?_) (fun k107 => ?_)
                                      · replace h := h.1 k107
                                        refine lv_iconst (v := 0) hx hb dL_examiners_217 (by decide) ?_
                                        subst hQ0
                                        refine W.widen (k := 1284) (n := 7704) (Nat.le_trans (zc1 (D := 8) g51 (Nat.le_of_ble_eq_true rfl)) (Nat.le_of_eq hRc)) (Nat.le_trans (zc1 (D := 48) g53 (Nat.le_of_ble_eq_true rfl)) (Nat.le_of_eq hRs)) ?_
                                        exact zl_ri hx hb hr hlocks hW (by decide) ⟨h, rfl⟩ dL_examiners_218
                                      · replace h := h.2 k107
                                        refine lv_aload_n hx hb dL_examiners_190 rfl (lv_at hl 1 rfl) ?_
                                        refine lv_iload hx hb dL_examiners_191 (lv_at hl 7 rfl) ?_
                                        have y108 := h.1
                                        replace h := h.2
                                        refine zl_ki (g := g) (rest := []) (zl_runV (g := g) (As := [.int x6_23]) (rest := []) hx hb hml hown hts (zD_examinersOf l hst (zl_re g H.size) z x6_23 y108) cv_X6_examinersOf q_532 rfl rfl ⟨by rw [hRf]; exact (Nat.le_of_ble_eq_true rfl), by rw [hRl]; exact (Nat.le_of_ble_eq_true rfl)⟩ hW (Or.inl (Nat.le_of_ble_eq_true rfl)) sl_0 rfl rfl hl.1 rfl (Nat.le_of_ble_eq_true rfl) dL_examiners_193 ⟨(zc1 (D := 9) g51 (Nat.le_of_ble_eq_true rfl)), (zc1 (D := 54) g53 (Nat.le_of_ble_eq_true rfl))⟩) hW (fun r9 z9 H locs h9 hW => ?_)
                                        clear y108
                                        obtain ⟨rfl, e9⟩ := h9
                                        rw [e9, s_examinersOf_z] at hW
                                        refine lv_iconst (v := 3) hx hb dL_examiners_196 (by decide) ?_
                                        refine lv_icmp_eq (tgt := 217) hx hb dL_examiners_197 (by decide) (fun k109 => ?_) (fun k109 => ?_)
                                        · replace h := h.1 k109
                                          refine lv_iconst (v := 0) hx hb dL_examiners_217 (by decide) ?_
                                          subst hQ0
                                          refine W.widen (k := 1284) (n := 7704) (Nat.le_trans (zc1 (D := 9) g51 (Nat.le_of_ble_eq_true rfl)) (Nat.le_of_eq hRc)) (Nat.le_trans (zc1 (D := 54) g53 (Nat.le_of_ble_eq_true rfl)) (Nat.le_of_eq hRs)) ?_
                                          exact zl_ri hx hb hr hlocks hW (by decide) ⟨h, rfl⟩ dL_examiners_218
                                        · replace h := h.2 k109
                                          refine lv_iload hx hb dL_examiners_200 (lv_at hl 8 rfl) ?_
                                          refine lv_if_ne (tgt := 219) hx hb dL_examiners_202 (by decide) (fun k110 => ?_) (fun k110 => ?_)
                                          · replace h := h.2 k110
                                            obtain ⟨v111, ev111⟩ : ∃ z : Int32, z = x6_23 + (1 : Int32) := ⟨_, rfl⟩
                                            replace h := h v111 ev111
                                            refine lv_iinc (v := v111) (lv' := [(6, .int v111), (9, .int t0_116), (0, .ref (sw_ad g 0)), (1, .int v1), (2, .int x2_9), (3, .int x3_9), (4, .int v41), (5, .int v50), (7, .int t0_48), (8, .int t0_80)]) hx hb dL_examiners_219 hl (k := 7) rfl (by rw [ev111]; rfl) (Nat.le_of_ble_eq_true rfl) rfl (fun ls hl => ?_)
                                            refine lv_goto (tgt := 23) hx hb dL_examiners_222 (by decide) ?_
                                            exact ih23 v41 v50 v111 _ _ _ _ _ h (zc10 (zc1 (D := 9) g52 (Nat.le_of_ble_eq_true rfl)) hTcn23 hcn23) (zc10 (zc1 (D := 54) g54 (Nat.le_of_ble_eq_true rfl)) hTsn23 hsn23) hW (lv_sub hl [2, 3, 4, 5, 6, 7, 0] rfl)
                                          · replace h := h.1 k110
                                            refine lv_aload_n hx hb dL_examiners_205 rfl (lv_at hl 1 rfl) ?_
                                            refine lv_iload_n hx hb dL_examiners_206 rfl (lv_at hl 4 rfl) ?_
                                            refine lv_iload hx hb dL_examiners_207 (lv_at hl 7 rfl) ?_
                                            refine zl_ki (g := g) (rest := []) (zl_runH (g := g) (As := [.ref (sw_ad g 0), .int x3_9, .int x6_23]) (rest := []) hx hb hml hown hts (kL_gradeBy l hst (zl_re g H.size) z x3_9 x6_23) ch_L_gradeBy q_513 rfl rfl ⟨by rw [hRf]; exact (Nat.le_of_ble_eq_true rfl), by rw [hRl]; exact (Nat.le_of_ble_eq_true rfl)⟩ hW rfl hl.1 rfl (Nat.le_of_ble_eq_true rfl) dL_examiners_209 ⟨(zc1 (D := 12) g51 (Nat.le_of_ble_eq_true rfl)), (zc1 (D := 72) g53 (Nat.le_of_ble_eq_true rfl))⟩) hW (fun r9 z9 H locs h9 hW => ?_)
                                            obtain ⟨rfl, e9⟩ := h9
                                            rw [e9, s_gradeBy_z] at hW
                                            refine lv_bipush (v := -13) hx hb dL_examiners_212 (by decide) ?_
                                            refine lv_icmp_eq (tgt := 219) hx hb dL_examiners_214 (by decide) (fun k112 => ?_) (fun k112 => ?_)
                                            · replace h := h.1 k112
                                              obtain ⟨v113, ev113⟩ : ∃ z : Int32, z = x6_23 + (1 : Int32) := ⟨_, rfl⟩
                                              replace h := h v113 ev113
                                              refine lv_iinc (v := v113) (lv' := [(6, .int v113), (9, .int t0_116), (0, .ref (sw_ad g 0)), (1, .int v1), (2, .int x2_9), (3, .int x3_9), (4, .int v41), (5, .int v50), (7, .int t0_48), (8, .int t0_80)]) hx hb dL_examiners_219 hl (k := 7) rfl (by rw [ev113]; rfl) (Nat.le_of_ble_eq_true rfl) rfl (fun ls hl => ?_)
                                              refine lv_goto (tgt := 23) hx hb dL_examiners_222 (by decide) ?_
                                              exact ih23 v41 v50 v113 _ _ _ _ _ h (zc10 (zc1 (D := 12) g52 (Nat.le_of_ble_eq_true rfl)) hTcn23 hcn23) (zc10 (zc1 (D := 72) g54 (Nat.le_of_ble_eq_true rfl)) hTsn23 hsn23) hW (lv_sub hl [2, 3, 4, 5, 6, 7, 0] rfl)
                                            · replace h := h.2 k112
                                              refine lv_iconst (v := 0) hx hb dL_examiners_217 (by decide) ?_
                                              subst hQ0
                                              refine W.widen (k := 1284) (n := 7704) (Nat.le_trans (zc1 (D := 12) g51 (Nat.le_of_ble_eq_true rfl)) (Nat.le_of_eq hRc)) (Nat.le_trans (zc1 (D := 72) g53 (Nat.le_of_ble_eq_true rfl)) (Nat.le_of_eq hRs)) ?_
                                              exact zl_ri hx hb hr hlocks hW (by decide) ⟨h, rfl⟩ dL_examiners_218
                        · replace h := h.2 k55
                          refine lv_aload_n hx hb dL_examiners_123 rfl (lv_at hl 1 rfl) ?_
                          refine lv_iload_n hx hb dL_examiners_124 rfl (lv_at hl 4 rfl) ?_
                          refine lv_iload hx hb dL_examiners_125 (lv_at hl 7 rfl) ?_
                          refine zl_ki (g := g) (rest := []) (zl_runH (g := g) (As := [.ref (sw_ad g 0), .int x3_9, .int x6_23]) (rest := []) hx hb hml hown hts (kL_isNeutral l hst (zl_re g H.size) z x3_9 x6_23) ch_L_isNeutral q_617 rfl rfl ⟨by rw [hRf]; exact (Nat.le_of_ble_eq_true rfl), by rw [hRl]; exact (Nat.le_of_ble_eq_true rfl)⟩ hW rfl hl.1 rfl (Nat.le_of_ble_eq_true rfl) dL_examiners_127 ⟨(zc1 (D := 2) g51 (Nat.le_of_ble_eq_true rfl)), (zc1 (D := 12) g53 (Nat.le_of_ble_eq_true rfl))⟩) hW (fun r9 z9 H locs h9 hW => ?_)
                          obtain ⟨rfl, e9⟩ := h9
                          rw [e9, s_isNeutral_z] at hW
                          refine lv_iconst (v := 1) hx hb dL_examiners_130 (by decide) ?_
                          refine lv_icmp_eq (tgt := 217) hx hb dL_examiners_131 (by decide) (fun k114 => ?_) (fun k114 => ?_)
                          · replace h := h.1 k114
                            refine lv_iconst (v := 0) hx hb dL_examiners_217 (by decide) ?_
                            subst hQ0
                            refine W.widen (k := 1284) (n := 7704) (Nat.le_trans (zc1 (D := 2) g51 (Nat.le_of_ble_eq_true rfl)) (Nat.le_of_eq hRc)) (Nat.le_trans (zc1 (D := 12) g53 (Nat.le_of_ble_eq_true rfl)) (Nat.le_of_eq hRs)) ?_
                            exact zl_ri hx hb hr hlocks hW (by decide) ⟨h, rfl⟩ dL_examiners_218
                          · replace h := h.2 k114
                            refine lv_aload_n hx hb dL_examiners_134 rfl (lv_at hl 1 rfl) ?_
                            refine lv_iload_n hx hb dL_examiners_135 rfl (lv_at hl 4 rfl) ?_
                            refine lv_iload hx hb dL_examiners_136 (lv_at hl 7 rfl) ?_
                            refine zl_ki (g := g) (rest := []) (zl_runH (g := g) (As := [.ref (sw_ad g 0), .int x3_9, .int x6_23]) (rest := []) hx hb hml hown hts (kL_mayJudge l hst (zl_re g H.size) z x3_9 x6_23) ch_L_mayJudge q_624 rfl rfl ⟨by rw [hRf]; exact (Nat.le_of_ble_eq_true rfl), by rw [hRl]; exact (Nat.le_of_ble_eq_true rfl)⟩ hW rfl hl.1 rfl (Nat.le_of_ble_eq_true rfl) dL_examiners_138 ⟨(zc1 (D := 4) g51 (Nat.le_of_ble_eq_true rfl)), (zc1 (D := 24) g53 (Nat.le_of_ble_eq_true rfl))⟩) hW (fun r9 z9 H locs h9 hW => ?_)
                            obtain ⟨rfl, e9⟩ := h9
                            rw [e9, s_mayJudge_z] at hW
                            refine lv_iconst (v := 1) hx hb dL_examiners_141 (by decide) ?_
                            refine lv_icmp_ne (tgt := 155) hx hb dL_examiners_142 (by decide) (fun k115 => ?_) (fun k115 => ?_)
                            · replace h := h.2 k115
                              refine lv_iload hx hb dL_examiners_155 (lv_at hl 8 rfl) ?_
                              refine lv_if_eq (tgt := 170) hx hb dL_examiners_157 (by decide) (fun k116 => ?_) (fun k116 => ?_)
                              · replace h := h.1 k116
                                refine lv_iload hx hb dL_examiners_170 (lv_at hl 9 rfl) ?_
                                refine lv_if_eq (tgt := 200) hx hb dL_examiners_172 (by decide) (fun k117 => ?_) (fun k117 => ?_)
                                · replace h := h.1 k117
                                  refine lv_iload hx hb dL_examiners_200 (lv_at hl 8 rfl) ?_
                                  refine lv_if_ne (tgt := 219) hx hb dL_examiners_202 (by decide) (fun k118 => ?_) (fun k118 => ?_)
                                  · replace h := h.2 k118
                                    obtain ⟨v119, ev119⟩ : ∃ z : Int32, z = x6_23 + (1 : Int32) := ⟨_, rfl⟩
                                    replace h := h v119 ev119
                                    refine lv_iinc (v := v119) (lv' := [(6, .int v119), (9, .int t0_116), (0, .ref (sw_ad g 0)), (1, .int v1), (2, .int x2_9), (3, .int x3_9), (4, .int v41), (5, .int v50), (7, .int t0_48), (8, .int t0_80)]) hx hb dL_examiners_219 hl (k := 7) rfl (by rw [ev119]; rfl) (Nat.le_of_ble_eq_true rfl) rfl (fun ls hl => ?_)
                                    refine lv_goto (tgt := 23) hx hb dL_examiners_222 (by decide) ?_
                                    exact ih23 v41 v50 v119 _ _ _ _ _ h (zc10 (zc1 (D := 4) g52 (Nat.le_of_ble_eq_true rfl)) hTcn23 hcn23) (zc10 (zc1 (D := 24) g54 (Nat.le_of_ble_eq_true rfl)) hTsn23 hsn23) hW (lv_sub hl [2, 3, 4, 5, 6, 7, 0] rfl)
                                  · replace h := h.1 k118
                                    refine lv_aload_n hx hb dL_examiners_205 rfl (lv_at hl 1 rfl) ?_
                                    refine lv_iload_n hx hb dL_examiners_206 rfl (lv_at hl 4 rfl) ?_
                                    refine lv_iload hx hb dL_examiners_207 (lv_at hl 7 rfl) ?_
                                    refine zl_ki (g := g) (rest := []) (zl_runH (g := g) (As := [.ref (sw_ad g 0), .int x3_9, .int x6_23]) (rest := []) hx hb hml hown hts (kL_gradeBy l hst (zl_re g H.size) z x3_9 x6_23) ch_L_gradeBy q_513 rfl rfl ⟨by rw [hRf]; exact (Nat.le_of_ble_eq_true rfl), by rw [hRl]; exact (Nat.le_of_ble_eq_true rfl)⟩ hW rfl hl.1 rfl (Nat.le_of_ble_eq_true rfl) dL_examiners_209 ⟨(zc1 (D := 7) g51 (Nat.le_of_ble_eq_true rfl)), (zc1 (D := 42) g53 (Nat.le_of_ble_eq_true rfl))⟩) hW (fun r9 z9 H locs h9 hW => ?_)
                                    obtain ⟨rfl, e9⟩ := h9
                                    rw [e9, s_gradeBy_z] at hW
                                    refine lv_bipush (v := -13) hx hb dL_examiners_212 (by decide) ?_
                                    refine lv_icmp_eq (tgt := 219) hx hb dL_examiners_214 (by decide) (fun k120 => ?_) (fun k120 => ?_)
                                    · replace h := h.1 k120
                                      obtain ⟨v121, ev121⟩ : ∃ z : Int32, z = x6_23 + (1 : Int32) := ⟨_, rfl⟩
                                      replace h := h v121 ev121
                                      refine lv_iinc (v := v121) (lv' := [(6, .int v121), (9, .int t0_116), (0, .ref (sw_ad g 0)), (1, .int v1), (2, .int x2_9), (3, .int x3_9), (4, .int v41), (5, .int v50), (7, .int t0_48), (8, .int t0_80)]) hx hb dL_examiners_219 hl (k := 7) rfl (by rw [ev121]; rfl) (Nat.le_of_ble_eq_true rfl) rfl (fun ls hl => ?_)
                                      refine lv_goto (tgt := 23) hx hb dL_examiners_222 (by decide) ?_
                                      exact ih23 v41 v50 v121 _ _ _ _ _ h (zc10 (zc1 (D := 7) g52 (Nat.le_of_ble_eq_true rfl)) hTcn23 hcn23) (zc10 (zc1 (D := 42) g54 (Nat.le_of_ble_eq_true rfl)) hTsn23 hsn23) hW (lv_sub hl [2, 3, 4, 5, 6, 7, 0] rfl)
                                    · replace h := h.2 k120
                                      refine lv_iconst (v := 0) hx hb dL_examiners_217 (by decide) ?_
                                      subst hQ0
                                      refine W.widen (k := 1284) (n := 7704) (Nat.le_trans (zc1 (D := 7) g51 (Nat.le_of_ble_eq_true rfl)) (Nat.le_of_eq hRc)) (Nat.le_trans (zc1 (D := 42) g53 (Nat.le_of_ble_eq_true rfl)) (Nat.le_of_eq hRs)) ?_
                                      exact zl_ri hx hb hr hlocks hW (by decide) ⟨h, rfl⟩ dL_examiners_218
                                · replace h := h.2 k117
                                  refine lv_iload hx hb dL_examiners_175 (lv_at hl 8 rfl) ?_
                                  refine lv_if_ne (tgt := 217) hx hb dL_examiners_177 (by decide) (fun k122 => ?_) (fun k122 => ?_)
                                  · replace h := h.2 k122
                                    refine lv_iconst (v := 0) hx hb dL_examiners_217 (by decide) ?_
                                    subst hQ0
                                    refine W.widen (k := 1284) (n := 7704) (Nat.le_trans (zc1 (D := 4) g51 (Nat.le_of_ble_eq_true rfl)) (Nat.le_of_eq hRc)) (Nat.le_trans (zc1 (D := 24) g53 (Nat.le_of_ble_eq_true rfl)) (Nat.le_of_eq hRs)) ?_
                                    exact zl_ri hx hb hr hlocks hW (by decide) ⟨h, rfl⟩ dL_examiners_218
                                  · replace h := h.1 k122
                                    refine lv_aload_n hx hb dL_examiners_180 rfl (lv_at hl 1 rfl) ?_
                                    refine lv_iload_n hx hb dL_examiners_181 rfl (lv_at hl 4 rfl) ?_
                                    refine lv_iload hx hb dL_examiners_182 (lv_at hl 7 rfl) ?_
                                    refine zl_ki (g := g) (rest := []) (zl_runH (g := g) (As := [.ref (sw_ad g 0), .int x3_9, .int x6_23]) (rest := []) hx hb hml hown hts (kL_mayJudge l hst (zl_re g H.size) z x3_9 x6_23) ch_L_mayJudge q_624 rfl rfl ⟨by rw [hRf]; exact (Nat.le_of_ble_eq_true rfl), by rw [hRl]; exact (Nat.le_of_ble_eq_true rfl)⟩ hW rfl hl.1 rfl (Nat.le_of_ble_eq_true rfl) dL_examiners_184 ⟨(zc1 (D := 6) g51 (Nat.le_of_ble_eq_true rfl)), (zc1 (D := 36) g53 (Nat.le_of_ble_eq_true rfl))⟩) hW (fun r9 z9 H locs h9 hW => ?_)
                                    obtain ⟨rfl, e9⟩ := h9
                                    rw [e9, s_mayJudge_z] at hW
                                    refine lv_if_eq (tgt := 217) hx hb dL_examiners_187 (by decide) (fun k123 => ?_) (fun k123 => ?_)
                                    · replace h := h.1 k123
                                      refine lv_iconst (v := 0) hx hb dL_examiners_217 (by decide) ?_
                                      subst hQ0
                                      refine W.widen (k := 1284) (n := 7704) (Nat.le_trans (zc1 (D := 6) g51 (Nat.le_of_ble_eq_true rfl)) (Nat.le_of_eq hRc)) (Nat.le_trans (zc1 (D := 36) g53 (Nat.le_of_ble_eq_true rfl)) (Nat.le_of_eq hRs)) ?_
                                      exact zl_ri hx hb hr hlocks hW (by decide) ⟨h, rfl⟩ dL_examiners_218
                                    · replace h := h.2 k123
                                      refine lv_aload_n hx hb dL_examiners_190 rfl (lv_at hl 1 rfl) ?_
                                      refine lv_iload hx hb dL_examiners_191 (lv_at hl 7 rfl) ?_
                                      have y124 := h.1
                                      replace h := h.2
                                      refine zl_ki (g := g) (rest := []) (zl_runV (g := g) (As := [.int x6_23]) (rest := []) hx hb hml hown hts (zD_examinersOf l hst (zl_re g H.size) z x6_23 y124) cv_X6_examinersOf q_532 rfl rfl ⟨by rw [hRf]; exact (Nat.le_of_ble_eq_true rfl), by rw [hRl]; exact (Nat.le_of_ble_eq_true rfl)⟩ hW (Or.inl (Nat.le_of_ble_eq_true rfl)) sl_0 rfl rfl hl.1 rfl (Nat.le_of_ble_eq_true rfl) dL_examiners_193 ⟨(zc1 (D := 7) g51 (Nat.le_of_ble_eq_true rfl)), (zc1 (D := 42) g53 (Nat.le_of_ble_eq_true rfl))⟩) hW (fun r9 z9 H locs h9 hW => ?_)
                                      clear y124
                                      obtain ⟨rfl, e9⟩ := h9
                                      rw [e9, s_examinersOf_z] at hW
                                      refine lv_iconst (v := 3) hx hb dL_examiners_196 (by decide) ?_
                                      refine lv_icmp_eq (tgt := 217) hx hb dL_examiners_197 (by decide) (fun k125 => ?_) (fun k125 => ?_)
                                      · replace h := h.1 k125
                                        refine lv_iconst (v := 0) hx hb dL_examiners_217 (by decide) ?_
                                        subst hQ0
                                        refine W.widen (k := 1284) (n := 7704) (Nat.le_trans (zc1 (D := 7) g51 (Nat.le_of_ble_eq_true rfl)) (Nat.le_of_eq hRc)) (Nat.le_trans (zc1 (D := 42) g53 (Nat.le_of_ble_eq_true rfl)) (Nat.le_of_eq hRs)) ?_
                                        exact zl_ri hx hb hr hlocks hW (by decide) ⟨h, rfl⟩ dL_examiners_218
                                      · replace h := h.2 k125
                                        refine lv_iload hx hb dL_examiners_200 (lv_at hl 8 rfl) ?_
                                        refine lv_if_ne (tgt := 219) hx hb dL_examiners_202 (by decide) (fun k126 => ?_) (fun k126 => ?_)
                                        · replace h := h.2 k126
                                          obtain ⟨v127, ev127⟩ : ∃ z : Int32, z = x6_23 + (1 : Int32) := ⟨_, rfl⟩
                                          replace h := h v127 ev127
                                          refine lv_iinc (v := v127) (lv' := [(6, .int v127), (9, .int t0_116), (0, .ref (sw_ad g 0)), (1, .int v1), (2, .int x2_9), (3, .int x3_9), (4, .int v41), (5, .int v50), (7, .int t0_48), (8, .int t0_80)]) hx hb dL_examiners_219 hl (k := 7) rfl (by rw [ev127]; rfl) (Nat.le_of_ble_eq_true rfl) rfl (fun ls hl => ?_)
                                          refine lv_goto (tgt := 23) hx hb dL_examiners_222 (by decide) ?_
                                          exact ih23 v41 v50 v127 _ _ _ _ _ h (zc10 (zc1 (D := 7) g52 (Nat.le_of_ble_eq_true rfl)) hTcn23 hcn23) (zc10 (zc1 (D := 42) g54 (Nat.le_of_ble_eq_true rfl)) hTsn23 hsn23) hW (lv_sub hl [2, 3, 4, 5, 6, 7, 0] rfl)
                                        · replace h := h.1 k126
                                          refine lv_aload_n hx hb dL_examiners_205 rfl (lv_at hl 1 rfl) ?_
                                          refine lv_iload_n hx hb dL_examiners_206 rfl (lv_at hl 4 rfl) ?_
                                          refine lv_iload hx hb dL_examiners_207 (lv_at hl 7 rfl) ?_
                                          refine zl_ki (g := g) (rest := []) (zl_runH (g := g) (As := [.ref (sw_ad g 0), .int x3_9, .int x6_23]) (rest := []) hx hb hml hown hts (kL_gradeBy l hst (zl_re g H.size) z x3_9 x6_23) ch_L_gradeBy q_513 rfl rfl ⟨by rw [hRf]; exact (Nat.le_of_ble_eq_true rfl), by rw [hRl]; exact (Nat.le_of_ble_eq_true rfl)⟩ hW rfl hl.1 rfl (Nat.le_of_ble_eq_true rfl) dL_examiners_209 ⟨(zc1 (D := 10) g51 (Nat.le_of_ble_eq_true rfl)), (zc1 (D := 60) g53 (Nat.le_of_ble_eq_true rfl))⟩) hW (fun r9 z9 H locs h9 hW => ?_)
                                          obtain ⟨rfl, e9⟩ := h9
                                          rw [e9, s_gradeBy_z] at hW
                                          refine lv_bipush (v := -13) hx hb dL_examiners_212 (by decide) ?_
                                          refine lv_icmp_eq (tgt := 219) hx hb dL_examiners_214 (by decide) (fun k128 => ?_) (fun k128 => ?_)
                                          · replace h := h.1 k128
                                            obtain ⟨v129, ev129⟩ : ∃ z : Int32, z = x6_23 + (1 : Int32) := ⟨_, rfl⟩
                                            replace h := h v129 ev129
                                            refine lv_iinc (v := v129) (lv' := [(6, .int v129), (9, .int t0_116), (0, .ref (sw_ad g 0)), (1, .int v1), (2, .int x2_9), (3, .int x3_9), (4, .int v41), (5, .int v50), (7, .int t0_48), (8, .int t0_80)]) hx hb dL_examiners_219 hl (k := 7) rfl (by rw [ev129]; rfl) (Nat.le_of_ble_eq_true rfl) rfl (fun ls hl => ?_)
                                            refine lv_goto (tgt := 23) hx hb dL_examiners_222 (by decide) ?_
                                            exact ih23 v41 v50 v129 _ _ _ _ _ h (zc10 (zc1 (D := 10) g52 (Nat.le_of_ble_eq_true rfl)) hTcn23 hcn23) (zc10 (zc1 (D := 60) g54 (Nat.le_of_ble_eq_true rfl)) hTsn23 hsn23) hW (lv_sub hl [2, 3, 4, 5, 6, 7, 0] rfl)
                                          · replace h := h.2 k128
                                            refine lv_iconst (v := 0) hx hb dL_examiners_217 (by decide) ?_
                                            subst hQ0
                                            refine W.widen (k := 1284) (n := 7704) (Nat.le_trans (zc1 (D := 10) g51 (Nat.le_of_ble_eq_true rfl)) (Nat.le_of_eq hRc)) (Nat.le_trans (zc1 (D := 60) g53 (Nat.le_of_ble_eq_true rfl)) (Nat.le_of_eq hRs)) ?_
                                            exact zl_ri hx hb hr hlocks hW (by decide) ⟨h, rfl⟩ dL_examiners_218
                              · replace h := h.2 k116
                                refine lv_aload_n hx hb dL_examiners_160 rfl (lv_at hl 1 rfl) ?_
                                refine lv_iload_n hx hb dL_examiners_161 rfl (lv_at hl 4 rfl) ?_
                                refine lv_iload hx hb dL_examiners_162 (lv_at hl 7 rfl) ?_
                                refine zl_ki (g := g) (rest := []) (zl_runH (g := g) (As := [.ref (sw_ad g 0), .int x3_9, .int x6_23]) (rest := []) hx hb hml hown hts (kL_mayJudge l hst (zl_re g H.size) z x3_9 x6_23) ch_L_mayJudge q_624 rfl rfl ⟨by rw [hRf]; exact (Nat.le_of_ble_eq_true rfl), by rw [hRl]; exact (Nat.le_of_ble_eq_true rfl)⟩ hW rfl hl.1 rfl (Nat.le_of_ble_eq_true rfl) dL_examiners_164 ⟨(zc1 (D := 6) g51 (Nat.le_of_ble_eq_true rfl)), (zc1 (D := 36) g53 (Nat.le_of_ble_eq_true rfl))⟩) hW (fun r9 z9 H locs h9 hW => ?_)
                                obtain ⟨rfl, e9⟩ := h9
                                rw [e9, s_mayJudge_z] at hW
                                refine lv_if_eq (tgt := 217) hx hb dL_examiners_167 (by decide) (fun k130 => ?_) (fun k130 => ?_)
                                · replace h := h.1 k130
                                  refine lv_iconst (v := 0) hx hb dL_examiners_217 (by decide) ?_
                                  subst hQ0
                                  refine W.widen (k := 1284) (n := 7704) (Nat.le_trans (zc1 (D := 6) g51 (Nat.le_of_ble_eq_true rfl)) (Nat.le_of_eq hRc)) (Nat.le_trans (zc1 (D := 36) g53 (Nat.le_of_ble_eq_true rfl)) (Nat.le_of_eq hRs)) ?_
                                  exact zl_ri hx hb hr hlocks hW (by decide) ⟨h, rfl⟩ dL_examiners_218
                                · replace h := h.2 k130
                                  refine lv_iload hx hb dL_examiners_170 (lv_at hl 9 rfl) ?_
                                  refine lv_if_eq (tgt := 200) hx hb dL_examiners_172 (by decide) (fun k131 => ?_) (fun k131 => ?_)
                                  · replace h := h.1 k131
                                    refine lv_iload hx hb dL_examiners_200 (lv_at hl 8 rfl) ?_
                                    refine lv_if_ne (tgt := 219) hx hb dL_examiners_202 (by decide) (fun k132 => ?_) (fun k132 => ?_)
                                    · replace h := h.2 k132
                                      obtain ⟨v133, ev133⟩ : ∃ z : Int32, z = x6_23 + (1 : Int32) := ⟨_, rfl⟩
                                      replace h := h v133 ev133
                                      refine lv_iinc (v := v133) (lv' := [(6, .int v133), (9, .int t0_116), (0, .ref (sw_ad g 0)), (1, .int v1), (2, .int x2_9), (3, .int x3_9), (4, .int v41), (5, .int v50), (7, .int t0_48), (8, .int t0_80)]) hx hb dL_examiners_219 hl (k := 7) rfl (by rw [ev133]; rfl) (Nat.le_of_ble_eq_true rfl) rfl (fun ls hl => ?_)
                                      refine lv_goto (tgt := 23) hx hb dL_examiners_222 (by decide) ?_
                                      exact ih23 v41 v50 v133 _ _ _ _ _ h (zc10 (zc1 (D := 6) g52 (Nat.le_of_ble_eq_true rfl)) hTcn23 hcn23) (zc10 (zc1 (D := 36) g54 (Nat.le_of_ble_eq_true rfl)) hTsn23 hsn23) hW (lv_sub hl [2, 3, 4, 5, 6, 7, 0] rfl)
                                    · replace h := h.1 k132
                                      refine lv_aload_n hx hb dL_examiners_205 rfl (lv_at hl 1 rfl) ?_
                                      refine lv_iload_n hx hb dL_examiners_206 rfl (lv_at hl 4 rfl) ?_
                                      refine lv_iload hx hb dL_examiners_207 (lv_at hl 7 rfl) ?_
                                      refine zl_ki (g := g) (rest := []) (zl_runH (g := g) (As := [.ref (sw_ad g 0), .int x3_9, .int x6_23]) (rest := []) hx hb hml hown hts (kL_gradeBy l hst (zl_re g H.size) z x3_9 x6_23) ch_L_gradeBy q_513 rfl rfl ⟨by rw [hRf]; exact (Nat.le_of_ble_eq_true rfl), by rw [hRl]; exact (Nat.le_of_ble_eq_true rfl)⟩ hW rfl hl.1 rfl (Nat.le_of_ble_eq_true rfl) dL_examiners_209 ⟨(zc1 (D := 9) g51 (Nat.le_of_ble_eq_true rfl)), (zc1 (D := 54) g53 (Nat.le_of_ble_eq_true rfl))⟩) hW (fun r9 z9 H locs h9 hW => ?_)
                                      obtain ⟨rfl, e9⟩ := h9
                                      rw [e9, s_gradeBy_z] at hW
                                      refine lv_bipush (v := -13) hx hb dL_examiners_212 (by decide) ?_
                                      refine lv_icmp_eq (tgt := 219) hx hb dL_examiners_214 (by decide) (fun k134 => ?_) (fun k134 => ?_)
                                      · replace h := h.1 k134
                                        obtain ⟨v135, ev135⟩ : ∃ z : Int32, z = x6_23 + (1 : Int32) := ⟨_, rfl⟩
                                        replace h := h v135 ev135
                                        refine lv_iinc (v := v135) (lv' := [(6, .int v135), (9, .int t0_116), (0, .ref (sw_ad g 0)), (1, .int v1), (2, .int x2_9), (3, .int x3_9), (4, .int v41), (5, .int v50), (7, .int t0_48), (8, .int t0_80)]) hx hb dL_examiners_219 hl (k := 7) rfl (by rw [ev135]; rfl) (Nat.le_of_ble_eq_true rfl) rfl (fun ls hl => ?_)
                                        refine lv_goto (tgt := 23) hx hb dL_examiners_222 (by decide) ?_
                                        exact ih23 v41 v50 v135 _ _ _ _ _ h (zc10 (zc1 (D := 9) g52 (Nat.le_of_ble_eq_true rfl)) hTcn23 hcn23) (zc10 (zc1 (D := 54) g54 (Nat.le_of_ble_eq_true rfl)) hTsn23 hsn23) hW (lv_sub hl [2, 3, 4, 5, 6, 7, 0] rfl)
                                      · replace h := h.2 k134
                                        refine lv_iconst (v := 0) hx hb dL_examiners_217 (by decide) ?_
                                        subst hQ0
                                        refine W.widen (k := 1284) (n := 7704) (Nat.le_trans (zc1 (D := 9) g51 (Nat.le_of_ble_eq_true rfl)) (Nat.le_of_eq hRc)) (Nat.le_trans (zc1 (D := 54) g53 (Nat.le_of_ble_eq_true rfl)) (Nat.le_of_eq hRs)) ?_
                                        exact zl_ri hx hb hr hlocks hW (by decide) ⟨h, rfl⟩ dL_examiners_218
                                  · replace h := h.2 k131
                                    refine lv_iload hx hb dL_examiners_175 (lv_at hl 8 rfl) ?_
                                    refine lv_if_ne (tgt := 217) hx hb dL_examiners_177 (by decide) (fun k136 => ?_) (fun k136 => ?_)
                                    · replace h := h.2 k136
                                      refine lv_iconst (v := 0) hx hb dL_examiners_217 (by decide) ?_
                                      subst hQ0
                                      refine W.widen (k := 1284) (n := 7704) (Nat.le_trans (zc1 (D := 6) g51 (Nat.le_of_ble_eq_true rfl)) (Nat.le_of_eq hRc)) (Nat.le_trans (zc1 (D := 36) g53 (Nat.le_of_ble_eq_true rfl)) (Nat.le_of_eq hRs)) ?_
                                      exact zl_ri hx hb hr hlocks hW (by decide) ⟨h, rfl⟩ dL_examiners_218
                                    · replace h := h.1 k136
                                      refine lv_aload_n hx hb dL_examiners_180 rfl (lv_at hl 1 rfl) ?_
                                      refine lv_iload_n hx hb dL_examiners_181 rfl (lv_at hl 4 rfl) ?_
                                      refine lv_iload hx hb dL_examiners_182 (lv_at hl 7 rfl) ?_
                                      refine zl_ki (g := g) (rest := []) (zl_runH (g := g) (As := [.ref (sw_ad g 0), .int x3_9, .int x6_23]) (rest := []) hx hb hml hown hts (kL_mayJudge l hst (zl_re g H.size) z x3_9 x6_23) ch_L_mayJudge q_624 rfl rfl ⟨by rw [hRf]; exact (Nat.le_of_ble_eq_true rfl), by rw [hRl]; exact (Nat.le_of_ble_eq_true rfl)⟩ hW rfl hl.1 rfl (Nat.le_of_ble_eq_true rfl) dL_examiners_184 ⟨(zc1 (D := 8) g51 (Nat.le_of_ble_eq_true rfl)), (zc1 (D := 48) g53 (Nat.le_of_ble_eq_true rfl))⟩) hW (fun r9 z9 H locs h9 hW => ?_)
                                      obtain ⟨rfl, e9⟩ := h9
                                      rw [e9, s_mayJudge_z] at hW
                                      refine lv_if_eq (tgt := 217) hx hb dL_examiners_187 (by decide) (fun k137 => ?_) (fun k137 => ?_)
                                      · replace h := h.1 k137
                                        refine lv_iconst (v := 0) hx hb dL_examiners_217 (by decide) ?_
                                        subst hQ0
                                        refine W.widen (k := 1284) (n := 7704) (Nat.le_trans (zc1 (D := 8) g51 (Nat.le_of_ble_eq_true rfl)) (Nat.le_of_eq hRc)) (Nat.le_trans (zc1 (D := 48) g53 (Nat.le_of_ble_eq_true rfl)) (Nat.le_of_eq hRs)) ?_
                                        exact zl_ri hx hb hr hlocks hW (by decide) ⟨h, rfl⟩ dL_examiners_218
                                      · replace h := h.2 k137
                                        refine lv_aload_n hx hb dL_examiners_190 rfl (lv_at hl 1 rfl) ?_
                                        refine lv_iload hx hb dL_examiners_191 (lv_at hl 7 rfl) ?_
                                        have y138 := h.1
                                        replace h := h.2
                                        refine zl_ki (g := g) (rest := []) (zl_runV (g := g) (As := [.int x6_23]) (rest := []) hx hb hml hown hts (zD_examinersOf l hst (zl_re g H.size) z x6_23 y138) cv_X6_examinersOf q_532 rfl rfl ⟨by rw [hRf]; exact (Nat.le_of_ble_eq_true rfl), by rw [hRl]; exact (Nat.le_of_ble_eq_true rfl)⟩ hW (Or.inl (Nat.le_of_ble_eq_true rfl)) sl_0 rfl rfl hl.1 rfl (Nat.le_of_ble_eq_true rfl) dL_examiners_193 ⟨(zc1 (D := 9) g51 (Nat.le_of_ble_eq_true rfl)), (zc1 (D := 54) g53 (Nat.le_of_ble_eq_true rfl))⟩) hW (fun r9 z9 H locs h9 hW => ?_)
                                        clear y138
                                        obtain ⟨rfl, e9⟩ := h9
                                        rw [e9, s_examinersOf_z] at hW
                                        refine lv_iconst (v := 3) hx hb dL_examiners_196 (by decide) ?_
                                        refine lv_icmp_eq (tgt := 217) hx hb dL_examiners_197 (by decide) (fun k139 => ?_) (fun k139 => ?_)
                                        · replace h := h.1 k139
                                          refine lv_iconst (v := 0) hx hb dL_examiners_217 (by decide) ?_
                                          subst hQ0
                                          refine W.widen (k := 1284) (n := 7704) (Nat.le_trans (zc1 (D := 9) g51 (Nat.le_of_ble_eq_true rfl)) (Nat.le_of_eq hRc)) (Nat.le_trans (zc1 (D := 54) g53 (Nat.le_of_ble_eq_true rfl)) (Nat.le_of_eq hRs)) ?_
                                          exact zl_ri hx hb hr hlocks hW (by decide) ⟨h, rfl⟩ dL_examiners_218
                                        · replace h := h.2 k139
                                          refine lv_iload hx hb dL_examiners_200 (lv_at hl 8 rfl) ?_
                                          refine lv_if_ne (tgt := 219) hx hb dL_examiners_202 (by decide) (fun k140 => ?_) (fun k140 => ?_)
                                          · replace h := h.2 k140
                                            obtain ⟨v141, ev141⟩ : ∃ z : Int32, z = x6_23 + (1 : Int32) := ⟨_, rfl⟩
                                            replace h := h v141 ev141
                                            refine lv_iinc (v := v141) (lv' := [(6, .int v141), (9, .int t0_116), (0, .ref (sw_ad g 0)), (1, .int v1), (2, .int x2_9), (3, .int x3_9), (4, .int v41), (5, .int v50), (7, .int t0_48), (8, .int t0_80)]) hx hb dL_examiners_219 hl (k := 7) rfl (by rw [ev141]; rfl) (Nat.le_of_ble_eq_true rfl) rfl (fun ls hl => ?_)
                                            refine lv_goto (tgt := 23) hx hb dL_examiners_222 (by decide) ?_
                                            exact ih23 v41 v50 v141 _ _ _ _ _ h (zc10 (zc1 (D := 9) g52 (Nat.le_of_ble_eq_true rfl)) hTcn23 hcn23) (zc10 (zc1 (D := 54) g54 (Nat.le_of_ble_eq_true rfl)) hTsn23 hsn23) hW (lv_sub hl [2, 3, 4, 5, 6, 7, 0] rfl)
                                          · replace h := h.1 k140
                                            refine lv_aload_n hx hb dL_examiners_205 rfl (lv_at hl 1 rfl) ?_
                                            refine lv_iload_n hx hb dL_examiners_206 rfl (lv_at hl 4 rfl) ?_
                                            refine lv_iload hx hb dL_examiners_207 (lv_at hl 7 rfl) ?_
                                            refine zl_ki (g := g) (rest := []) (zl_runH (g := g) (As := [.ref (sw_ad g 0), .int x3_9, .int x6_23]) (rest := []) hx hb hml hown hts (kL_gradeBy l hst (zl_re g H.size) z x3_9 x6_23) ch_L_gradeBy q_513 rfl rfl ⟨by rw [hRf]; exact (Nat.le_of_ble_eq_true rfl), by rw [hRl]; exact (Nat.le_of_ble_eq_true rfl)⟩ hW rfl hl.1 rfl (Nat.le_of_ble_eq_true rfl) dL_examiners_209 ⟨(zc1 (D := 12) g51 (Nat.le_of_ble_eq_true rfl)), (zc1 (D := 72) g53 (Nat.le_of_ble_eq_true rfl))⟩) hW (fun r9 z9 H locs h9 hW => ?_)
                                            obtain ⟨rfl, e9⟩ := h9
                                            rw [e9, s_gradeBy_z] at hW
                                            refine lv_bipush (v := -13) hx hb dL_examiners_212 (by decide) ?_
                                            refine lv_icmp_eq (tgt := 219) hx hb dL_examiners_214 (by decide) (fun k142 => ?_) (fun k142 => ?_)
                                            · replace h := h.1 k142
                                              obtain ⟨v143, ev143⟩ : ∃ z : Int32, z = x6_23 + (1 : Int32) := ⟨_, rfl⟩
                                              replace h := h v143 ev143
                                              refine lv_iinc (v := v143) (lv' := [(6, .int v143), (9, .int t0_116), (0, .ref (sw_ad g 0)), (1, .int v1), (2, .int x2_9), (3, .int x3_9), (4, .int v41), (5, .int v50), (7, .int t0_48), (8, .int t0_80)]) hx hb dL_examiners_219 hl (k := 7) rfl (by rw [ev143]; rfl) (Nat.le_of_ble_eq_true rfl) rfl (fun ls hl => ?_)
                                              refine lv_goto (tgt := 23) hx hb dL_examiners_222 (by decide) ?_
                                              exact ih23 v41 v50 v143 _ _ _ _ _ h (zc10 (zc1 (D := 12) g52 (Nat.le_of_ble_eq_true rfl)) hTcn23 hcn23) (zc10 (zc1 (D := 72) g54 (Nat.le_of_ble_eq_true rfl)) hTsn23 hsn23) hW (lv_sub hl [2, 3, 4, 5, 6, 7, 0] rfl)
                                            · replace h := h.2 k142
                                              refine lv_iconst (v := 0) hx hb dL_examiners_217 (by decide) ?_
                                              subst hQ0
                                              refine W.widen (k := 1284) (n := 7704) (Nat.le_trans (zc1 (D := 12) g51 (Nat.le_of_ble_eq_true rfl)) (Nat.le_of_eq hRc)) (Nat.le_trans (zc1 (D := 72) g53 (Nat.le_of_ble_eq_true rfl)) (Nat.le_of_eq hRs)) ?_
                                              exact zl_ri hx hb hr hlocks hW (by decide) ⟨h, rfl⟩ dL_examiners_218
                            · replace h := h.1 k115
                              refine lv_aload_n hx hb dL_examiners_145 rfl (lv_at hl 1 rfl) ?_
                              refine lv_iload_n hx hb dL_examiners_146 rfl (lv_at hl 4 rfl) ?_
                              refine lv_iload hx hb dL_examiners_147 (lv_at hl 7 rfl) ?_
                              refine zl_ki (g := g) (rest := []) (zl_runH (g := g) (As := [.ref (sw_ad g 0), .int x3_9, .int x6_23]) (rest := []) hx hb hml hown hts (kL_isNeutral l hst (zl_re g H.size) z x3_9 x6_23) ch_L_isNeutral q_617 rfl rfl ⟨by rw [hRf]; exact (Nat.le_of_ble_eq_true rfl), by rw [hRl]; exact (Nat.le_of_ble_eq_true rfl)⟩ hW rfl hl.1 rfl (Nat.le_of_ble_eq_true rfl) dL_examiners_149 ⟨(zc1 (D := 6) g51 (Nat.le_of_ble_eq_true rfl)), (zc1 (D := 36) g53 (Nat.le_of_ble_eq_true rfl))⟩) hW (fun r9 z9 H locs h9 hW => ?_)
                              obtain ⟨rfl, e9⟩ := h9
                              rw [e9, s_isNeutral_z] at hW
                              refine lv_if_eq (tgt := 217) hx hb dL_examiners_152 (by decide) (fun k144 => ?_) (fun k144 => ?_)
                              · replace h := h.1 k144
                                refine lv_iconst (v := 0) hx hb dL_examiners_217 (by decide) ?_
                                subst hQ0
                                refine W.widen (k := 1284) (n := 7704) (Nat.le_trans (zc1 (D := 6) g51 (Nat.le_of_ble_eq_true rfl)) (Nat.le_of_eq hRc)) (Nat.le_trans (zc1 (D := 36) g53 (Nat.le_of_ble_eq_true rfl)) (Nat.le_of_eq hRs)) ?_
                                exact zl_ri hx hb hr hlocks hW (by decide) ⟨h, rfl⟩ dL_examiners_218
                              · replace h := h.2 k144
                                refine lv_iload hx hb dL_examiners_155 (lv_at hl 8 rfl) ?_
                                refine lv_if_eq (tgt := 170) hx hb dL_examiners_157 (by decide) (fun k145 => ?_) (fun k145 => ?_)
                                · replace h := h.1 k145
                                  refine lv_iload hx hb dL_examiners_170 (lv_at hl 9 rfl) ?_
                                  refine lv_if_eq (tgt := 200) hx hb dL_examiners_172 (by decide) (fun k146 => ?_) (fun k146 => ?_)
                                  · replace h := h.1 k146
                                    refine lv_iload hx hb dL_examiners_200 (lv_at hl 8 rfl) ?_
                                    refine lv_if_ne (tgt := 219) hx hb dL_examiners_202 (by decide) (fun k147 => ?_) (fun k147 => ?_)
                                    · replace h := h.2 k147
                                      obtain ⟨v148, ev148⟩ : ∃ z : Int32, z = x6_23 + (1 : Int32) := ⟨_, rfl⟩
                                      replace h := h v148 ev148
                                      refine lv_iinc (v := v148) (lv' := [(6, .int v148), (9, .int t0_116), (0, .ref (sw_ad g 0)), (1, .int v1), (2, .int x2_9), (3, .int x3_9), (4, .int v41), (5, .int v50), (7, .int t0_48), (8, .int t0_80)]) hx hb dL_examiners_219 hl (k := 7) rfl (by rw [ev148]; rfl) (Nat.le_of_ble_eq_true rfl) rfl (fun ls hl => ?_)
                                      refine lv_goto (tgt := 23) hx hb dL_examiners_222 (by decide) ?_
                                      exact ih23 v41 v50 v148 _ _ _ _ _ h (zc10 (zc1 (D := 6) g52 (Nat.le_of_ble_eq_true rfl)) hTcn23 hcn23) (zc10 (zc1 (D := 36) g54 (Nat.le_of_ble_eq_true rfl)) hTsn23 hsn23) hW (lv_sub hl [2, 3, 4, 5, 6, 7, 0] rfl)
                                    · replace h := h.1 k147
                                      refine lv_aload_n hx hb dL_examiners_205 rfl (lv_at hl 1 rfl) ?_
                                      refine lv_iload_n hx hb dL_examiners_206 rfl (lv_at hl 4 rfl) ?_
                                      refine lv_iload hx hb dL_examiners_207 (lv_at hl 7 rfl) ?_
                                      refine zl_ki (g := g) (rest := []) (zl_runH (g := g) (As := [.ref (sw_ad g 0), .int x3_9, .int x6_23]) (rest := []) hx hb hml hown hts (kL_gradeBy l hst (zl_re g H.size) z x3_9 x6_23) ch_L_gradeBy q_513 rfl rfl ⟨by rw [hRf]; exact (Nat.le_of_ble_eq_true rfl), by rw [hRl]; exact (Nat.le_of_ble_eq_true rfl)⟩ hW rfl hl.1 rfl (Nat.le_of_ble_eq_true rfl) dL_examiners_209 ⟨(zc1 (D := 9) g51 (Nat.le_of_ble_eq_true rfl)), (zc1 (D := 54) g53 (Nat.le_of_ble_eq_true rfl))⟩) hW (fun r9 z9 H locs h9 hW => ?_)
                                      obtain ⟨rfl, e9⟩ := h9
                                      rw [e9, s_gradeBy_z] at hW
                                      refine lv_bipush (v := -13) hx hb dL_examiners_212 (by decide) ?_
                                      refine lv_icmp_eq (tgt := 219) hx hb dL_examiners_214 (by decide) (fun k149 => ?_) (fun k149 => ?_)
                                      · replace h := h.1 k149
                                        obtain ⟨v150, ev150⟩ : ∃ z : Int32, z = x6_23 + (1 : Int32) := ⟨_, rfl⟩
                                        replace h := h v150 ev150
                                        refine lv_iinc (v := v150) (lv' := [(6, .int v150), (9, .int t0_116), (0, .ref (sw_ad g 0)), (1, .int v1), (2, .int x2_9), (3, .int x3_9), (4, .int v41), (5, .int v50), (7, .int t0_48), (8, .int t0_80)]) hx hb dL_examiners_219 hl (k := 7) rfl (by rw [ev150]; rfl) (Nat.le_of_ble_eq_true rfl) rfl (fun ls hl => ?_)
                                        refine lv_goto (tgt := 23) hx hb dL_examiners_222 (by decide) ?_
                                        exact ih23 v41 v50 v150 _ _ _ _ _ h (zc10 (zc1 (D := 9) g52 (Nat.le_of_ble_eq_true rfl)) hTcn23 hcn23) (zc10 (zc1 (D := 54) g54 (Nat.le_of_ble_eq_true rfl)) hTsn23 hsn23) hW (lv_sub hl [2, 3, 4, 5, 6, 7, 0] rfl)
                                      · replace h := h.2 k149
                                        refine lv_iconst (v := 0) hx hb dL_examiners_217 (by decide) ?_
                                        subst hQ0
                                        refine W.widen (k := 1284) (n := 7704) (Nat.le_trans (zc1 (D := 9) g51 (Nat.le_of_ble_eq_true rfl)) (Nat.le_of_eq hRc)) (Nat.le_trans (zc1 (D := 54) g53 (Nat.le_of_ble_eq_true rfl)) (Nat.le_of_eq hRs)) ?_
                                        exact zl_ri hx hb hr hlocks hW (by decide) ⟨h, rfl⟩ dL_examiners_218
                                  · replace h := h.2 k146
                                    refine lv_iload hx hb dL_examiners_175 (lv_at hl 8 rfl) ?_
                                    refine lv_if_ne (tgt := 217) hx hb dL_examiners_177 (by decide) (fun k151 => ?_) (fun k151 => ?_)
                                    · replace h := h.2 k151
                                      refine lv_iconst (v := 0) hx hb dL_examiners_217 (by decide) ?_
                                      subst hQ0
                                      refine W.widen (k := 1284) (n := 7704) (Nat.le_trans (zc1 (D := 6) g51 (Nat.le_of_ble_eq_true rfl)) (Nat.le_of_eq hRc)) (Nat.le_trans (zc1 (D := 36) g53 (Nat.le_of_ble_eq_true rfl)) (Nat.le_of_eq hRs)) ?_
                                      exact zl_ri hx hb hr hlocks hW (by decide) ⟨h, rfl⟩ dL_examiners_218
                                    · replace h := h.1 k151
                                      refine lv_aload_n hx hb dL_examiners_180 rfl (lv_at hl 1 rfl) ?_
                                      refine lv_iload_n hx hb dL_examiners_181 rfl (lv_at hl 4 rfl) ?_
                                      refine lv_iload hx hb dL_examiners_182 (lv_at hl 7 rfl) ?_
                                      refine zl_ki (g := g) (rest := []) (zl_runH (g := g) (As := [.ref (sw_ad g 0), .int x3_9, .int x6_23]) (rest := []) hx hb hml hown hts (kL_mayJudge l hst (zl_re g H.size) z x3_9 x6_23) ch_L_mayJudge q_624 rfl rfl ⟨by rw [hRf]; exact (Nat.le_of_ble_eq_true rfl), by rw [hRl]; exact (Nat.le_of_ble_eq_true rfl)⟩ hW rfl hl.1 rfl (Nat.le_of_ble_eq_true rfl) dL_examiners_184 ⟨(zc1 (D := 8) g51 (Nat.le_of_ble_eq_true rfl)), (zc1 (D := 48) g53 (Nat.le_of_ble_eq_true rfl))⟩) hW (fun r9 z9 H locs h9 hW => ?_)
                                      obtain ⟨rfl, e9⟩ := h9
                                      rw [e9, s_mayJudge_z] at hW
                                      refine lv_if_eq (tgt := 217) hx hb dL_examiners_187 (by decide) (fun k152 => ?_) (fun k152 => ?_)
                                      · replace h := h.1 k152
                                        refine lv_iconst (v := 0) hx hb dL_examiners_217 (by decide) ?_
                                        subst hQ0
                                        refine W.widen (k := 1284) (n := 7704) (Nat.le_trans (zc1 (D := 8) g51 (Nat.le_of_ble_eq_true rfl)) (Nat.le_of_eq hRc)) (Nat.le_trans (zc1 (D := 48) g53 (Nat.le_of_ble_eq_true rfl)) (Nat.le_of_eq hRs)) ?_
                                        exact zl_ri hx hb hr hlocks hW (by decide) ⟨h, rfl⟩ dL_examiners_218
                                      · replace h := h.2 k152
                                        refine lv_aload_n hx hb dL_examiners_190 rfl (lv_at hl 1 rfl) ?_
                                        refine lv_iload hx hb dL_examiners_191 (lv_at hl 7 rfl) ?_
                                        have y153 := h.1
                                        replace h := h.2
                                        refine zl_ki (g := g) (rest := []) (zl_runV (g := g) (As := [.int x6_23]) (rest := []) hx hb hml hown hts (zD_examinersOf l hst (zl_re g H.size) z x6_23 y153) cv_X6_examinersOf q_532 rfl rfl ⟨by rw [hRf]; exact (Nat.le_of_ble_eq_true rfl), by rw [hRl]; exact (Nat.le_of_ble_eq_true rfl)⟩ hW (Or.inl (Nat.le_of_ble_eq_true rfl)) sl_0 rfl rfl hl.1 rfl (Nat.le_of_ble_eq_true rfl) dL_examiners_193 ⟨(zc1 (D := 9) g51 (Nat.le_of_ble_eq_true rfl)), (zc1 (D := 54) g53 (Nat.le_of_ble_eq_true rfl))⟩) hW (fun r9 z9 H locs h9 hW => ?_)
                                        clear y153
                                        obtain ⟨rfl, e9⟩ := h9
                                        rw [e9, s_examinersOf_z] at hW
                                        refine lv_iconst (v := 3) hx hb dL_examiners_196 (by decide) ?_
                                        refine lv_icmp_eq (tgt := 217) hx hb dL_examiners_197 (by decide) (fun k154 => ?_) (fun k154 => ?_)
                                        · replace h := h.1 k154
                                          refine lv_iconst (v := 0) hx hb dL_examiners_217 (by decide) ?_
                                          subst hQ0
                                          refine W.widen (k := 1284) (n := 7704) (Nat.le_trans (zc1 (D := 9) g51 (Nat.le_of_ble_eq_true rfl)) (Nat.le_of_eq hRc)) (Nat.le_trans (zc1 (D := 54) g53 (Nat.le_of_ble_eq_true rfl)) (Nat.le_of_eq hRs)) ?_
                                          exact zl_ri hx hb hr hlocks hW (by decide) ⟨h, rfl⟩ dL_examiners_218
                                        · replace h := h.2 k154
                                          refine lv_iload hx hb dL_examiners_200 (lv_at hl 8 rfl) ?_
                                          refine lv_if_ne (tgt := 219) hx hb dL_examiners_202 (by decide) (fun k155 => ?_) (fun k155 => ?_)
                                          · replace h := h.2 k155
                                            obtain ⟨v156, ev156⟩ : ∃ z : Int32, z = x6_23 + (1 : Int32) := ⟨_, rfl⟩
                                            replace h := h v156 ev156
                                            refine lv_iinc (v := v156) (lv' := [(6, .int v156), (9, .int t0_116), (0, .ref (sw_ad g 0)), (1, .int v1), (2, .int x2_9), (3, .int x3_9), (4, .int v41), (5, .int v50), (7, .int t0_48), (8, .int t0_80)]) hx hb dL_examiners_219 hl (k := 7) rfl (by rw [ev156]; rfl) (Nat.le_of_ble_eq_true rfl) rfl (fun ls hl => ?_)
                                            refine lv_goto (tgt := 23) hx hb dL_examiners_222 (by decide) ?_
                                            exact ih23 v41 v50 v156 _ _ _ _ _ h (zc10 (zc1 (D := 9) g52 (Nat.le_of_ble_eq_true rfl)) hTcn23 hcn23) (zc10 (zc1 (D := 54) g54 (Nat.le_of_ble_eq_true rfl)) hTsn23 hsn23) hW (lv_sub hl [2, 3, 4, 5, 6, 7, 0] rfl)
                                          · replace h := h.1 k155
                                            refine lv_aload_n hx hb dL_examiners_205 rfl (lv_at hl 1 rfl) ?_
                                            refine lv_iload_n hx hb dL_examiners_206 rfl (lv_at hl 4 rfl) ?_
                                            refine lv_iload hx hb dL_examiners_207 (lv_at hl 7 rfl) ?_
                                            refine zl_ki (g := g) (rest := []) (zl_runH (g := g) (As := [.ref (sw_ad g 0), .int x3_9, .int x6_23]) (rest := []) hx hb hml hown hts (kL_gradeBy l hst (zl_re g H.size) z x3_9 x6_23) ch_L_gradeBy q_513 rfl rfl ⟨by rw [hRf]; exact (Nat.le_of_ble_eq_true rfl), by rw [hRl]; exact (Nat.le_of_ble_eq_true rfl)⟩ hW rfl hl.1 rfl (Nat.le_of_ble_eq_true rfl) dL_examiners_209 ⟨(zc1 (D := 12) g51 (Nat.le_of_ble_eq_true rfl)), (zc1 (D := 72) g53 (Nat.le_of_ble_eq_true rfl))⟩) hW (fun r9 z9 H locs h9 hW => ?_)
                                            obtain ⟨rfl, e9⟩ := h9
                                            rw [e9, s_gradeBy_z] at hW
                                            refine lv_bipush (v := -13) hx hb dL_examiners_212 (by decide) ?_
                                            refine lv_icmp_eq (tgt := 219) hx hb dL_examiners_214 (by decide) (fun k157 => ?_) (fun k157 => ?_)
                                            · replace h := h.1 k157
                                              obtain ⟨v158, ev158⟩ : ∃ z : Int32, z = x6_23 + (1 : Int32) := ⟨_, rfl⟩
                                              replace h := h v158 ev158
                                              refine lv_iinc (v := v158) (lv' := [(6, .int v158), (9, .int t0_116), (0, .ref (sw_ad g 0)), (1, .int v1), (2, .int x2_9), (3, .int x3_9), (4, .int v41), (5, .int v50), (7, .int t0_48), (8, .int t0_80)]) hx hb dL_examiners_219 hl (k := 7) rfl (by rw [ev158]; rfl) (Nat.le_of_ble_eq_true rfl) rfl (fun ls hl => ?_)
                                              refine lv_goto (tgt := 23) hx hb dL_examiners_222 (by decide) ?_
                                              exact ih23 v41 v50 v158 _ _ _ _ _ h (zc10 (zc1 (D := 12) g52 (Nat.le_of_ble_eq_true rfl)) hTcn23 hcn23) (zc10 (zc1 (D := 72) g54 (Nat.le_of_ble_eq_true rfl)) hTsn23 hsn23) hW (lv_sub hl [2, 3, 4, 5, 6, 7, 0] rfl)
                                            · replace h := h.2 k157
                                              refine lv_iconst (v := 0) hx hb dL_examiners_217 (by decide) ?_
                                              subst hQ0
                                              refine W.widen (k := 1284) (n := 7704) (Nat.le_trans (zc1 (D := 12) g51 (Nat.le_of_ble_eq_true rfl)) (Nat.le_of_eq hRc)) (Nat.le_trans (zc1 (D := 72) g53 (Nat.le_of_ble_eq_true rfl)) (Nat.le_of_eq hRs)) ?_
                                              exact zl_ri hx hb hr hlocks hW (by decide) ⟨h, rfl⟩ dL_examiners_218
                                · replace h := h.2 k145
                                  refine lv_aload_n hx hb dL_examiners_160 rfl (lv_at hl 1 rfl) ?_
                                  refine lv_iload_n hx hb dL_examiners_161 rfl (lv_at hl 4 rfl) ?_
                                  refine lv_iload hx hb dL_examiners_162 (lv_at hl 7 rfl) ?_
                                  refine zl_ki (g := g) (rest := []) (zl_runH (g := g) (As := [.ref (sw_ad g 0), .int x3_9, .int x6_23]) (rest := []) hx hb hml hown hts (kL_mayJudge l hst (zl_re g H.size) z x3_9 x6_23) ch_L_mayJudge q_624 rfl rfl ⟨by rw [hRf]; exact (Nat.le_of_ble_eq_true rfl), by rw [hRl]; exact (Nat.le_of_ble_eq_true rfl)⟩ hW rfl hl.1 rfl (Nat.le_of_ble_eq_true rfl) dL_examiners_164 ⟨(zc1 (D := 8) g51 (Nat.le_of_ble_eq_true rfl)), (zc1 (D := 48) g53 (Nat.le_of_ble_eq_true rfl))⟩) hW (fun r9 z9 H locs h9 hW => ?_)
                                  obtain ⟨rfl, e9⟩ := h9
                                  rw [e9, s_mayJudge_z] at hW
                                  refine lv_if_eq (tgt := 217) hx hb dL_examiners_167 (by decide) (fun k159 => ?_) (fun k159 => ?_)
                                  · replace h := h.1 k159
                                    refine lv_iconst (v := 0) hx hb dL_examiners_217 (by decide) ?_
                                    subst hQ0
                                    refine W.widen (k := 1284) (n := 7704) (Nat.le_trans (zc1 (D := 8) g51 (Nat.le_of_ble_eq_true rfl)) (Nat.le_of_eq hRc)) (Nat.le_trans (zc1 (D := 48) g53 (Nat.le_of_ble_eq_true rfl)) (Nat.le_of_eq hRs)) ?_
                                    exact zl_ri hx hb hr hlocks hW (by decide) ⟨h, rfl⟩ dL_examiners_218
                                  · replace h := h.2 k159
                                    refine lv_iload hx hb dL_examiners_170 (lv_at hl 9 rfl) ?_
                                    refine lv_if_eq (tgt := 200) hx hb dL_examiners_172 (by decide) (fun k160 => ?_) (fun k160 => ?_)
                                    · replace h := h.1 k160
                                      refine lv_iload hx hb dL_examiners_200 (lv_at hl 8 rfl) ?_
                                      refine lv_if_ne (tgt := 219) hx hb dL_examiners_202 (by decide) (fun k161 => ?_) (fun k161 => ?_)
                                      · replace h := h.2 k161
                                        obtain ⟨v162, ev162⟩ : ∃ z : Int32, z = x6_23 + (1 : Int32) := ⟨_, rfl⟩
                                        replace h := h v162 ev162
                                        refine lv_iinc (v := v162) (lv' := [(6, .int v162), (9, .int t0_116), (0, .ref (sw_ad g 0)), (1, .int v1), (2, .int x2_9), (3, .int x3_9), (4, .int v41), (5, .int v50), (7, .int t0_48), (8, .int t0_80)]) hx hb dL_examiners_219 hl (k := 7) rfl (by rw [ev162]; rfl) (Nat.le_of_ble_eq_true rfl) rfl (fun ls hl => ?_)
                                        refine lv_goto (tgt := 23) hx hb dL_examiners_222 (by decide) ?_
                                        exact ih23 v41 v50 v162 _ _ _ _ _ h (zc10 (zc1 (D := 8) g52 (Nat.le_of_ble_eq_true rfl)) hTcn23 hcn23) (zc10 (zc1 (D := 48) g54 (Nat.le_of_ble_eq_true rfl)) hTsn23 hsn23) hW (lv_sub hl [2, 3, 4, 5, 6, 7, 0] rfl)
                                      · replace h := h.1 k161
                                        refine lv_aload_n hx hb dL_examiners_205 rfl (lv_at hl 1 rfl) ?_
                                        refine lv_iload_n hx hb dL_examiners_206 rfl (lv_at hl 4 rfl) ?_
                                        refine lv_iload hx hb dL_examiners_207 (lv_at hl 7 rfl) ?_
                                        refine zl_ki (g := g) (rest := []) (zl_runH (g := g) (As := [.ref (sw_ad g 0), .int x3_9, .int x6_23]) (rest := []) hx hb hml hown hts (kL_gradeBy l hst (zl_re g H.size) z x3_9 x6_23) ch_L_gradeBy q_513 rfl rfl ⟨by rw [hRf]; exact (Nat.le_of_ble_eq_true rfl), by rw [hRl]; exact (Nat.le_of_ble_eq_true rfl)⟩ hW rfl hl.1 rfl (Nat.le_of_ble_eq_true rfl) dL_examiners_209 ⟨(zc1 (D := 11) g51 (Nat.le_of_ble_eq_true rfl)), (zc1 (D := 66) g53 (Nat.le_of_ble_eq_true rfl))⟩) hW (fun r9 z9 H locs h9 hW => ?_)
                                        obtain ⟨rfl, e9⟩ := h9
                                        rw [e9, s_gradeBy_z] at hW
                                        refine lv_bipush (v := -13) hx hb dL_examiners_212 (by decide) ?_
                                        refine lv_icmp_eq (tgt := 219) hx hb dL_examiners_214 (by decide) (fun k163 => ?_) (fun k163 => ?_)
                                        · replace h := h.1 k163
                                          obtain ⟨v164, ev164⟩ : ∃ z : Int32, z = x6_23 + (1 : Int32) := ⟨_, rfl⟩
                                          replace h := h v164 ev164
                                          refine lv_iinc (v := v164) (lv' := [(6, .int v164), (9, .int t0_116), (0, .ref (sw_ad g 0)), (1, .int v1), (2, .int x2_9), (3, .int x3_9), (4, .int v41), (5, .int v50), (7, .int t0_48), (8, .int t0_80)]) hx hb dL_examiners_219 hl (k := 7) rfl (by rw [ev164]; rfl) (Nat.le_of_ble_eq_true rfl) rfl (fun ls hl => ?_)
                                          refine lv_goto (tgt := 23) hx hb dL_examiners_222 (by decide) ?_
                                          exact ih23 v41 v50 v164 _ _ _ _ _ h (zc10 (zc1 (D := 11) g52 (Nat.le_of_ble_eq_true rfl)) hTcn23 hcn23) (zc10 (zc1 (D := 66) g54 (Nat.le_of_ble_eq_true rfl)) hTsn23 hsn23) hW (lv_sub hl [2, 3, 4, 5, 6, 7, 0] rfl)
                                        · replace h := h.2 k163
                                          refine lv_iconst (v := 0) hx hb dL_examiners_217 (by decide) ?_
                                          subst hQ0
                                          refine W.widen (k := 1284) (n := 7704) (Nat.le_trans (zc1 (D := 11) g51 (Nat.le_of_ble_eq_true rfl)) (Nat.le_of_eq hRc)) (Nat.le_trans (zc1 (D := 66) g53 (Nat.le_of_ble_eq_true rfl)) (Nat.le_of_eq hRs)) ?_
                                          exact zl_ri hx hb hr hlocks hW (by decide) ⟨h, rfl⟩ dL_examiners_218
                                    · replace h := h.2 k160
                                      refine lv_iload hx hb dL_examiners_175 (lv_at hl 8 rfl) ?_
                                      refine lv_if_ne (tgt := 217) hx hb dL_examiners_177 (by decide) (fun k165 => ?_) (fun k165 => ?_)
                                      · replace h := h.2 k165
                                        refine lv_iconst (v := 0) hx hb dL_examiners_217 (by decide) ?_
                                        subst hQ0
                                        refine W.widen (k := 1284) (n := 7704) (Nat.le_trans (zc1 (D := 8) g51 (Nat.le_of_ble_eq_true rfl)) (Nat.le_of_eq hRc)) (Nat.le_trans (zc1 (D := 48) g53 (Nat.le_of_ble_eq_true rfl)) (Nat.le_of_eq hRs)) ?_
                                        exact zl_ri hx hb hr hlocks hW (by decide) ⟨h, rfl⟩ dL_examiners_218
                                      · replace h := h.1 k165
                                        refine lv_aload_n hx hb dL_examiners_180 rfl (lv_at hl 1 rfl) ?_
                                        refine lv_iload_n hx hb dL_examiners_181 rfl (lv_at hl 4 rfl) ?_
                                        refine lv_iload hx hb dL_examiners_182 (lv_at hl 7 rfl) ?_
                                        refine zl_ki (g := g) (rest := []) (zl_runH (g := g) (As := [.ref (sw_ad g 0), .int x3_9, .int x6_23]) (rest := []) hx hb hml hown hts (kL_mayJudge l hst (zl_re g H.size) z x3_9 x6_23) ch_L_mayJudge q_624 rfl rfl ⟨by rw [hRf]; exact (Nat.le_of_ble_eq_true rfl), by rw [hRl]; exact (Nat.le_of_ble_eq_true rfl)⟩ hW rfl hl.1 rfl (Nat.le_of_ble_eq_true rfl) dL_examiners_184 ⟨(zc1 (D := 10) g51 (Nat.le_of_ble_eq_true rfl)), (zc1 (D := 60) g53 (Nat.le_of_ble_eq_true rfl))⟩) hW (fun r9 z9 H locs h9 hW => ?_)
                                        obtain ⟨rfl, e9⟩ := h9
                                        rw [e9, s_mayJudge_z] at hW
                                        refine lv_if_eq (tgt := 217) hx hb dL_examiners_187 (by decide) (fun k166 => ?_) (fun k166 => ?_)
                                        · replace h := h.1 k166
                                          refine lv_iconst (v := 0) hx hb dL_examiners_217 (by decide) ?_
                                          subst hQ0
                                          refine W.widen (k := 1284) (n := 7704) (Nat.le_trans (zc1 (D := 10) g51 (Nat.le_of_ble_eq_true rfl)) (Nat.le_of_eq hRc)) (Nat.le_trans (zc1 (D := 60) g53 (Nat.le_of_ble_eq_true rfl)) (Nat.le_of_eq hRs)) ?_
                                          exact zl_ri hx hb hr hlocks hW (by decide) ⟨h, rfl⟩ dL_examiners_218
                                        · replace h := h.2 k166
                                          refine lv_aload_n hx hb dL_examiners_190 rfl (lv_at hl 1 rfl) ?_
                                          refine lv_iload hx hb dL_examiners_191 (lv_at hl 7 rfl) ?_
                                          have y167 := h.1
                                          replace h := h.2
                                          refine zl_ki (g := g) (rest := []) (zl_runV (g := g) (As := [.int x6_23]) (rest := []) hx hb hml hown hts (zD_examinersOf l hst (zl_re g H.size) z x6_23 y167) cv_X6_examinersOf q_532 rfl rfl ⟨by rw [hRf]; exact (Nat.le_of_ble_eq_true rfl), by rw [hRl]; exact (Nat.le_of_ble_eq_true rfl)⟩ hW (Or.inl (Nat.le_of_ble_eq_true rfl)) sl_0 rfl rfl hl.1 rfl (Nat.le_of_ble_eq_true rfl) dL_examiners_193 ⟨(zc1 (D := 11) g51 (Nat.le_of_ble_eq_true rfl)), (zc1 (D := 66) g53 (Nat.le_of_ble_eq_true rfl))⟩) hW (fun r9 z9 H locs h9 hW => ?_)
                                          clear y167
                                          obtain ⟨rfl, e9⟩ := h9
                                          rw [e9, s_examinersOf_z] at hW
                                          refine lv_iconst (v := 3) hx hb dL_examiners_196 (by decide) ?_
                                          refine lv_icmp_eq (tgt := 217) hx hb dL_examiners_197 (by decide) (fun k168 => ?_) (fun k168 => ?_)
                                          · replace h := h.1 k168
                                            refine lv_iconst (v := 0) hx hb dL_examiners_217 (by decide) ?_
                                            subst hQ0
                                            refine W.widen (k := 1284) (n := 7704) (Nat.le_trans (zc1 (D := 11) g51 (Nat.le_of_ble_eq_true rfl)) (Nat.le_of_eq hRc)) (Nat.le_trans (zc1 (D := 66) g53 (Nat.le_of_ble_eq_true rfl)) (Nat.le_of_eq hRs)) ?_
                                            exact zl_ri hx hb hr hlocks hW (by decide) ⟨h, rfl⟩ dL_examiners_218
                                          · replace h := h.2 k168
                                            refine lv_iload hx hb dL_examiners_200 (lv_at hl 8 rfl) ?_
                                            refine lv_if_ne (tgt := 219) hx hb dL_examiners_202 (by decide) (fun k169 => ?_) (fun k169 => ?_)
                                            · replace h := h.2 k169
                                              obtain ⟨v170, ev170⟩ : ∃ z : Int32, z = x6_23 + (1 : Int32) := ⟨_, rfl⟩
                                              replace h := h v170 ev170
                                              refine lv_iinc (v := v170) (lv' := [(6, .int v170), (9, .int t0_116), (0, .ref (sw_ad g 0)), (1, .int v1), (2, .int x2_9), (3, .int x3_9), (4, .int v41), (5, .int v50), (7, .int t0_48), (8, .int t0_80)]) hx hb dL_examiners_219 hl (k := 7) rfl (by rw [ev170]; rfl) (Nat.le_of_ble_eq_true rfl) rfl (fun ls hl => ?_)
                                              refine lv_goto (tgt := 23) hx hb dL_examiners_222 (by decide) ?_
                                              exact ih23 v41 v50 v170 _ _ _ _ _ h (zc10 (zc1 (D := 11) g52 (Nat.le_of_ble_eq_true rfl)) hTcn23 hcn23) (zc10 (zc1 (D := 66) g54 (Nat.le_of_ble_eq_true rfl)) hTsn23 hsn23) hW (lv_sub hl [2, 3, 4, 5, 6, 7, 0] rfl)
                                            · replace h := h.1 k169
                                              refine lv_aload_n hx hb dL_examiners_205 rfl (lv_at hl 1 rfl) ?_
                                              refine lv_iload_n hx hb dL_examiners_206 rfl (lv_at hl 4 rfl) ?_
                                              refine lv_iload hx hb dL_examiners_207 (lv_at hl 7 rfl) ?_
                                              refine zl_ki (g := g) (rest := []) (zl_runH (g := g) (As := [.ref (sw_ad g 0), .int x3_9, .int x6_23]) (rest := []) hx hb hml hown hts (kL_gradeBy l hst (zl_re g H.size) z x3_9 x6_23) ch_L_gradeBy q_513 rfl rfl ⟨by rw [hRf]; exact (Nat.le_of_ble_eq_true rfl), by rw [hRl]; exact (Nat.le_of_ble_eq_true rfl)⟩ hW rfl hl.1 rfl (Nat.le_of_ble_eq_true rfl) dL_examiners_209 ⟨(zc1 (D := 14) g51 (Nat.le_of_ble_eq_true rfl)), (zc1 (D := 84) g53 (Nat.le_of_ble_eq_true rfl))⟩) hW (fun r9 z9 H locs h9 hW => ?_)
                                              obtain ⟨rfl, e9⟩ := h9
                                              rw [e9, s_gradeBy_z] at hW
                                              refine lv_bipush (v := -13) hx hb dL_examiners_212 (by decide) ?_
                                              refine lv_icmp_eq (tgt := 219) hx hb dL_examiners_214 (by decide) (fun k171 => ?_) (fun k171 => ?_)
                                              · replace h := h.1 k171
                                                obtain ⟨v172, ev172⟩ : ∃ z : Int32, z = x6_23 + (1 : Int32) := ⟨_, rfl⟩
                                                replace h := h v172 ev172
                                                refine lv_iinc (v := v172) (lv' := [(6, .int v172), (9, .int t0_116), (0, .ref (sw_ad g 0)), (1, .int v1), (2, .int x2_9), (3, .int x3_9), (4, .int v41), (5, .int v50), (7, .int t0_48), (8, .int t0_80)]) hx hb dL_examiners_219 hl (k := 7) rfl (by rw [ev172]; rfl) (Nat.le_of_ble_eq_true rfl) rfl (fun ls hl => ?_)
                                                refine lv_goto (tgt := 23) hx hb dL_examiners_222 (by decide) ?_
                                                exact ih23 v41 v50 v172 _ _ _ _ _ h (zc10 (zc1 (D := 14) g52 (Nat.le_of_ble_eq_true rfl)) hTcn23 hcn23) (zc10 (zc1 (D := 84) g54 (Nat.le_of_ble_eq_true rfl)) hTsn23 hsn23) hW (lv_sub hl [2, 3, 4, 5, 6, 7, 0] rfl)
                                              · replace h := h.2 k171
                                                refine lv_iconst (v := 0) hx hb dL_examiners_217 (by decide) ?_
                                                subst hQ0
                                                refine W.widen (k := 1284) (n := 7704) (Nat.le_trans (zc1 (D := 14) g51 (Nat.le_of_ble_eq_true rfl)) (Nat.le_of_eq hRc)) (Nat.le_trans (zc1 (D := 84) g53 (Nat.le_of_ble_eq_true rfl)) (Nat.le_of_eq hRs)) ?_
                                                exact zl_ri hx hb hr hlocks hW (by decide) ⟨h, rfl⟩ dL_examiners_218
                      have g173 : cj94 + 2 ≤ CJ116 := Nat.le_of_eq hCJ116.symm
                      have g174 : sj94 + 12 ≤ SJ116 := Nat.le_of_eq hSJ116.symm
                      refine lv_icmp_ne (tgt := 115) hx hb dL_examiners_108 (by decide) (fun k175 => ?_) (fun k175 => ?_)
                      · replace h := h.2 k175
                        refine lv_iconst (v := 0) hx hb dL_examiners_115 (by decide) ?_
                        exact hJ116 (0 : Int32) _ _ _ _ _ h (zc1 (D := 2) g173 (Nat.le_of_ble_eq_true rfl)) (zc1 (D := 12) g174 (Nat.le_of_ble_eq_true rfl)) hW (lv_sub hl [1, 2, 3, 4, 5, 0, 6, 7, 8] rfl)
                      · replace h := h.1 k175
                        refine lv_iconst (v := 1) hx hb dL_examiners_111 (by decide) ?_
                        refine lv_goto (tgt := 116) hx hb dL_examiners_112 (by decide) ?_
                        exact hJ116 (1 : Int32) _ _ _ _ _ h (zc1 (D := 2) g173 (Nat.le_of_ble_eq_true rfl)) (zc1 (D := 12) g174 (Nat.le_of_ble_eq_true rfl)) hW (lv_sub hl [1, 2, 3, 4, 5, 0, 6, 7, 8] rfl)
                    have g176 : cj80 + 0 ≤ CJ94 := Nat.le_of_eq hCJ94.symm
                    have g177 : sj80 + 0 ≤ SJ94 := Nat.le_of_eq hSJ94.symm
                    refine lv_if_eq (tgt := 93) hx hb dL_examiners_86 (by decide) (fun k178 => ?_) (fun k178 => ?_)
                    · replace h := h.1 k178
                      refine lv_iconst (v := 0) hx hb dL_examiners_93 (by decide) ?_
                      exact hJ94 (0 : Int32) _ _ _ _ _ h (zc1 (D := 0) g176 (Nat.le_of_ble_eq_true rfl)) (zc1 (D := 0) g177 (Nat.le_of_ble_eq_true rfl)) hW (lv_sub hl [1, 2, 3, 4, 5, 7, 8, 0] rfl)
                    · replace h := h.2 k178
                      refine lv_iconst (v := 1) hx hb dL_examiners_89 (by decide) ?_
                      refine lv_goto (tgt := 94) hx hb dL_examiners_90 (by decide) ?_
                      exact hJ94 (1 : Int32) _ _ _ _ _ h (zc1 (D := 0) g176 (Nat.le_of_ble_eq_true rfl)) (zc1 (D := 0) g177 (Nat.le_of_ble_eq_true rfl)) hW (lv_sub hl [1, 2, 3, 4, 5, 7, 8, 0] rfl)
                  have g179 : cj62 + 2 ≤ CJ80 := Nat.le_of_eq hCJ80.symm
                  have g180 : sj62 + 12 ≤ SJ80 := Nat.le_of_eq hSJ80.symm
                  refine lv_icmp_ne (tgt := 79) hx hb dL_examiners_72 (by decide) (fun k181 => ?_) (fun k181 => ?_)
                  · replace h := h.2 k181
                    refine lv_iconst (v := 0) hx hb dL_examiners_79 (by decide) ?_
                    exact hJ80 (0 : Int32) _ _ _ _ _ h (zc1 (D := 2) g179 (Nat.le_of_ble_eq_true rfl)) (zc1 (D := 12) g180 (Nat.le_of_ble_eq_true rfl)) hW (lv_sub hl [1, 2, 3, 4, 0, 5, 6, 7] rfl)
                  · replace h := h.1 k181
                    refine lv_iconst (v := 1) hx hb dL_examiners_75 (by decide) ?_
                    refine lv_goto (tgt := 80) hx hb dL_examiners_76 (by decide) ?_
                    exact hJ80 (1 : Int32) _ _ _ _ _ h (zc1 (D := 2) g179 (Nat.le_of_ble_eq_true rfl)) (zc1 (D := 12) g180 (Nat.le_of_ble_eq_true rfl)) hW (lv_sub hl [1, 2, 3, 4, 0, 5, 6, 7] rfl)
                have g182 : cj48 + 0 ≤ CJ62 := Nat.le_of_eq hCJ62.symm
                have g183 : sj48 + 0 ≤ SJ62 := Nat.le_of_eq hSJ62.symm
                refine lv_if_eq (tgt := 61) hx hb dL_examiners_54 (by decide) (fun k184 => ?_) (fun k184 => ?_)
                · replace h := h.1 k184
                  refine lv_iconst (v := 0) hx hb dL_examiners_61 (by decide) ?_
                  exact hJ62 (0 : Int32) _ _ _ _ _ h (zc1 (D := 0) g182 (Nat.le_of_ble_eq_true rfl)) (zc1 (D := 0) g183 (Nat.le_of_ble_eq_true rfl)) hW (lv_sub hl [1, 2, 3, 4, 6, 7, 0] rfl)
                · replace h := h.2 k184
                  refine lv_iconst (v := 1) hx hb dL_examiners_57 (by decide) ?_
                  refine lv_goto (tgt := 62) hx hb dL_examiners_58 (by decide) ?_
                  exact hJ62 (1 : Int32) _ _ _ _ _ h (zc1 (D := 0) g182 (Nat.le_of_ble_eq_true rfl)) (zc1 (D := 0) g183 (Nat.le_of_ble_eq_true rfl)) hW (lv_sub hl [1, 2, 3, 4, 6, 7, 0] rfl)
              have g185 : cn23 + 2 ≤ CJ48 := Nat.le_of_eq hCJ48.symm
              have g186 : sn23 + 12 ≤ SJ48 := Nat.le_of_eq hSJ48.symm
              refine lv_icmp_ne (tgt := 47) hx hb dL_examiners_40 (by decide) (fun k187 => ?_) (fun k187 => ?_)
              · replace h := h.2 k187
                refine lv_iconst (v := 0) hx hb dL_examiners_47 (by decide) ?_
                exact hJ48 (0 : Int32) _ _ _ _ _ h (zc1 (D := 2) g185 (Nat.le_of_ble_eq_true rfl)) (zc1 (D := 12) g186 (Nat.le_of_ble_eq_true rfl)) hW (lv_sub hl [0, 1, 2, 3, 4, 5, 6] rfl)
              · replace h := h.1 k187
                refine lv_iconst (v := 1) hx hb dL_examiners_43 (by decide) ?_
                refine lv_goto (tgt := 48) hx hb dL_examiners_44 (by decide) ?_
                exact hJ48 (1 : Int32) _ _ _ _ _ h (zc1 (D := 2) g185 (Nat.le_of_ble_eq_true rfl)) (zc1 (D := 12) g186 (Nat.le_of_ble_eq_true rfl)) hW (lv_sub hl [0, 1, 2, 3, 4, 5, 6] rfl)
        exact key23 9 (0 : Int32) (0 : Int32) (0 : Int32) _ _ _ _ _ h (Nat.le_of_eq hCL23.symm) (Nat.le_of_eq hSL23.symm) hW (lv_sub hl [3, 4, 5, 6, 2, 1, 0] rfl)
  exact key9 7 (0 : Int32) (0 : Int32) _ _ _ _ _ h (Nat.le_of_eq hCL9.symm) (Nat.le_of_eq hSL9.symm) hW (lv_sub hl [3, 2, 1, 0] rfl)

def jL_panels__245 (z : zG) (x2_7 : Int32) (x3_20k : Int32) (Q : Int32 → Prop) (N7 : Int32 → Prop) (t0_245 : Int32) : Prop :=
  (t0_245 = 0 → (Q (0 : Int32))) ∧ (¬ t0_245 = 0 → (((zv (s_panelCount z x2_7) [(-11)]) = x3_20k → (((zv (s_panelCount z x2_7) [(-11)]) = x3_20k → (((zv (s_panelMember z x2_7 ((3 : Int32))) [(-11), (-12), (-13)]) = (-12 : Int32) → (((zv (s_panelMember z x2_7 ((-1 : Int32))) [(-11), (-12), (-13)]) = (-12 : Int32) → (∀ v26 : Int32, v26 = x2_7 + (1 : Int32) → (N7 v26))) ∧ (¬ (zv (s_panelMember z x2_7 ((-1 : Int32))) [(-11), (-12), (-13)]) = (-12 : Int32) → (Q (0 : Int32))))) ∧ (¬ (zv (s_panelMember z x2_7 ((3 : Int32))) [(-11), (-12), (-13)]) = (-12 : Int32) → (Q (0 : Int32))))) ∧ (¬ (zv (s_panelCount z x2_7) [(-11)]) = x3_20k → (Q (0 : Int32))))) ∧ (¬ (zv (s_panelCount z x2_7) [(-11)]) = x3_20k → (Q (0 : Int32)))))
def jL_panels__152 (x3_20 : Int32) (x4_20 : Int32) (N20 : Int32 → Int32 → Prop) (t0_152 : Int32) : Prop :=
  ∀ v53 : Int32, v53 = (x3_20 + t0_152) → (∀ v54 : Int32, v54 = x4_20 + (1 : Int32) → (N20 v53 v54))
def jL_panels__123 (x5_50 : Int32) (x7_50 : Int32) (t0_99 : Int32) (N50 : Int32 → Int32 → Int32 → Prop) (t0_123 : Int32) : Prop :=
  ∀ v77 : Int32, v77 = (x5_50 ||| t0_123) → (∀ v78 : Int32, v78 = x7_50 + (1 : Int32) → (N50 v77 t0_99 v78))
def jL_panels__99 (z : zG) (x5_50 : Int32) (x7_50 : Int32) (t0_72 : Int32) (N50 : Int32 → Int32 → Int32 → Prop) (t0_99 : Int32) : Prop :=
  (t0_72 = 0 → (jL_panels__123 x5_50 x7_50 t0_99 N50 (0 : Int32))) ∧ (¬ t0_72 = 0 → ((s_frameOfExaminer z x7_50).1 = 0 ∧ (jL_panels__123 x5_50 x7_50 t0_99 N50 ((1 : Int32) <<< (((nI (s_frameOfExaminer z x7_50).2.1) - (97 : Int32)) &&& 31)))))
def jL_panels__72 (z : zG) (x2_7 : Int32) (x5_50 : Int32) (x6_50 : Int32) (x7_50 : Int32) (N50 : Int32 → Int32 → Int32 → Prop) (t0_72 : Int32) : Prop :=
  (x6_50 = 0 → (jL_panels__99 z x5_50 x7_50 t0_72 N50 (0 : Int32))) ∧ (¬ x6_50 = 0 → ((t0_72 = 0 → (jL_panels__99 z x5_50 x7_50 t0_72 N50 (1 : Int32))) ∧ (¬ t0_72 = 0 → (wL_canSit x7_50 x2_7  z (fun r87 => (r87 = 0 → (jL_panels__99 z x5_50 x7_50 t0_72 N50 (0 : Int32))) ∧ (¬ r87 = 0 → (jL_panels__99 z x5_50 x7_50 t0_72 N50 (1 : Int32))))))))
def lL_panels__50 (z : zG) (v1 : Int32) (x2_7 : Int32) (x4_20 : Int32) (K50 : Int32 → Int32 → Prop) : Nat → Int32 → Int32 → Int32 → Prop
  | 0, _, _, _ => False
  | n50 + 1, x5_50, x6_50, x7_50 => (v1 ≤ x7_50 → (K50 x5_50 x6_50)) ∧ (¬ v1 ≤ x7_50 → ((((x4_20 >>> (x7_50 &&& 31)) &&& (1 : Int32)) = (1 : Int32) → (jL_panels__72 z x2_7 x5_50 x6_50 x7_50 (fun x5_50 x6_50 x7_50 => lL_panels__50 z v1 x2_7 x4_20 K50 n50 x5_50 x6_50 x7_50) (1 : Int32))) ∧ (¬ ((x4_20 >>> (x7_50 &&& 31)) &&& (1 : Int32)) = (1 : Int32) → (jL_panels__72 z x2_7 x5_50 x6_50 x7_50 (fun x5_50 x6_50 x7_50 => lL_panels__50 z v1 x2_7 x4_20 K50 n50 x5_50 x6_50 x7_50) (0 : Int32)))))
def jL_panels__45 (z : zG) (v1 : Int32) (x2_7 : Int32) (x3_20 : Int32) (x4_20 : Int32) (N20 : Int32 → Int32 → Prop) (t0_45 : Int32) : Prop :=
  lL_panels__50 z v1 x2_7 x4_20 (fun x5_50k x6_50k => (x6_50k = 0 → (jL_panels__152 x3_20 x4_20 N20 (0 : Int32))) ∧ (¬ x6_50k = 0 → (wJ6_bitCount_0f7a4 x5_50k (fun r58 => (r58 = (3 : Int32) → (jL_panels__152 x3_20 x4_20 N20 (1 : Int32))) ∧ (¬ r58 = (3 : Int32) → (jL_panels__152 x3_20 x4_20 N20 (0 : Int32))))))) 7 (0 : Int32) t0_45 (0 : Int32)
def lL_panels__20 (z : zG) (v1 : Int32) (x2_7 : Int32) (K20 : Int32 → Prop) : Nat → Int32 → Int32 → Prop
  | 0, _, _ => False
  | n20 + 1, x3_20, x4_20 => (((1 : Int32) <<< (v1 &&& 31)) ≤ x4_20 → (K20 x3_20)) ∧ (¬ ((1 : Int32) <<< (v1 &&& 31)) ≤ x4_20 → (wJ6_bitCount_0f7a4 x4_20 (fun r40 => (r40 = (3 : Int32) → (jL_panels__45 z v1 x2_7 x3_20 x4_20 (fun x3_20 x4_20 => lL_panels__20 z v1 x2_7 K20 n20 x3_20 x4_20) (1 : Int32))) ∧ (¬ r40 = (3 : Int32) → (jL_panels__45 z v1 x2_7 x3_20 x4_20 (fun x3_20 x4_20 => lL_panels__20 z v1 x2_7 K20 n20 x3_20 x4_20) (0 : Int32))))))
def lL_panels__7 (z : zG) (v1 : Int32) (Q : Int32 → Prop) (K7 : Prop) : Nat → Int32 → Prop
  | 0, _ => False
  | n7 + 1, x2_7 => ((nI (z.1 0)) ≤ x2_7 → (K7)) ∧ (¬ (nI (z.1 0)) ≤ x2_7 → (lL_panels__20 z v1 x2_7 (fun x3_20k => wL_firstPanel x2_7  z (fun r16 => (0 ≤ r16 → (((zv (s_panelMember z x2_7 ((0 : Int32))) [(-11), (-12), (-13)]) = (r16 / (36 : Int32)) → (((zv (s_panelMember z x2_7 ((1 : Int32))) [(-11), (-12), (-13)]) = ((r16 / (6 : Int32)) - (r16 / (6 : Int32)) / (6 : Int32) * (6 : Int32)) → (((zv (s_panelMember z x2_7 ((2 : Int32))) [(-11), (-12), (-13)]) = (r16 - r16 / (6 : Int32) * (6 : Int32)) → (jL_panels__245 z x2_7 x3_20k Q (fun x2_7 => lL_panels__7 z v1 Q K7 n7 x2_7) (1 : Int32))) ∧ (¬ (zv (s_panelMember z x2_7 ((2 : Int32))) [(-11), (-12), (-13)]) = (r16 - r16 / (6 : Int32) * (6 : Int32)) → (jL_panels__245 z x2_7 x3_20k Q (fun x2_7 => lL_panels__7 z v1 Q K7 n7 x2_7) (0 : Int32))))) ∧ (¬ (zv (s_panelMember z x2_7 ((1 : Int32))) [(-11), (-12), (-13)]) = ((r16 / (6 : Int32)) - (r16 / (6 : Int32)) / (6 : Int32) * (6 : Int32)) → (jL_panels__245 z x2_7 x3_20k Q (fun x2_7 => lL_panels__7 z v1 Q K7 n7 x2_7) (0 : Int32))))) ∧ (¬ (zv (s_panelMember z x2_7 ((0 : Int32))) [(-11), (-12), (-13)]) = (r16 / (36 : Int32)) → (jL_panels__245 z x2_7 x3_20k Q (fun x2_7 => lL_panels__7 z v1 Q K7 n7 x2_7) (0 : Int32))))) ∧ (¬ 0 ≤ r16 → (((zv (s_panelMember z x2_7 ((0 : Int32))) [(-11), (-12), (-13)]) = (-13 : Int32) → ((x3_20k = 0 → (jL_panels__245 z x2_7 x3_20k Q (fun x2_7 => lL_panels__7 z v1 Q K7 n7 x2_7) (1 : Int32))) ∧ (¬ x3_20k = 0 → (jL_panels__245 z x2_7 x3_20k Q (fun x2_7 => lL_panels__7 z v1 Q K7 n7 x2_7) (0 : Int32))))) ∧ (¬ (zv (s_panelMember z x2_7 ((0 : Int32))) [(-11), (-12), (-13)]) = (-13 : Int32) → (jL_panels__245 z x2_7 x3_20k Q (fun x2_7 => lL_panels__7 z v1 Q K7 n7 x2_7) (0 : Int32))))))) 65 (0 : Int32) (0 : Int32)))
def wL_panels_  (z : zG) (Q : Int32 → Prop) : Prop :=
  ∀ v1 : Int32, v1 = (nI (z.1 1)) → (lL_panels__7 z v1 Q (((zv (s_panelCount z ((nI (z.1 0)))) [(-11)]) = (-11 : Int32) → (((zv (s_panelCount z ((-1 : Int32))) [(-11)]) = (-11 : Int32) → (((zv (s_panelMember z ((nI (z.1 0))) ((3 : Int32))) [(-11), (-12), (-13)]) = (-11 : Int32) → (Q (1 : Int32))) ∧ (¬ (zv (s_panelMember z ((nI (z.1 0))) ((3 : Int32))) [(-11), (-12), (-13)]) = (-11 : Int32) → (Q (0 : Int32))))) ∧ (¬ (zv (s_panelCount z ((-1 : Int32))) [(-11)]) = (-11 : Int32) → (Q (0 : Int32))))) ∧ (¬ (zv (s_panelCount z ((nI (z.1 0)))) [(-11)]) = (-11 : Int32) → (Q (0 : Int32)))) 9 (0 : Int32))
theorem cs_L_panels_ : sw_cS yL_panels_ cL_panels_ 9 (some .boolean) 1 := ⟨q_660, q_1, q_661, by decide +kernel⟩
set_option maxRecDepth 20000 in
set_option maxHeartbeats 4000000 in
theorem kL_panels_ (l : Launch) (hst : l.stackTraces = false) (g : sG)  (z : zG) (Q : Int32 → Prop) (h : wL_panels_  z Q) : Met l yL_panels_ (sw_ws yL_panels_ cL_panels_ 9 (some .boolean)) { frames := 11, cells := 76171, slots := 457026, locals := 208 } (va_Pc [.ref (sw_ad g 0)] (zl_Pr g z)) (va_Qi (fun r z' => Q r ∧ z' = z) (zl_Po g) (sw_A g)) 76171 457026 (sw_A g) := by
  refine zl_met (by decide) (Nat.le_of_ble_eq_true rfl) ?_
  intro p e s m args below meth c ls hx hb hr hts hown hml hlocks hW hl
  have hown : s.vm.findClass RL = some m.cls := hown
  have hl : lv_has ls 9 [(0, .ref (sw_ad g 0))] := hl
  obtain ⟨R, hRe⟩ : ∃ R : Room, R = { frames := 11, cells := 76171, slots := 457026, locals := 208 } := ⟨_, rfl⟩
  rw [← hRe]
  have hRf : R.frames = 11 := by rw [hRe]
  have hRc : R.cells = 76171 := by rw [hRe]
  have hRs : R.slots = 457026 := by rw [hRe]
  have hRl : R.locals = 208 := by rw [hRe]
  clear hRe
  have gc0 : 0 + 76171 ≤ R.cells := by rw [hRc]; exact (Nat.le_of_ble_eq_true rfl)
  have gs0 : 0 + 457026 ≤ R.slots := by rw [hRs]; exact (Nat.le_of_ble_eq_true rfl)
  obtain ⟨Q0, hQ0⟩ : ∃ Q0 : State → Prop, Q0 = MQ below (va_Qi (fun r z' => Q r ∧ z' = z) (zl_Po g) (sw_A g)) args s 76171 457026 (sw_A g) := ⟨_, rfl⟩
  rw [← hQ0]
  generalize hHs : s.heap = H at hW ⊢
  generalize hLo : ([] : List Loc) = locs at hW ⊢
  unfold wL_panels_ at h
  refine lv_aload_n hx hb dL_panels__0 rfl (lv_at hl 0 rfl) ?_
  refine zl_ki (g := g) (rest := []) (zl_runV (g := g) (As := []) (rest := []) hx hb hml hown hts (zD_examinerCount l (zl_re g H.size) z) cv_X6_examinerCount q_491 rfl rfl ⟨by rw [hRf]; exact (Nat.le_of_ble_eq_true rfl), by rw [hRl]; exact (Nat.le_of_ble_eq_true rfl)⟩ hW (Or.inl (Nat.le_of_ble_eq_true rfl)) sl_0 rfl rfl hl.1 rfl (Nat.le_of_ble_eq_true rfl) dL_panels__1 ⟨(zc1 (D := 0) gc0 (Nat.le_of_ble_eq_true rfl)), (zc1 (D := 0) gs0 (Nat.le_of_ble_eq_true rfl))⟩) hW (fun r9 z9 H locs h9 hW => ?_)
  obtain ⟨rfl, e9⟩ := h9
  rw [e9] at hW
  refine lv_topi (fun v1 ev1 => ?_)
  replace h := h v1 ev1
  refine lv_istore_n (lv' := [(1, .int v1), (0, .ref (sw_ad g 0))]) hx hb dL_panels__4 rfl hl (Nat.le_of_ble_eq_true rfl) rfl (fun ls hl => ?_)
  refine lv_iconst (v := 0) hx hb dL_panels__5 (by decide) ?_
  refine lv_istore_n (lv' := [(2, .int (0 : Int32)), (1, .int v1), (0, .ref (sw_ad g 0))]) hx hb dL_panels__6 rfl hl (Nat.le_of_ble_eq_true rfl) rfl (fun ls hl => ?_)
  obtain ⟨CL7, hCL7⟩ : ∃ n : Nat, n = 0 + 0 + 76167 := ⟨_, rfl⟩
  obtain ⟨SL7, hSL7⟩ : ∃ n : Nat, n = 0 + 0 + 457002 := ⟨_, rfl⟩
  have hX7 : ∀   (H : Heap) (locs : List Loc) (ls : Array Slot) (cx7 sx7 : Nat), (((zv (s_panelCount z ((nI (z.1 0)))) [(-11)]) = (-11 : Int32) → (((zv (s_panelCount z ((-1 : Int32))) [(-11)]) = (-11 : Int32) → (((zv (s_panelMember z ((nI (z.1 0))) ((3 : Int32))) [(-11), (-12), (-13)]) = (-11 : Int32) → (Q (1 : Int32))) ∧ (¬ (zv (s_panelMember z ((nI (z.1 0))) ((3 : Int32))) [(-11), (-12), (-13)]) = (-11 : Int32) → (Q (0 : Int32))))) ∧ (¬ (zv (s_panelCount z ((-1 : Int32))) [(-11)]) = (-11 : Int32) → (Q (0 : Int32))))) ∧ (¬ (zv (s_panelCount z ((nI (z.1 0)))) [(-11)]) = (-11 : Int32) → (Q (0 : Int32)))) → cx7 ≤ CL7 → sx7 ≤ SL7 → zl_Wd g [] z s H locs → lv_has ls 9 [(0, .ref (sw_ad g 0))] → W p l e R s m args below meth c H locs cx7 sx7 Q0 (F0 m 300 ls []) := by
    intro   H locs ls cx7 sx7 h hcx7 hsx7 hW hl
    have g2 : cx7 + 4 ≤ R.cells := zc8 (x := 0) (D := 76167) (s := 76171) (s' := 4) hcx7 hCL7 gc0 (Nat.le_of_ble_eq_true rfl)
    have g3 : sx7 + 24 ≤ R.slots := zc8 (x := 0) (D := 457002) (s := 457026) (s' := 24) hsx7 hSL7 gs0 (Nat.le_of_ble_eq_true rfl)
    refine lv_aload_n hx hb dL_panels__300 rfl (lv_at hl 0 rfl) ?_
    refine lv_aload_n hx hb dL_panels__301 rfl (lv_at hl 0 rfl) ?_
    refine zl_ki (g := g) (rest := [.ref (sw_ad g 0)]) (zl_runV (g := g) (As := []) (rest := [.ref (sw_ad g 0)]) hx hb hml hown hts (zD_doorCount l (zl_re g H.size) z) cv_X6_doorCount q_487 rfl rfl ⟨by rw [hRf]; exact (Nat.le_of_ble_eq_true rfl), by rw [hRl]; exact (Nat.le_of_ble_eq_true rfl)⟩ hW (Or.inl (Nat.le_of_ble_eq_true rfl)) sl_0 rfl rfl hl.1 rfl (Nat.le_of_ble_eq_true rfl) dL_panels__302 ⟨(zc1 (D := 0) g2 (Nat.le_of_ble_eq_true rfl)), (zc1 (D := 0) g3 (Nat.le_of_ble_eq_true rfl))⟩) hW (fun r9 z9 H locs h9 hW => ?_)
    obtain ⟨rfl, e9⟩ := h9
    rw [e9] at hW
    refine zl_ki (g := g) (rest := []) (zl_runH (g := g) (As := [.ref (sw_ad g 0), .int (nI (z.1 0))]) (rest := []) hx hb hml hown hts (kL_panels l hst (zl_re g H.size) z ((nI (z.1 0)))) ch_L_panels q_679 rfl rfl ⟨by rw [hRf]; exact (Nat.le_of_ble_eq_true rfl), by rw [hRl]; exact (Nat.le_of_ble_eq_true rfl)⟩ hW rfl hl.1 rfl (Nat.le_of_ble_eq_true rfl) dL_panels__305 ⟨(zc1 (D := 1) g2 (Nat.le_of_ble_eq_true rfl)), (zc1 (D := 6) g3 (Nat.le_of_ble_eq_true rfl))⟩) hW (fun r9 z9 H locs h9 hW => ?_)
    obtain ⟨rfl, e9⟩ := h9
    rw [e9, s_panelCount_z] at hW
    refine lv_bipush (v := -11) hx hb dL_panels__308 (by decide) ?_
    refine lv_icmp_ne (tgt := 341) hx hb dL_panels__310 (by decide) (fun k4 => ?_) (fun k4 => ?_)
    · replace h := h.2 k4
      refine lv_iconst (v := 0) hx hb dL_panels__341 (by decide) ?_
      subst hQ0
      refine W.widen (k := 76171) (n := 457026) (Nat.le_trans (zc1 (D := 1) g2 (Nat.le_of_ble_eq_true rfl)) (Nat.le_of_eq hRc)) (Nat.le_trans (zc1 (D := 6) g3 (Nat.le_of_ble_eq_true rfl)) (Nat.le_of_eq hRs)) ?_
      exact zl_ri hx hb hr hlocks hW (by decide) ⟨h, rfl⟩ dL_panels__342
    · replace h := h.1 k4
      refine lv_aload_n hx hb dL_panels__313 rfl (lv_at hl 0 rfl) ?_
      refine lv_iconst (v := -1) hx hb dL_panels__314 (by decide) ?_
      refine zl_ki (g := g) (rest := []) (zl_runH (g := g) (As := [.ref (sw_ad g 0), .int (-1 : Int32)]) (rest := []) hx hb hml hown hts (kL_byFrames l hst (zl_re g H.size) z ((-1 : Int32))) ch_L_byFrames q_689 rfl rfl ⟨by rw [hRf]; exact (Nat.le_of_ble_eq_true rfl), by rw [hRl]; exact (Nat.le_of_ble_eq_true rfl)⟩ hW rfl hl.1 rfl (Nat.le_of_ble_eq_true rfl) dL_panels__315 ⟨(zc1 (D := 2) g2 (Nat.le_of_ble_eq_true rfl)), (zc1 (D := 12) g3 (Nat.le_of_ble_eq_true rfl))⟩) hW (fun r9 z9 H locs h9 hW => ?_)
      obtain ⟨rfl, e9⟩ := h9
      rw [e9, s_panelCount_z] at hW
      refine lv_bipush (v := -11) hx hb dL_panels__318 (by decide) ?_
      refine lv_icmp_ne (tgt := 341) hx hb dL_panels__320 (by decide) (fun k5 => ?_) (fun k5 => ?_)
      · replace h := h.2 k5
        refine lv_iconst (v := 0) hx hb dL_panels__341 (by decide) ?_
        subst hQ0
        refine W.widen (k := 76171) (n := 457026) (Nat.le_trans (zc1 (D := 2) g2 (Nat.le_of_ble_eq_true rfl)) (Nat.le_of_eq hRc)) (Nat.le_trans (zc1 (D := 12) g3 (Nat.le_of_ble_eq_true rfl)) (Nat.le_of_eq hRs)) ?_
        exact zl_ri hx hb hr hlocks hW (by decide) ⟨h, rfl⟩ dL_panels__342
      · replace h := h.1 k5
        refine lv_aload_n hx hb dL_panels__323 rfl (lv_at hl 0 rfl) ?_
        refine lv_aload_n hx hb dL_panels__324 rfl (lv_at hl 0 rfl) ?_
        refine zl_ki (g := g) (rest := [.ref (sw_ad g 0)]) (zl_runV (g := g) (As := []) (rest := [.ref (sw_ad g 0)]) hx hb hml hown hts (zD_doorCount l (zl_re g H.size) z) cv_X6_doorCount q_487 rfl rfl ⟨by rw [hRf]; exact (Nat.le_of_ble_eq_true rfl), by rw [hRl]; exact (Nat.le_of_ble_eq_true rfl)⟩ hW (Or.inl (Nat.le_of_ble_eq_true rfl)) sl_0 rfl rfl hl.1 rfl (Nat.le_of_ble_eq_true rfl) dL_panels__325 ⟨(zc1 (D := 2) g2 (Nat.le_of_ble_eq_true rfl)), (zc1 (D := 12) g3 (Nat.le_of_ble_eq_true rfl))⟩) hW (fun r9 z9 H locs h9 hW => ?_)
        obtain ⟨rfl, e9⟩ := h9
        rw [e9] at hW
        refine lv_iconst (v := 3) hx hb dL_panels__328 (by decide) ?_
        refine zl_ki (g := g) (rest := []) (zl_runH (g := g) (As := [.ref (sw_ad g 0), .int (nI (z.1 0)), .int (3 : Int32)]) (rest := []) hx hb hml hown hts (kL_member l hst (zl_re g H.size) z ((nI (z.1 0))) ((3 : Int32))) ch_L_member q_669 rfl rfl ⟨by rw [hRf]; exact (Nat.le_of_ble_eq_true rfl), by rw [hRl]; exact (Nat.le_of_ble_eq_true rfl)⟩ hW rfl hl.1 rfl (Nat.le_of_ble_eq_true rfl) dL_panels__329 ⟨(zc1 (D := 4) g2 (Nat.le_of_ble_eq_true rfl)), (zc1 (D := 24) g3 (Nat.le_of_ble_eq_true rfl))⟩) hW (fun r9 z9 H locs h9 hW => ?_)
        obtain ⟨rfl, e9⟩ := h9
        rw [e9, s_panelMember_z] at hW
        refine lv_bipush (v := -11) hx hb dL_panels__332 (by decide) ?_
        refine lv_icmp_ne (tgt := 341) hx hb dL_panels__334 (by decide) (fun k6 => ?_) (fun k6 => ?_)
        · replace h := h.2 k6
          refine lv_iconst (v := 0) hx hb dL_panels__341 (by decide) ?_
          subst hQ0
          refine W.widen (k := 76171) (n := 457026) (Nat.le_trans (zc1 (D := 4) g2 (Nat.le_of_ble_eq_true rfl)) (Nat.le_of_eq hRc)) (Nat.le_trans (zc1 (D := 24) g3 (Nat.le_of_ble_eq_true rfl)) (Nat.le_of_eq hRs)) ?_
          exact zl_ri hx hb hr hlocks hW (by decide) ⟨h, rfl⟩ dL_panels__342
        · replace h := h.1 k6
          refine lv_iconst (v := 1) hx hb dL_panels__337 (by decide) ?_
          refine lv_goto (tgt := 342) hx hb dL_panels__338 (by decide) ?_
          subst hQ0
          refine W.widen (k := 76171) (n := 457026) (Nat.le_trans (zc1 (D := 4) g2 (Nat.le_of_ble_eq_true rfl)) (Nat.le_of_eq hRc)) (Nat.le_trans (zc1 (D := 24) g3 (Nat.le_of_ble_eq_true rfl)) (Nat.le_of_eq hRs)) ?_
          exact zl_ri hx hb hr hlocks hW (by decide) ⟨h, rfl⟩ dL_panels__342
  have key7 : ∀ (n7 : Nat) (x2_7 : Int32)  (H : Heap) (locs : List Loc) (ls : Array Slot) (cn7 sn7 : Nat), lL_panels__7 z v1 Q (((zv (s_panelCount z ((nI (z.1 0)))) [(-11)]) = (-11 : Int32) → (((zv (s_panelCount z ((-1 : Int32))) [(-11)]) = (-11 : Int32) → (((zv (s_panelMember z ((nI (z.1 0))) ((3 : Int32))) [(-11), (-12), (-13)]) = (-11 : Int32) → (Q (1 : Int32))) ∧ (¬ (zv (s_panelMember z ((nI (z.1 0))) ((3 : Int32))) [(-11), (-12), (-13)]) = (-11 : Int32) → (Q (0 : Int32))))) ∧ (¬ (zv (s_panelCount z ((-1 : Int32))) [(-11)]) = (-11 : Int32) → (Q (0 : Int32))))) ∧ (¬ (zv (s_panelCount z ((nI (z.1 0)))) [(-11)]) = (-11 : Int32) → (Q (0 : Int32)))) n7 x2_7 → cn7 + n7 * 8463 ≤ CL7 → sn7 + n7 * 50778 ≤ SL7 → zl_Wd g [] z s H locs → lv_has ls 9 [(0, .ref (sw_ad g 0)), (1, .int v1), (2, .int x2_7)] → W p l e R s m args below meth c H locs cn7 sn7 Q0 (F0 m 7 ls []) := by
    intro n7
    induction n7 with
    | zero =>
      intro x2_7  H locs ls cn7 sn7 h
      exact False.elim h
    | succ n7 ih7 =>
      intro x2_7  H locs ls cn7 sn7 h hcn7 hsn7 hW hl
      rw [lL_panels__7.eq_2] at h
      obtain ⟨Tcn7, hTcn7⟩ : ∃ n : Nat, n = cn7 + 8463 := ⟨_, rfl⟩
      obtain ⟨Tsn7, hTsn7⟩ : ∃ n : Nat, n = sn7 + 50778 := ⟨_, rfl⟩
      have g7 : cn7 + 8463 ≤ Tcn7 := Nat.le_of_eq hTcn7.symm
      have g8 : sn7 + 50778 ≤ Tsn7 := Nat.le_of_eq hTsn7.symm
      have g9 : cn7 + 8467 ≤ R.cells := zc9 (x := 0) (D := 76167) (s := 76171) (t := 8467) hcn7 hCL7 gc0 (Nat.le_of_ble_eq_true rfl)
      have g10 : sn7 + 50802 ≤ R.slots := zc9 (x := 0) (D := 457002) (s := 457026) (t := 50802) hsn7 hSL7 gs0 (Nat.le_of_ble_eq_true rfl)
      refine lv_iload_n hx hb dL_panels__7 rfl (lv_at hl 2 rfl) ?_
      refine lv_aload_n hx hb dL_panels__8 rfl (lv_at hl 0 rfl) ?_
      refine zl_ki (g := g) (rest := [.int x2_7]) (zl_runV (g := g) (As := []) (rest := [.int x2_7]) hx hb hml hown hts (zD_doorCount l (zl_re g H.size) z) cv_X6_doorCount q_487 rfl rfl ⟨by rw [hRf]; exact (Nat.le_of_ble_eq_true rfl), by rw [hRl]; exact (Nat.le_of_ble_eq_true rfl)⟩ hW (Or.inl (Nat.le_of_ble_eq_true rfl)) sl_0 rfl rfl hl.1 rfl (Nat.le_of_ble_eq_true rfl) dL_panels__9 ⟨(zc1 (D := 0) g9 (Nat.le_of_ble_eq_true rfl)), (zc1 (D := 0) g10 (Nat.le_of_ble_eq_true rfl))⟩) hW (fun r9 z9 H locs h9 hW => ?_)
      obtain ⟨rfl, e9⟩ := h9
      rw [e9] at hW
      refine lv_icmp_ge (tgt := 300) hx hb dL_panels__12 (by decide) (fun k11 => ?_) (fun k11 => ?_)
      · replace h := h.1 k11
        exact hX7  _ _ _ _ _ h (zc11 (zc1 (D := 0) g7 (Nat.le_of_ble_eq_true rfl)) hTcn7 hcn7) (zc11 (zc1 (D := 0) g8 (Nat.le_of_ble_eq_true rfl)) hTsn7 hsn7) hW (lv_sub hl [0] rfl)
      · replace h := h.2 k11
        refine lv_iconst (v := 0) hx hb dL_panels__15 (by decide) ?_
        refine lv_istore_n (lv' := [(3, .int (0 : Int32)), (0, .ref (sw_ad g 0)), (1, .int v1), (2, .int x2_7)]) hx hb dL_panels__16 rfl hl (Nat.le_of_ble_eq_true rfl) rfl (fun ls hl => ?_)
        refine lv_iconst (v := 0) hx hb dL_panels__17 (by decide) ?_
        refine lv_istore (lv' := [(4, .int (0 : Int32)), (3, .int (0 : Int32)), (0, .ref (sw_ad g 0)), (1, .int v1), (2, .int x2_7)]) hx hb dL_panels__18 hl (Nat.le_of_ble_eq_true rfl) rfl (fun ls hl => ?_)
        obtain ⟨CL20, hCL20⟩ : ∃ n : Nat, n = cn7 + 0 + 2275 := ⟨_, rfl⟩
        obtain ⟨SL20, hSL20⟩ : ∃ n : Nat, n = sn7 + 0 + 13650 := ⟨_, rfl⟩
        have hX20 : ∀ (x3_20k : Int32)  (H : Heap) (locs : List Loc) (ls : Array Slot) (cx20 sx20 : Nat), (wL_firstPanel x2_7  z (fun r16 => (0 ≤ r16 → (((zv (s_panelMember z x2_7 ((0 : Int32))) [(-11), (-12), (-13)]) = (r16 / (36 : Int32)) → (((zv (s_panelMember z x2_7 ((1 : Int32))) [(-11), (-12), (-13)]) = ((r16 / (6 : Int32)) - (r16 / (6 : Int32)) / (6 : Int32) * (6 : Int32)) → (((zv (s_panelMember z x2_7 ((2 : Int32))) [(-11), (-12), (-13)]) = (r16 - r16 / (6 : Int32) * (6 : Int32)) → (jL_panels__245 z x2_7 x3_20k Q (fun x2_7 => lL_panels__7 z v1 Q (((zv (s_panelCount z ((nI (z.1 0)))) [(-11)]) = (-11 : Int32) → (((zv (s_panelCount z ((-1 : Int32))) [(-11)]) = (-11 : Int32) → (((zv (s_panelMember z ((nI (z.1 0))) ((3 : Int32))) [(-11), (-12), (-13)]) = (-11 : Int32) → (Q (1 : Int32))) ∧ (¬ (zv (s_panelMember z ((nI (z.1 0))) ((3 : Int32))) [(-11), (-12), (-13)]) = (-11 : Int32) → (Q (0 : Int32))))) ∧ (¬ (zv (s_panelCount z ((-1 : Int32))) [(-11)]) = (-11 : Int32) → (Q (0 : Int32))))) ∧ (¬ (zv (s_panelCount z ((nI (z.1 0)))) [(-11)]) = (-11 : Int32) → (Q (0 : Int32)))) n7 x2_7) (1 : Int32))) ∧ (¬ (zv (s_panelMember z x2_7 ((2 : Int32))) [(-11), (-12), (-13)]) = (r16 - r16 / (6 : Int32) * (6 : Int32)) → (jL_panels__245 z x2_7 x3_20k Q (fun x2_7 => lL_panels__7 z v1 Q (((zv (s_panelCount z ((nI (z.1 0)))) [(-11)]) = (-11 : Int32) → (((zv (s_panelCount z ((-1 : Int32))) [(-11)]) = (-11 : Int32) → (((zv (s_panelMember z ((nI (z.1 0))) ((3 : Int32))) [(-11), (-12), (-13)]) = (-11 : Int32) → (Q (1 : Int32))) ∧ (¬ (zv (s_panelMember z ((nI (z.1 0))) ((3 : Int32))) [(-11), (-12), (-13)]) = (-11 : Int32) → (Q (0 : Int32))))) ∧ (¬ (zv (s_panelCount z ((-1 : Int32))) [(-11)]) = (-11 : Int32) → (Q (0 : Int32))))) ∧ (¬ (zv (s_panelCount z ((nI (z.1 0)))) [(-11)]) = (-11 : Int32) → (Q (0 : Int32)))) n7 x2_7) (0 : Int32))))) ∧ (¬ (zv (s_panelMember z x2_7 ((1 : Int32))) [(-11), (-12), (-13)]) = ((r16 / (6 : Int32)) - (r16 / (6 : Int32)) / (6 : Int32) * (6 : Int32)) → (jL_panels__245 z x2_7 x3_20k Q (fun x2_7 => lL_panels__7 z v1 Q (((zv (s_panelCount z ((nI (z.1 0)))) [(-11)]) = (-11 : Int32) → (((zv (s_panelCount z ((-1 : Int32))) [(-11)]) = (-11 : Int32) → (((zv (s_panelMember z ((nI (z.1 0))) ((3 : Int32))) [(-11), (-12), (-13)]) = (-11 : Int32) → (Q (1 : Int32))) ∧ (¬ (zv (s_panelMember z ((nI (z.1 0))) ((3 : Int32))) [(-11), (-12), (-13)]) = (-11 : Int32) → (Q (0 : Int32))))) ∧ (¬ (zv (s_panelCount z ((-1 : Int32))) [(-11)]) = (-11 : Int32) → (Q (0 : Int32))))) ∧ (¬ (zv (s_panelCount z ((nI (z.1 0)))) [(-11)]) = (-11 : Int32) → (Q (0 : Int32)))) n7 x2_7) (0 : Int32))))) ∧ (¬ (zv (s_panelMember z x2_7 ((0 : Int32))) [(-11), (-12), (-13)]) = (r16 / (36 : Int32)) → (jL_panels__245 z x2_7 x3_20k Q (fun x2_7 => lL_panels__7 z v1 Q (((zv (s_panelCount z ((nI (z.1 0)))) [(-11)]) = (-11 : Int32) → (((zv (s_panelCount z ((-1 : Int32))) [(-11)]) = (-11 : Int32) → (((zv (s_panelMember z ((nI (z.1 0))) ((3 : Int32))) [(-11), (-12), (-13)]) = (-11 : Int32) → (Q (1 : Int32))) ∧ (¬ (zv (s_panelMember z ((nI (z.1 0))) ((3 : Int32))) [(-11), (-12), (-13)]) = (-11 : Int32) → (Q (0 : Int32))))) ∧ (¬ (zv (s_panelCount z ((-1 : Int32))) [(-11)]) = (-11 : Int32) → (Q (0 : Int32))))) ∧ (¬ (zv (s_panelCount z ((nI (z.1 0)))) [(-11)]) = (-11 : Int32) → (Q (0 : Int32)))) n7 x2_7) (0 : Int32))))) ∧ (¬ 0 ≤ r16 → (((zv (s_panelMember z x2_7 ((0 : Int32))) [(-11), (-12), (-13)]) = (-13 : Int32) → ((x3_20k = 0 → (jL_panels__245 z x2_7 x3_20k Q (fun x2_7 => lL_panels__7 z v1 Q (((zv (s_panelCount z ((nI (z.1 0)))) [(-11)]) = (-11 : Int32) → (((zv (s_panelCount z ((-1 : Int32))) [(-11)]) = (-11 : Int32) → (((zv (s_panelMember z ((nI (z.1 0))) ((3 : Int32))) [(-11), (-12), (-13)]) = (-11 : Int32) → (Q (1 : Int32))) ∧ (¬ (zv (s_panelMember z ((nI (z.1 0))) ((3 : Int32))) [(-11), (-12), (-13)]) = (-11 : Int32) → (Q (0 : Int32))))) ∧ (¬ (zv (s_panelCount z ((-1 : Int32))) [(-11)]) = (-11 : Int32) → (Q (0 : Int32))))) ∧ (¬ (zv (s_panelCount z ((nI (z.1 0)))) [(-11)]) = (-11 : Int32) → (Q (0 : Int32)))) n7 x2_7) (1 : Int32))) ∧ (¬ x3_20k = 0 → (jL_panels__245 z x2_7 x3_20k Q (fun x2_7 => lL_panels__7 z v1 Q (((zv (s_panelCount z ((nI (z.1 0)))) [(-11)]) = (-11 : Int32) → (((zv (s_panelCount z ((-1 : Int32))) [(-11)]) = (-11 : Int32) → (((zv (s_panelMember z ((nI (z.1 0))) ((3 : Int32))) [(-11), (-12), (-13)]) = (-11 : Int32) → (Q (1 : Int32))) ∧ (¬ (zv (s_panelMember z ((nI (z.1 0))) ((3 : Int32))) [(-11), (-12), (-13)]) = (-11 : Int32) → (Q (0 : Int32))))) ∧ (¬ (zv (s_panelCount z ((-1 : Int32))) [(-11)]) = (-11 : Int32) → (Q (0 : Int32))))) ∧ (¬ (zv (s_panelCount z ((nI (z.1 0)))) [(-11)]) = (-11 : Int32) → (Q (0 : Int32)))) n7 x2_7) (0 : Int32))))) ∧ (¬ (zv (s_panelMember z x2_7 ((0 : Int32))) [(-11), (-12), (-13)]) = (-13 : Int32) → (jL_panels__245 z x2_7 x3_20k Q (fun x2_7 => lL_panels__7 z v1 Q (((zv (s_panelCount z ((nI (z.1 0)))) [(-11)]) = (-11 : Int32) → (((zv (s_panelCount z ((-1 : Int32))) [(-11)]) = (-11 : Int32) → (((zv (s_panelMember z ((nI (z.1 0))) ((3 : Int32))) [(-11), (-12), (-13)]) = (-11 : Int32) → (Q (1 : Int32))) ∧ (¬ (zv (s_panelMember z ((nI (z.1 0))) ((3 : Int32))) [(-11), (-12), (-13)]) = (-11 : Int32) → (Q (0 : Int32))))) ∧ (¬ (zv (s_panelCount z ((-1 : Int32))) [(-11)]) = (-11 : Int32) → (Q (0 : Int32))))) ∧ (¬ (zv (s_panelCount z ((nI (z.1 0)))) [(-11)]) = (-11 : Int32) → (Q (0 : Int32)))) n7 x2_7) (0 : Int32))))))) → cx20 ≤ CL20 → sx20 ≤ SL20 → zl_Wd g [] z s H locs → lv_has ls 9 [(0, .ref (sw_ad g 0)), (1, .int v1), (2, .int x2_7), (3, .int x3_20k)] → W p l e R s m args below meth c H locs cx20 sx20 Q0 (F0 m 160 ls []) := by
          intro x3_20k  H locs ls cx20 sx20 h hcx20 hsx20 hW hl
          have g12 : cx20 + 6192 ≤ R.cells := zc8 (x := cn7) (D := 2275) (s := 8467) (s' := 6192) hcx20 hCL20 g9 (Nat.le_of_ble_eq_true rfl)
          have g13 : cx20 + 6188 ≤ Tcn7 := zc8 (x := cn7) (D := 2275) (s := 8463) (s' := 6188) hcx20 hCL20 g7 (Nat.le_of_ble_eq_true rfl)
          have g14 : sx20 + 37152 ≤ R.slots := zc8 (x := sn7) (D := 13650) (s := 50802) (s' := 37152) hsx20 hSL20 g10 (Nat.le_of_ble_eq_true rfl)
          have g15 : sx20 + 37128 ≤ Tsn7 := zc8 (x := sn7) (D := 13650) (s := 50778) (s' := 37128) hsx20 hSL20 g8 (Nat.le_of_ble_eq_true rfl)
          refine lv_aload_n hx hb dL_panels__160 rfl (lv_at hl 0 rfl) ?_
          refine lv_iload_n hx hb dL_panels__161 rfl (lv_at hl 2 rfl) ?_
          refine zl_ki (g := g) (rest := []) (zl_runS (g := g) (As := [.ref (sw_ad g 0), .int x2_7]) (rest := []) hx hb hml hown hts (kL_firstPanel l hst (zl_re g H.size) x2_7 z _ h) cs_L_firstPanel q_666 rfl rfl ⟨by rw [hRf]; exact (Nat.le_of_ble_eq_true rfl), by rw [hRl]; exact (Nat.le_of_ble_eq_true rfl)⟩ hW rfl hl.1 rfl (Nat.le_of_ble_eq_true rfl) dL_panels__162 ⟨(zc1 (D := 6174) g12 (Nat.le_of_ble_eq_true rfl)), (zc1 (D := 37044) g14 (Nat.le_of_ble_eq_true rfl))⟩) hW (fun r16 z9 H locs h hW => ?_)
          obtain ⟨h, e9⟩ := h
          rw [e9] at hW
          refine lv_istore (lv' := [(4, .int r16), (0, .ref (sw_ad g 0)), (1, .int v1), (2, .int x2_7), (3, .int x3_20k)]) hx hb dL_panels__165 hl (Nat.le_of_ble_eq_true rfl) rfl (fun ls hl => ?_)
          refine lv_iload hx hb dL_panels__167 (lv_at hl 0 rfl) ?_
          obtain ⟨CJ245, hCJ245⟩ : ∃ n : Nat, n = cx20 + 6174 + 8 := ⟨_, rfl⟩
          obtain ⟨SJ245, hSJ245⟩ : ∃ n : Nat, n = sx20 + 37044 + 48 := ⟨_, rfl⟩
          have hJ245 : ∀ (t0_245 : Int32) (H : Heap) (locs : List Loc) (ls : Array Slot) (cj245 sj245 : Nat), jL_panels__245 z x2_7 x3_20k Q (fun x2_7 => lL_panels__7 z v1 Q (((zv (s_panelCount z ((nI (z.1 0)))) [(-11)]) = (-11 : Int32) → (((zv (s_panelCount z ((-1 : Int32))) [(-11)]) = (-11 : Int32) → (((zv (s_panelMember z ((nI (z.1 0))) ((3 : Int32))) [(-11), (-12), (-13)]) = (-11 : Int32) → (Q (1 : Int32))) ∧ (¬ (zv (s_panelMember z ((nI (z.1 0))) ((3 : Int32))) [(-11), (-12), (-13)]) = (-11 : Int32) → (Q (0 : Int32))))) ∧ (¬ (zv (s_panelCount z ((-1 : Int32))) [(-11)]) = (-11 : Int32) → (Q (0 : Int32))))) ∧ (¬ (zv (s_panelCount z ((nI (z.1 0)))) [(-11)]) = (-11 : Int32) → (Q (0 : Int32)))) n7 x2_7) t0_245 → cj245 ≤ CJ245 → sj245 ≤ SJ245 → zl_Wd g [] z s H locs → lv_has ls 9 [(0, .ref (sw_ad g 0)), (1, .int v1), (2, .int x2_7), (3, .int x3_20k)] → W p l e R s m args below meth c H locs cj245 sj245 Q0 (F0 m 245 ls [.int t0_245]) := by
            intro t0_245 H locs ls cj245 sj245 h hcj245 hsj245 hW hl
            unfold jL_panels__245 at h
            have g17 : cj245 + 10 ≤ R.cells := zc8 (x := cx20) (D := 6182) (s := 6192) (s' := 10) hcj245 hCJ245 g12 (Nat.le_of_ble_eq_true rfl)
            have g18 : cj245 + 6 ≤ Tcn7 := zc8 (x := cx20) (D := 6182) (s := 6188) (s' := 6) hcj245 hCJ245 g13 (Nat.le_of_ble_eq_true rfl)
            have g19 : sj245 + 60 ≤ R.slots := zc8 (x := sx20) (D := 37092) (s := 37152) (s' := 60) hsj245 hSJ245 g14 (Nat.le_of_ble_eq_true rfl)
            have g20 : sj245 + 36 ≤ Tsn7 := zc8 (x := sx20) (D := 37092) (s := 37128) (s' := 36) hsj245 hSJ245 g15 (Nat.le_of_ble_eq_true rfl)
            refine lv_istore (lv' := [(5, .int t0_245), (0, .ref (sw_ad g 0)), (1, .int v1), (2, .int x2_7), (3, .int x3_20k)]) hx hb dL_panels__245 hl (Nat.le_of_ble_eq_true rfl) rfl (fun ls hl => ?_)
            refine lv_iload hx hb dL_panels__247 (lv_at hl 0 rfl) ?_
            refine lv_if_eq (tgt := 292) hx hb dL_panels__249 (by decide) (fun k21 => ?_) (fun k21 => ?_)
            · replace h := h.1 k21
              refine lv_iconst (v := 0) hx hb dL_panels__292 (by decide) ?_
              subst hQ0
              refine W.widen (k := 76171) (n := 457026) (Nat.le_trans (zc1 (D := 0) g17 (Nat.le_of_ble_eq_true rfl)) (Nat.le_of_eq hRc)) (Nat.le_trans (zc1 (D := 0) g19 (Nat.le_of_ble_eq_true rfl)) (Nat.le_of_eq hRs)) ?_
              exact zl_ri hx hb hr hlocks hW (by decide) ⟨h, rfl⟩ dL_panels__293
            · replace h := h.2 k21
              refine lv_aload_n hx hb dL_panels__252 rfl (lv_at hl 1 rfl) ?_
              refine lv_iload_n hx hb dL_panels__253 rfl (lv_at hl 3 rfl) ?_
              refine zl_ki (g := g) (rest := []) (zl_runH (g := g) (As := [.ref (sw_ad g 0), .int x2_7]) (rest := []) hx hb hml hown hts (kL_panels l hst (zl_re g H.size) z x2_7) ch_L_panels q_679 rfl rfl ⟨by rw [hRf]; exact (Nat.le_of_ble_eq_true rfl), by rw [hRl]; exact (Nat.le_of_ble_eq_true rfl)⟩ hW rfl hl.1 rfl (Nat.le_of_ble_eq_true rfl) dL_panels__254 ⟨(zc1 (D := 1) g17 (Nat.le_of_ble_eq_true rfl)), (zc1 (D := 6) g19 (Nat.le_of_ble_eq_true rfl))⟩) hW (fun r9 z9 H locs h9 hW => ?_)
              obtain ⟨rfl, e9⟩ := h9
              rw [e9, s_panelCount_z] at hW
              refine lv_iload_n hx hb dL_panels__257 rfl (lv_at hl 4 rfl) ?_
              refine lv_icmp_ne (tgt := 292) hx hb dL_panels__258 (by decide) (fun k22 => ?_) (fun k22 => ?_)
              · replace h := h.2 k22
                refine lv_iconst (v := 0) hx hb dL_panels__292 (by decide) ?_
                subst hQ0
                refine W.widen (k := 76171) (n := 457026) (Nat.le_trans (zc1 (D := 1) g17 (Nat.le_of_ble_eq_true rfl)) (Nat.le_of_eq hRc)) (Nat.le_trans (zc1 (D := 6) g19 (Nat.le_of_ble_eq_true rfl)) (Nat.le_of_eq hRs)) ?_
                exact zl_ri hx hb hr hlocks hW (by decide) ⟨h, rfl⟩ dL_panels__293
              · replace h := h.1 k22
                refine lv_aload_n hx hb dL_panels__261 rfl (lv_at hl 1 rfl) ?_
                refine lv_iload_n hx hb dL_panels__262 rfl (lv_at hl 3 rfl) ?_
                refine zl_ki (g := g) (rest := []) (zl_runH (g := g) (As := [.ref (sw_ad g 0), .int x2_7]) (rest := []) hx hb hml hown hts (kL_byFrames l hst (zl_re g H.size) z x2_7) ch_L_byFrames q_689 rfl rfl ⟨by rw [hRf]; exact (Nat.le_of_ble_eq_true rfl), by rw [hRl]; exact (Nat.le_of_ble_eq_true rfl)⟩ hW rfl hl.1 rfl (Nat.le_of_ble_eq_true rfl) dL_panels__263 ⟨(zc1 (D := 2) g17 (Nat.le_of_ble_eq_true rfl)), (zc1 (D := 12) g19 (Nat.le_of_ble_eq_true rfl))⟩) hW (fun r9 z9 H locs h9 hW => ?_)
                obtain ⟨rfl, e9⟩ := h9
                rw [e9, s_panelCount_z] at hW
                refine lv_iload_n hx hb dL_panels__266 rfl (lv_at hl 4 rfl) ?_
                refine lv_icmp_ne (tgt := 292) hx hb dL_panels__267 (by decide) (fun k23 => ?_) (fun k23 => ?_)
                · replace h := h.2 k23
                  refine lv_iconst (v := 0) hx hb dL_panels__292 (by decide) ?_
                  subst hQ0
                  refine W.widen (k := 76171) (n := 457026) (Nat.le_trans (zc1 (D := 2) g17 (Nat.le_of_ble_eq_true rfl)) (Nat.le_of_eq hRc)) (Nat.le_trans (zc1 (D := 12) g19 (Nat.le_of_ble_eq_true rfl)) (Nat.le_of_eq hRs)) ?_
                  exact zl_ri hx hb hr hlocks hW (by decide) ⟨h, rfl⟩ dL_panels__293
                · replace h := h.1 k23
                  refine lv_aload_n hx hb dL_panels__270 rfl (lv_at hl 1 rfl) ?_
                  refine lv_iload_n hx hb dL_panels__271 rfl (lv_at hl 3 rfl) ?_
                  refine lv_iconst (v := 3) hx hb dL_panels__272 (by decide) ?_
                  refine zl_ki (g := g) (rest := []) (zl_runH (g := g) (As := [.ref (sw_ad g 0), .int x2_7, .int (3 : Int32)]) (rest := []) hx hb hml hown hts (kL_member l hst (zl_re g H.size) z x2_7 ((3 : Int32))) ch_L_member q_669 rfl rfl ⟨by rw [hRf]; exact (Nat.le_of_ble_eq_true rfl), by rw [hRl]; exact (Nat.le_of_ble_eq_true rfl)⟩ hW rfl hl.1 rfl (Nat.le_of_ble_eq_true rfl) dL_panels__273 ⟨(zc1 (D := 4) g17 (Nat.le_of_ble_eq_true rfl)), (zc1 (D := 24) g19 (Nat.le_of_ble_eq_true rfl))⟩) hW (fun r9 z9 H locs h9 hW => ?_)
                  obtain ⟨rfl, e9⟩ := h9
                  rw [e9, s_panelMember_z] at hW
                  refine lv_bipush (v := -12) hx hb dL_panels__276 (by decide) ?_
                  refine lv_icmp_ne (tgt := 292) hx hb dL_panels__278 (by decide) (fun k24 => ?_) (fun k24 => ?_)
                  · replace h := h.2 k24
                    refine lv_iconst (v := 0) hx hb dL_panels__292 (by decide) ?_
                    subst hQ0
                    refine W.widen (k := 76171) (n := 457026) (Nat.le_trans (zc1 (D := 4) g17 (Nat.le_of_ble_eq_true rfl)) (Nat.le_of_eq hRc)) (Nat.le_trans (zc1 (D := 24) g19 (Nat.le_of_ble_eq_true rfl)) (Nat.le_of_eq hRs)) ?_
                    exact zl_ri hx hb hr hlocks hW (by decide) ⟨h, rfl⟩ dL_panels__293
                  · replace h := h.1 k24
                    refine lv_aload_n hx hb dL_panels__281 rfl (lv_at hl 1 rfl) ?_
                    refine lv_iload_n hx hb dL_panels__282 rfl (lv_at hl 3 rfl) ?_
                    refine lv_iconst (v := -1) hx hb dL_panels__283 (by decide) ?_
                    refine zl_ki (g := g) (rest := []) (zl_runH (g := g) (As := [.ref (sw_ad g 0), .int x2_7, .int (-1 : Int32)]) (rest := []) hx hb hml hown hts (kL_member l hst (zl_re g H.size) z x2_7 ((-1 : Int32))) ch_L_member q_669 rfl rfl ⟨by rw [hRf]; exact (Nat.le_of_ble_eq_true rfl), by rw [hRl]; exact (Nat.le_of_ble_eq_true rfl)⟩ hW rfl hl.1 rfl (Nat.le_of_ble_eq_true rfl) dL_panels__284 ⟨(zc1 (D := 6) g17 (Nat.le_of_ble_eq_true rfl)), (zc1 (D := 36) g19 (Nat.le_of_ble_eq_true rfl))⟩) hW (fun r9 z9 H locs h9 hW => ?_)
                    obtain ⟨rfl, e9⟩ := h9
                    rw [e9, s_panelMember_z] at hW
                    refine lv_bipush (v := -12) hx hb dL_panels__287 (by decide) ?_
                    refine lv_icmp_eq (tgt := 294) hx hb dL_panels__289 (by decide) (fun k25 => ?_) (fun k25 => ?_)
                    · replace h := h.1 k25
                      obtain ⟨v26, ev26⟩ : ∃ z : Int32, z = x2_7 + (1 : Int32) := ⟨_, rfl⟩
                      replace h := h v26 ev26
                      refine lv_iinc (v := v26) (lv' := [(2, .int v26), (5, .int t0_245), (0, .ref (sw_ad g 0)), (1, .int v1), (3, .int x3_20k)]) hx hb dL_panels__294 hl (k := 3) rfl (by rw [ev26]; rfl) (Nat.le_of_ble_eq_true rfl) rfl (fun ls hl => ?_)
                      refine lv_goto (tgt := 7) hx hb dL_panels__297 (by decide) ?_
                      exact ih7 v26 _ _ _ _ _ h (zc10 (zc1 (D := 6) g18 (Nat.le_of_ble_eq_true rfl)) hTcn7 hcn7) (zc10 (zc1 (D := 36) g20 (Nat.le_of_ble_eq_true rfl)) hTsn7 hsn7) hW (lv_sub hl [2, 3, 0] rfl)
                    · replace h := h.2 k25
                      refine lv_iconst (v := 0) hx hb dL_panels__292 (by decide) ?_
                      subst hQ0
                      refine W.widen (k := 76171) (n := 457026) (Nat.le_trans (zc1 (D := 6) g17 (Nat.le_of_ble_eq_true rfl)) (Nat.le_of_eq hRc)) (Nat.le_trans (zc1 (D := 36) g19 (Nat.le_of_ble_eq_true rfl)) (Nat.le_of_eq hRs)) ?_
                      exact zl_ri hx hb hr hlocks hW (by decide) ⟨h, rfl⟩ dL_panels__293
          have g27 : cx20 + 6182 ≤ CJ245 := Nat.le_of_eq hCJ245.symm
          have g28 : sx20 + 37092 ≤ SJ245 := Nat.le_of_eq hSJ245.symm
          refine lv_if_ge (tgt := 195) hx hb dL_panels__169 (by decide) (fun k29 => ?_) (fun k29 => ?_)
          · replace h := h.1 k29
            refine lv_aload_n hx hb dL_panels__195 rfl (lv_at hl 1 rfl) ?_
            refine lv_iload_n hx hb dL_panels__196 rfl (lv_at hl 3 rfl) ?_
            refine lv_iconst (v := 0) hx hb dL_panels__197 (by decide) ?_
            refine zl_ki (g := g) (rest := []) (zl_runH (g := g) (As := [.ref (sw_ad g 0), .int x2_7, .int (0 : Int32)]) (rest := []) hx hb hml hown hts (kL_member l hst (zl_re g H.size) z x2_7 ((0 : Int32))) ch_L_member q_669 rfl rfl ⟨by rw [hRf]; exact (Nat.le_of_ble_eq_true rfl), by rw [hRl]; exact (Nat.le_of_ble_eq_true rfl)⟩ hW rfl hl.1 rfl (Nat.le_of_ble_eq_true rfl) dL_panels__198 ⟨(zc1 (D := 6176) g12 (Nat.le_of_ble_eq_true rfl)), (zc1 (D := 37056) g14 (Nat.le_of_ble_eq_true rfl))⟩) hW (fun r9 z9 H locs h9 hW => ?_)
            obtain ⟨rfl, e9⟩ := h9
            rw [e9, s_panelMember_z] at hW
            refine lv_iload hx hb dL_panels__201 (lv_at hl 0 rfl) ?_
            refine lv_bipush (v := 36) hx hb dL_panels__203 (by decide) ?_
            refine lv_idiv hx hb dL_panels__205 (by decide) ?_
            refine lv_icmp_ne (tgt := 244) hx hb dL_panels__206 (by decide) (fun k30 => ?_) (fun k30 => ?_)
            · replace h := h.2 k30
              refine lv_iconst (v := 0) hx hb dL_panels__244 (by decide) ?_
              exact hJ245 (0 : Int32) _ _ _ _ _ h (zc1 (D := 6176) g27 (Nat.le_of_ble_eq_true rfl)) (zc1 (D := 37056) g28 (Nat.le_of_ble_eq_true rfl)) hW (lv_sub hl [1, 2, 3, 4] rfl)
            · replace h := h.1 k30
              refine lv_aload_n hx hb dL_panels__209 rfl (lv_at hl 1 rfl) ?_
              refine lv_iload_n hx hb dL_panels__210 rfl (lv_at hl 3 rfl) ?_
              refine lv_iconst (v := 1) hx hb dL_panels__211 (by decide) ?_
              refine zl_ki (g := g) (rest := []) (zl_runH (g := g) (As := [.ref (sw_ad g 0), .int x2_7, .int (1 : Int32)]) (rest := []) hx hb hml hown hts (kL_member l hst (zl_re g H.size) z x2_7 ((1 : Int32))) ch_L_member q_669 rfl rfl ⟨by rw [hRf]; exact (Nat.le_of_ble_eq_true rfl), by rw [hRl]; exact (Nat.le_of_ble_eq_true rfl)⟩ hW rfl hl.1 rfl (Nat.le_of_ble_eq_true rfl) dL_panels__212 ⟨(zc1 (D := 6178) g12 (Nat.le_of_ble_eq_true rfl)), (zc1 (D := 37068) g14 (Nat.le_of_ble_eq_true rfl))⟩) hW (fun r9 z9 H locs h9 hW => ?_)
              obtain ⟨rfl, e9⟩ := h9
              rw [e9, s_panelMember_z] at hW
              refine lv_iload hx hb dL_panels__215 (lv_at hl 0 rfl) ?_
              refine lv_bipush (v := 6) hx hb dL_panels__217 (by decide) ?_
              refine lv_idiv hx hb dL_panels__219 (by decide) ?_
              refine lv_bipush (v := 6) hx hb dL_panels__220 (by decide) ?_
              refine lv_irem hx hb dL_panels__222 (by decide) ?_
              refine lv_icmp_ne (tgt := 244) hx hb dL_panels__223 (by decide) (fun k31 => ?_) (fun k31 => ?_)
              · replace h := h.2 k31
                refine lv_iconst (v := 0) hx hb dL_panels__244 (by decide) ?_
                exact hJ245 (0 : Int32) _ _ _ _ _ h (zc1 (D := 6178) g27 (Nat.le_of_ble_eq_true rfl)) (zc1 (D := 37068) g28 (Nat.le_of_ble_eq_true rfl)) hW (lv_sub hl [1, 2, 3, 4] rfl)
              · replace h := h.1 k31
                refine lv_aload_n hx hb dL_panels__226 rfl (lv_at hl 1 rfl) ?_
                refine lv_iload_n hx hb dL_panels__227 rfl (lv_at hl 3 rfl) ?_
                refine lv_iconst (v := 2) hx hb dL_panels__228 (by decide) ?_
                refine zl_ki (g := g) (rest := []) (zl_runH (g := g) (As := [.ref (sw_ad g 0), .int x2_7, .int (2 : Int32)]) (rest := []) hx hb hml hown hts (kL_member l hst (zl_re g H.size) z x2_7 ((2 : Int32))) ch_L_member q_669 rfl rfl ⟨by rw [hRf]; exact (Nat.le_of_ble_eq_true rfl), by rw [hRl]; exact (Nat.le_of_ble_eq_true rfl)⟩ hW rfl hl.1 rfl (Nat.le_of_ble_eq_true rfl) dL_panels__229 ⟨(zc1 (D := 6180) g12 (Nat.le_of_ble_eq_true rfl)), (zc1 (D := 37080) g14 (Nat.le_of_ble_eq_true rfl))⟩) hW (fun r9 z9 H locs h9 hW => ?_)
                obtain ⟨rfl, e9⟩ := h9
                rw [e9, s_panelMember_z] at hW
                refine lv_iload hx hb dL_panels__232 (lv_at hl 0 rfl) ?_
                refine lv_bipush (v := 6) hx hb dL_panels__234 (by decide) ?_
                refine lv_irem hx hb dL_panels__236 (by decide) ?_
                refine lv_icmp_ne (tgt := 244) hx hb dL_panels__237 (by decide) (fun k32 => ?_) (fun k32 => ?_)
                · replace h := h.2 k32
                  refine lv_iconst (v := 0) hx hb dL_panels__244 (by decide) ?_
                  exact hJ245 (0 : Int32) _ _ _ _ _ h (zc1 (D := 6180) g27 (Nat.le_of_ble_eq_true rfl)) (zc1 (D := 37080) g28 (Nat.le_of_ble_eq_true rfl)) hW (lv_sub hl [1, 2, 3, 4] rfl)
                · replace h := h.1 k32
                  refine lv_iconst (v := 1) hx hb dL_panels__240 (by decide) ?_
                  refine lv_goto (tgt := 245) hx hb dL_panels__241 (by decide) ?_
                  exact hJ245 (1 : Int32) _ _ _ _ _ h (zc1 (D := 6180) g27 (Nat.le_of_ble_eq_true rfl)) (zc1 (D := 37080) g28 (Nat.le_of_ble_eq_true rfl)) hW (lv_sub hl [1, 2, 3, 4] rfl)
          · replace h := h.2 k29
            refine lv_aload_n hx hb dL_panels__172 rfl (lv_at hl 1 rfl) ?_
            refine lv_iload_n hx hb dL_panels__173 rfl (lv_at hl 3 rfl) ?_
            refine lv_iconst (v := 0) hx hb dL_panels__174 (by decide) ?_
            refine zl_ki (g := g) (rest := []) (zl_runH (g := g) (As := [.ref (sw_ad g 0), .int x2_7, .int (0 : Int32)]) (rest := []) hx hb hml hown hts (kL_member l hst (zl_re g H.size) z x2_7 ((0 : Int32))) ch_L_member q_669 rfl rfl ⟨by rw [hRf]; exact (Nat.le_of_ble_eq_true rfl), by rw [hRl]; exact (Nat.le_of_ble_eq_true rfl)⟩ hW rfl hl.1 rfl (Nat.le_of_ble_eq_true rfl) dL_panels__175 ⟨(zc1 (D := 6176) g12 (Nat.le_of_ble_eq_true rfl)), (zc1 (D := 37056) g14 (Nat.le_of_ble_eq_true rfl))⟩) hW (fun r9 z9 H locs h9 hW => ?_)
            obtain ⟨rfl, e9⟩ := h9
            rw [e9, s_panelMember_z] at hW
            refine lv_bipush (v := -13) hx hb dL_panels__178 (by decide) ?_
            refine lv_icmp_ne (tgt := 191) hx hb dL_panels__180 (by decide) (fun k33 => ?_) (fun k33 => ?_)
            · replace h := h.2 k33
              refine lv_iconst (v := 0) hx hb dL_panels__191 (by decide) ?_
              refine lv_goto (tgt := 245) hx hb dL_panels__192 (by decide) ?_
              exact hJ245 (0 : Int32) _ _ _ _ _ h (zc1 (D := 6176) g27 (Nat.le_of_ble_eq_true rfl)) (zc1 (D := 37056) g28 (Nat.le_of_ble_eq_true rfl)) hW (lv_sub hl [1, 2, 3, 4] rfl)
            · replace h := h.1 k33
              refine lv_iload_n hx hb dL_panels__183 rfl (lv_at hl 4 rfl) ?_
              refine lv_if_ne (tgt := 191) hx hb dL_panels__184 (by decide) (fun k34 => ?_) (fun k34 => ?_)
              · replace h := h.2 k34
                refine lv_iconst (v := 0) hx hb dL_panels__191 (by decide) ?_
                refine lv_goto (tgt := 245) hx hb dL_panels__192 (by decide) ?_
                exact hJ245 (0 : Int32) _ _ _ _ _ h (zc1 (D := 6176) g27 (Nat.le_of_ble_eq_true rfl)) (zc1 (D := 37056) g28 (Nat.le_of_ble_eq_true rfl)) hW (lv_sub hl [1, 2, 3, 4] rfl)
              · replace h := h.1 k34
                refine lv_iconst (v := 1) hx hb dL_panels__187 (by decide) ?_
                refine lv_goto (tgt := 245) hx hb dL_panels__188 (by decide) ?_
                exact hJ245 (1 : Int32) _ _ _ _ _ h (zc1 (D := 6176) g27 (Nat.le_of_ble_eq_true rfl)) (zc1 (D := 37056) g28 (Nat.le_of_ble_eq_true rfl)) hW (lv_sub hl [1, 2, 3, 4] rfl)
        have key20 : ∀ (n20 : Nat) (x3_20 : Int32) (x4_20 : Int32)  (H : Heap) (locs : List Loc) (ls : Array Slot) (cn20 sn20 : Nat), lL_panels__20 z v1 x2_7 (fun x3_20k => wL_firstPanel x2_7  z (fun r16 => (0 ≤ r16 → (((zv (s_panelMember z x2_7 ((0 : Int32))) [(-11), (-12), (-13)]) = (r16 / (36 : Int32)) → (((zv (s_panelMember z x2_7 ((1 : Int32))) [(-11), (-12), (-13)]) = ((r16 / (6 : Int32)) - (r16 / (6 : Int32)) / (6 : Int32) * (6 : Int32)) → (((zv (s_panelMember z x2_7 ((2 : Int32))) [(-11), (-12), (-13)]) = (r16 - r16 / (6 : Int32) * (6 : Int32)) → (jL_panels__245 z x2_7 x3_20k Q (fun x2_7 => lL_panels__7 z v1 Q (((zv (s_panelCount z ((nI (z.1 0)))) [(-11)]) = (-11 : Int32) → (((zv (s_panelCount z ((-1 : Int32))) [(-11)]) = (-11 : Int32) → (((zv (s_panelMember z ((nI (z.1 0))) ((3 : Int32))) [(-11), (-12), (-13)]) = (-11 : Int32) → (Q (1 : Int32))) ∧ (¬ (zv (s_panelMember z ((nI (z.1 0))) ((3 : Int32))) [(-11), (-12), (-13)]) = (-11 : Int32) → (Q (0 : Int32))))) ∧ (¬ (zv (s_panelCount z ((-1 : Int32))) [(-11)]) = (-11 : Int32) → (Q (0 : Int32))))) ∧ (¬ (zv (s_panelCount z ((nI (z.1 0)))) [(-11)]) = (-11 : Int32) → (Q (0 : Int32)))) n7 x2_7) (1 : Int32))) ∧ (¬ (zv (s_panelMember z x2_7 ((2 : Int32))) [(-11), (-12), (-13)]) = (r16 - r16 / (6 : Int32) * (6 : Int32)) → (jL_panels__245 z x2_7 x3_20k Q (fun x2_7 => lL_panels__7 z v1 Q (((zv (s_panelCount z ((nI (z.1 0)))) [(-11)]) = (-11 : Int32) → (((zv (s_panelCount z ((-1 : Int32))) [(-11)]) = (-11 : Int32) → (((zv (s_panelMember z ((nI (z.1 0))) ((3 : Int32))) [(-11), (-12), (-13)]) = (-11 : Int32) → (Q (1 : Int32))) ∧ (¬ (zv (s_panelMember z ((nI (z.1 0))) ((3 : Int32))) [(-11), (-12), (-13)]) = (-11 : Int32) → (Q (0 : Int32))))) ∧ (¬ (zv (s_panelCount z ((-1 : Int32))) [(-11)]) = (-11 : Int32) → (Q (0 : Int32))))) ∧ (¬ (zv (s_panelCount z ((nI (z.1 0)))) [(-11)]) = (-11 : Int32) → (Q (0 : Int32)))) n7 x2_7) (0 : Int32))))) ∧ (¬ (zv (s_panelMember z x2_7 ((1 : Int32))) [(-11), (-12), (-13)]) = ((r16 / (6 : Int32)) - (r16 / (6 : Int32)) / (6 : Int32) * (6 : Int32)) → (jL_panels__245 z x2_7 x3_20k Q (fun x2_7 => lL_panels__7 z v1 Q (((zv (s_panelCount z ((nI (z.1 0)))) [(-11)]) = (-11 : Int32) → (((zv (s_panelCount z ((-1 : Int32))) [(-11)]) = (-11 : Int32) → (((zv (s_panelMember z ((nI (z.1 0))) ((3 : Int32))) [(-11), (-12), (-13)]) = (-11 : Int32) → (Q (1 : Int32))) ∧ (¬ (zv (s_panelMember z ((nI (z.1 0))) ((3 : Int32))) [(-11), (-12), (-13)]) = (-11 : Int32) → (Q (0 : Int32))))) ∧ (¬ (zv (s_panelCount z ((-1 : Int32))) [(-11)]) = (-11 : Int32) → (Q (0 : Int32))))) ∧ (¬ (zv (s_panelCount z ((nI (z.1 0)))) [(-11)]) = (-11 : Int32) → (Q (0 : Int32)))) n7 x2_7) (0 : Int32))))) ∧ (¬ (zv (s_panelMember z x2_7 ((0 : Int32))) [(-11), (-12), (-13)]) = (r16 / (36 : Int32)) → (jL_panels__245 z x2_7 x3_20k Q (fun x2_7 => lL_panels__7 z v1 Q (((zv (s_panelCount z ((nI (z.1 0)))) [(-11)]) = (-11 : Int32) → (((zv (s_panelCount z ((-1 : Int32))) [(-11)]) = (-11 : Int32) → (((zv (s_panelMember z ((nI (z.1 0))) ((3 : Int32))) [(-11), (-12), (-13)]) = (-11 : Int32) → (Q (1 : Int32))) ∧ (¬ (zv (s_panelMember z ((nI (z.1 0))) ((3 : Int32))) [(-11), (-12), (-13)]) = (-11 : Int32) → (Q (0 : Int32))))) ∧ (¬ (zv (s_panelCount z ((-1 : Int32))) [(-11)]) = (-11 : Int32) → (Q (0 : Int32))))) ∧ (¬ (zv (s_panelCount z ((nI (z.1 0)))) [(-11)]) = (-11 : Int32) → (Q (0 : Int32)))) n7 x2_7) (0 : Int32))))) ∧ (¬ 0 ≤ r16 → (((zv (s_panelMember z x2_7 ((0 : Int32))) [(-11), (-12), (-13)]) = (-13 : Int32) → ((x3_20k = 0 → (jL_panels__245 z x2_7 x3_20k Q (fun x2_7 => lL_panels__7 z v1 Q (((zv (s_panelCount z ((nI (z.1 0)))) [(-11)]) = (-11 : Int32) → (((zv (s_panelCount z ((-1 : Int32))) [(-11)]) = (-11 : Int32) → (((zv (s_panelMember z ((nI (z.1 0))) ((3 : Int32))) [(-11), (-12), (-13)]) = (-11 : Int32) → (Q (1 : Int32))) ∧ (¬ (zv (s_panelMember z ((nI (z.1 0))) ((3 : Int32))) [(-11), (-12), (-13)]) = (-11 : Int32) → (Q (0 : Int32))))) ∧ (¬ (zv (s_panelCount z ((-1 : Int32))) [(-11)]) = (-11 : Int32) → (Q (0 : Int32))))) ∧ (¬ (zv (s_panelCount z ((nI (z.1 0)))) [(-11)]) = (-11 : Int32) → (Q (0 : Int32)))) n7 x2_7) (1 : Int32))) ∧ (¬ x3_20k = 0 → (jL_panels__245 z x2_7 x3_20k Q (fun x2_7 => lL_panels__7 z v1 Q (((zv (s_panelCount z ((nI (z.1 0)))) [(-11)]) = (-11 : Int32) → (((zv (s_panelCount z ((-1 : Int32))) [(-11)]) = (-11 : Int32) → (((zv (s_panelMember z ((nI (z.1 0))) ((3 : Int32))) [(-11), (-12), (-13)]) = (-11 : Int32) → (Q (1 : Int32))) ∧ (¬ (zv (s_panelMember z ((nI (z.1 0))) ((3 : Int32))) [(-11), (-12), (-13)]) = (-11 : Int32) → (Q (0 : Int32))))) ∧ (¬ (zv (s_panelCount z ((-1 : Int32))) [(-11)]) = (-11 : Int32) → (Q (0 : Int32))))) ∧ (¬ (zv (s_panelCount z ((nI (z.1 0)))) [(-11)]) = (-11 : Int32) → (Q (0 : Int32)))) n7 x2_7) (0 : Int32))))) ∧ (¬ (zv (s_panelMember z x2_7 ((0 : Int32))) [(-11), (-12), (-13)]) = (-13 : Int32) → (jL_panels__245 z x2_7 x3_20k Q (fun x2_7 => lL_panels__7 z v1 Q (((zv (s_panelCount z ((nI (z.1 0)))) [(-11)]) = (-11 : Int32) → (((zv (s_panelCount z ((-1 : Int32))) [(-11)]) = (-11 : Int32) → (((zv (s_panelMember z ((nI (z.1 0))) ((3 : Int32))) [(-11), (-12), (-13)]) = (-11 : Int32) → (Q (1 : Int32))) ∧ (¬ (zv (s_panelMember z ((nI (z.1 0))) ((3 : Int32))) [(-11), (-12), (-13)]) = (-11 : Int32) → (Q (0 : Int32))))) ∧ (¬ (zv (s_panelCount z ((-1 : Int32))) [(-11)]) = (-11 : Int32) → (Q (0 : Int32))))) ∧ (¬ (zv (s_panelCount z ((nI (z.1 0)))) [(-11)]) = (-11 : Int32) → (Q (0 : Int32)))) n7 x2_7) (0 : Int32))))))) n20 x3_20 x4_20 → cn20 + n20 * 35 ≤ CL20 → sn20 + n20 * 210 ≤ SL20 → zl_Wd g [] z s H locs → lv_has ls 9 [(0, .ref (sw_ad g 0)), (1, .int v1), (2, .int x2_7), (3, .int x3_20), (4, .int x4_20)] → W p l e R s m args below meth c H locs cn20 sn20 Q0 (F0 m 20 ls []) := by
          intro n20
          induction n20 with
          | zero =>
            intro x3_20 x4_20  H locs ls cn20 sn20 h
            exact False.elim h
          | succ n20 ih20 =>
            intro x3_20 x4_20  H locs ls cn20 sn20 h hcn20 hsn20 hW hl
            rw [lL_panels__20.eq_2] at h
            obtain ⟨Tcn20, hTcn20⟩ : ∃ n : Nat, n = cn20 + 35 := ⟨_, rfl⟩
            obtain ⟨Tsn20, hTsn20⟩ : ∃ n : Nat, n = sn20 + 210 := ⟨_, rfl⟩
            have g35 : cn20 + 35 ≤ Tcn20 := Nat.le_of_eq hTcn20.symm
            have g36 : sn20 + 210 ≤ Tsn20 := Nat.le_of_eq hTsn20.symm
            have g37 : cn20 + 6227 ≤ R.cells := zc9 (x := cn7) (D := 2275) (s := 8467) (t := 6227) hcn20 hCL20 g9 (Nat.le_of_ble_eq_true rfl)
            have g38 : sn20 + 37362 ≤ R.slots := zc9 (x := sn7) (D := 13650) (s := 50802) (t := 37362) hsn20 hSL20 g10 (Nat.le_of_ble_eq_true rfl)
            refine lv_iload hx hb dL_panels__20 (lv_at hl 4 rfl) ?_
            refine lv_iconst (v := 1) hx hb dL_panels__22 (by decide) ?_
            refine lv_iload_n hx hb dL_panels__23 rfl (lv_at hl 1 rfl) ?_
            refine lv_ishl hx hb dL_panels__24 ?_
            refine lv_icmp_ge (tgt := 160) hx hb dL_panels__25 (by decide) (fun k39 => ?_) (fun k39 => ?_)
            · replace h := h.1 k39
              exact hX20 x3_20 _ _ _ _ _ h (zc11 (zc1 (D := 0) g35 (Nat.le_of_ble_eq_true rfl)) hTcn20 hcn20) (zc11 (zc1 (D := 0) g36 (Nat.le_of_ble_eq_true rfl)) hTsn20 hsn20) hW (lv_sub hl [0, 1, 2, 3] rfl)
            · replace h := h.2 k39
              refine lv_iconst (v := 0) hx hb dL_panels__28 (by decide) ?_
              refine lv_istore (lv' := [(5, .int (0 : Int32)), (0, .ref (sw_ad g 0)), (1, .int v1), (2, .int x2_7), (3, .int x3_20), (4, .int x4_20)]) hx hb dL_panels__29 hl (Nat.le_of_ble_eq_true rfl) rfl (fun ls hl => ?_)
              refine lv_iload hx hb dL_panels__31 (lv_at hl 5 rfl) ?_
              refine zl_ki (g := g) (rest := []) (zl_runS (g := g) (As := [.int x4_20]) (rest := []) hx hb hml hown hts (zJ_bitCount l (zl_re g H.size) x4_20 z _ h) cs_J6_bitCount_0f7a4 q_662 rfl rfl ⟨by rw [hRf]; exact (Nat.le_of_ble_eq_true rfl), by rw [hRl]; exact (Nat.le_of_ble_eq_true rfl)⟩ hW rfl hl.1 rfl (Nat.le_of_ble_eq_true rfl) dL_panels__33 ⟨(zc1 (D := 0) g37 (Nat.le_of_ble_eq_true rfl)), (zc1 (D := 0) g38 (Nat.le_of_ble_eq_true rfl))⟩) hW (fun r40 z9 H locs h hW => ?_)
              obtain ⟨h, e9⟩ := h
              rw [e9] at hW
              refine lv_iconst (v := 3) hx hb dL_panels__36 (by decide) ?_
              obtain ⟨CJ45, hCJ45⟩ : ∃ n : Nat, n = cn20 + 0 + 0 := ⟨_, rfl⟩
              obtain ⟨SJ45, hSJ45⟩ : ∃ n : Nat, n = sn20 + 0 + 0 := ⟨_, rfl⟩
              have hJ45 : ∀ (t0_45 : Int32) (H : Heap) (locs : List Loc) (ls : Array Slot) (cj45 sj45 : Nat), jL_panels__45 z v1 x2_7 x3_20 x4_20 (fun x3_20 x4_20 => lL_panels__20 z v1 x2_7 (fun x3_20k => wL_firstPanel x2_7  z (fun r16 => (0 ≤ r16 → (((zv (s_panelMember z x2_7 ((0 : Int32))) [(-11), (-12), (-13)]) = (r16 / (36 : Int32)) → (((zv (s_panelMember z x2_7 ((1 : Int32))) [(-11), (-12), (-13)]) = ((r16 / (6 : Int32)) - (r16 / (6 : Int32)) / (6 : Int32) * (6 : Int32)) → (((zv (s_panelMember z x2_7 ((2 : Int32))) [(-11), (-12), (-13)]) = (r16 - r16 / (6 : Int32) * (6 : Int32)) → (jL_panels__245 z x2_7 x3_20k Q (fun x2_7 => lL_panels__7 z v1 Q (((zv (s_panelCount z ((nI (z.1 0)))) [(-11)]) = (-11 : Int32) → (((zv (s_panelCount z ((-1 : Int32))) [(-11)]) = (-11 : Int32) → (((zv (s_panelMember z ((nI (z.1 0))) ((3 : Int32))) [(-11), (-12), (-13)]) = (-11 : Int32) → (Q (1 : Int32))) ∧ (¬ (zv (s_panelMember z ((nI (z.1 0))) ((3 : Int32))) [(-11), (-12), (-13)]) = (-11 : Int32) → (Q (0 : Int32))))) ∧ (¬ (zv (s_panelCount z ((-1 : Int32))) [(-11)]) = (-11 : Int32) → (Q (0 : Int32))))) ∧ (¬ (zv (s_panelCount z ((nI (z.1 0)))) [(-11)]) = (-11 : Int32) → (Q (0 : Int32)))) n7 x2_7) (1 : Int32))) ∧ (¬ (zv (s_panelMember z x2_7 ((2 : Int32))) [(-11), (-12), (-13)]) = (r16 - r16 / (6 : Int32) * (6 : Int32)) → (jL_panels__245 z x2_7 x3_20k Q (fun x2_7 => lL_panels__7 z v1 Q (((zv (s_panelCount z ((nI (z.1 0)))) [(-11)]) = (-11 : Int32) → (((zv (s_panelCount z ((-1 : Int32))) [(-11)]) = (-11 : Int32) → (((zv (s_panelMember z ((nI (z.1 0))) ((3 : Int32))) [(-11), (-12), (-13)]) = (-11 : Int32) → (Q (1 : Int32))) ∧ (¬ (zv (s_panelMember z ((nI (z.1 0))) ((3 : Int32))) [(-11), (-12), (-13)]) = (-11 : Int32) → (Q (0 : Int32))))) ∧ (¬ (zv (s_panelCount z ((-1 : Int32))) [(-11)]) = (-11 : Int32) → (Q (0 : Int32))))) ∧ (¬ (zv (s_panelCount z ((nI (z.1 0)))) [(-11)]) = (-11 : Int32) → (Q (0 : Int32)))) n7 x2_7) (0 : Int32))))) ∧ (¬ (zv (s_panelMember z x2_7 ((1 : Int32))) [(-11), (-12), (-13)]) = ((r16 / (6 : Int32)) - (r16 / (6 : Int32)) / (6 : Int32) * (6 : Int32)) → (jL_panels__245 z x2_7 x3_20k Q (fun x2_7 => lL_panels__7 z v1 Q (((zv (s_panelCount z ((nI (z.1 0)))) [(-11)]) = (-11 : Int32) → (((zv (s_panelCount z ((-1 : Int32))) [(-11)]) = (-11 : Int32) → (((zv (s_panelMember z ((nI (z.1 0))) ((3 : Int32))) [(-11), (-12), (-13)]) = (-11 : Int32) → (Q (1 : Int32))) ∧ (¬ (zv (s_panelMember z ((nI (z.1 0))) ((3 : Int32))) [(-11), (-12), (-13)]) = (-11 : Int32) → (Q (0 : Int32))))) ∧ (¬ (zv (s_panelCount z ((-1 : Int32))) [(-11)]) = (-11 : Int32) → (Q (0 : Int32))))) ∧ (¬ (zv (s_panelCount z ((nI (z.1 0)))) [(-11)]) = (-11 : Int32) → (Q (0 : Int32)))) n7 x2_7) (0 : Int32))))) ∧ (¬ (zv (s_panelMember z x2_7 ((0 : Int32))) [(-11), (-12), (-13)]) = (r16 / (36 : Int32)) → (jL_panels__245 z x2_7 x3_20k Q (fun x2_7 => lL_panels__7 z v1 Q (((zv (s_panelCount z ((nI (z.1 0)))) [(-11)]) = (-11 : Int32) → (((zv (s_panelCount z ((-1 : Int32))) [(-11)]) = (-11 : Int32) → (((zv (s_panelMember z ((nI (z.1 0))) ((3 : Int32))) [(-11), (-12), (-13)]) = (-11 : Int32) → (Q (1 : Int32))) ∧ (¬ (zv (s_panelMember z ((nI (z.1 0))) ((3 : Int32))) [(-11), (-12), (-13)]) = (-11 : Int32) → (Q (0 : Int32))))) ∧ (¬ (zv (s_panelCount z ((-1 : Int32))) [(-11)]) = (-11 : Int32) → (Q (0 : Int32))))) ∧ (¬ (zv (s_panelCount z ((nI (z.1 0)))) [(-11)]) = (-11 : Int32) → (Q (0 : Int32)))) n7 x2_7) (0 : Int32))))) ∧ (¬ 0 ≤ r16 → (((zv (s_panelMember z x2_7 ((0 : Int32))) [(-11), (-12), (-13)]) = (-13 : Int32) → ((x3_20k = 0 → (jL_panels__245 z x2_7 x3_20k Q (fun x2_7 => lL_panels__7 z v1 Q (((zv (s_panelCount z ((nI (z.1 0)))) [(-11)]) = (-11 : Int32) → (((zv (s_panelCount z ((-1 : Int32))) [(-11)]) = (-11 : Int32) → (((zv (s_panelMember z ((nI (z.1 0))) ((3 : Int32))) [(-11), (-12), (-13)]) = (-11 : Int32) → (Q (1 : Int32))) ∧ (¬ (zv (s_panelMember z ((nI (z.1 0))) ((3 : Int32))) [(-11), (-12), (-13)]) = (-11 : Int32) → (Q (0 : Int32))))) ∧ (¬ (zv (s_panelCount z ((-1 : Int32))) [(-11)]) = (-11 : Int32) → (Q (0 : Int32))))) ∧ (¬ (zv (s_panelCount z ((nI (z.1 0)))) [(-11)]) = (-11 : Int32) → (Q (0 : Int32)))) n7 x2_7) (1 : Int32))) ∧ (¬ x3_20k = 0 → (jL_panels__245 z x2_7 x3_20k Q (fun x2_7 => lL_panels__7 z v1 Q (((zv (s_panelCount z ((nI (z.1 0)))) [(-11)]) = (-11 : Int32) → (((zv (s_panelCount z ((-1 : Int32))) [(-11)]) = (-11 : Int32) → (((zv (s_panelMember z ((nI (z.1 0))) ((3 : Int32))) [(-11), (-12), (-13)]) = (-11 : Int32) → (Q (1 : Int32))) ∧ (¬ (zv (s_panelMember z ((nI (z.1 0))) ((3 : Int32))) [(-11), (-12), (-13)]) = (-11 : Int32) → (Q (0 : Int32))))) ∧ (¬ (zv (s_panelCount z ((-1 : Int32))) [(-11)]) = (-11 : Int32) → (Q (0 : Int32))))) ∧ (¬ (zv (s_panelCount z ((nI (z.1 0)))) [(-11)]) = (-11 : Int32) → (Q (0 : Int32)))) n7 x2_7) (0 : Int32))))) ∧ (¬ (zv (s_panelMember z x2_7 ((0 : Int32))) [(-11), (-12), (-13)]) = (-13 : Int32) → (jL_panels__245 z x2_7 x3_20k Q (fun x2_7 => lL_panels__7 z v1 Q (((zv (s_panelCount z ((nI (z.1 0)))) [(-11)]) = (-11 : Int32) → (((zv (s_panelCount z ((-1 : Int32))) [(-11)]) = (-11 : Int32) → (((zv (s_panelMember z ((nI (z.1 0))) ((3 : Int32))) [(-11), (-12), (-13)]) = (-11 : Int32) → (Q (1 : Int32))) ∧ (¬ (zv (s_panelMember z ((nI (z.1 0))) ((3 : Int32))) [(-11), (-12), (-13)]) = (-11 : Int32) → (Q (0 : Int32))))) ∧ (¬ (zv (s_panelCount z ((-1 : Int32))) [(-11)]) = (-11 : Int32) → (Q (0 : Int32))))) ∧ (¬ (zv (s_panelCount z ((nI (z.1 0)))) [(-11)]) = (-11 : Int32) → (Q (0 : Int32)))) n7 x2_7) (0 : Int32))))))) n20 x3_20 x4_20) t0_45 → cj45 ≤ CJ45 → sj45 ≤ SJ45 → zl_Wd g [] z s H locs → lv_has ls 9 [(0, .ref (sw_ad g 0)), (1, .int v1), (2, .int x2_7), (3, .int x3_20), (4, .int x4_20), (5, .int (0 : Int32))] → W p l e R s m args below meth c H locs cj45 sj45 Q0 (F0 m 45 ls [.int t0_45]) := by
                intro t0_45 H locs ls cj45 sj45 h hcj45 hsj45 hW hl
                unfold jL_panels__45 at h
                have g41 : cj45 + 6227 ≤ R.cells := zc8 (x := cn20) (D := 0) (s := 6227) (s' := 6227) hcj45 hCJ45 g37 (Nat.le_of_ble_eq_true rfl)
                have g42 : cj45 + 35 ≤ Tcn20 := zc8 (x := cn20) (D := 0) (s := 35) (s' := 35) hcj45 hCJ45 g35 (Nat.le_of_ble_eq_true rfl)
                have g43 : sj45 + 37362 ≤ R.slots := zc8 (x := sn20) (D := 0) (s := 37362) (s' := 37362) hsj45 hSJ45 g38 (Nat.le_of_ble_eq_true rfl)
                have g44 : sj45 + 210 ≤ Tsn20 := zc8 (x := sn20) (D := 0) (s := 210) (s' := 210) hsj45 hSJ45 g36 (Nat.le_of_ble_eq_true rfl)
                refine lv_istore (lv' := [(6, .int t0_45), (0, .ref (sw_ad g 0)), (1, .int v1), (2, .int x2_7), (3, .int x3_20), (4, .int x4_20), (5, .int (0 : Int32))]) hx hb dL_panels__45 hl (Nat.le_of_ble_eq_true rfl) rfl (fun ls hl => ?_)
                refine lv_iconst (v := 0) hx hb dL_panels__47 (by decide) ?_
                refine lv_istore (lv' := [(7, .int (0 : Int32)), (6, .int t0_45), (0, .ref (sw_ad g 0)), (1, .int v1), (2, .int x2_7), (3, .int x3_20), (4, .int x4_20), (5, .int (0 : Int32))]) hx hb dL_panels__48 hl (Nat.le_of_ble_eq_true rfl) rfl (fun ls hl => ?_)
                obtain ⟨CL50, hCL50⟩ : ∃ n : Nat, n = cj45 + 35 := ⟨_, rfl⟩
                obtain ⟨SL50, hSL50⟩ : ∃ n : Nat, n = sj45 + 210 := ⟨_, rfl⟩
                have hX50 : ∀ (x5_50k : Int32) (x6_50k : Int32)  (H : Heap) (locs : List Loc) (ls : Array Slot) (cx50 sx50 : Nat), ((x6_50k = 0 → (jL_panels__152 x3_20 x4_20 (fun x3_20 x4_20 => lL_panels__20 z v1 x2_7 (fun x3_20k => wL_firstPanel x2_7  z (fun r16 => (0 ≤ r16 → (((zv (s_panelMember z x2_7 ((0 : Int32))) [(-11), (-12), (-13)]) = (r16 / (36 : Int32)) → (((zv (s_panelMember z x2_7 ((1 : Int32))) [(-11), (-12), (-13)]) = ((r16 / (6 : Int32)) - (r16 / (6 : Int32)) / (6 : Int32) * (6 : Int32)) → (((zv (s_panelMember z x2_7 ((2 : Int32))) [(-11), (-12), (-13)]) = (r16 - r16 / (6 : Int32) * (6 : Int32)) → (jL_panels__245 z x2_7 x3_20k Q (fun x2_7 => lL_panels__7 z v1 Q (((zv (s_panelCount z ((nI (z.1 0)))) [(-11)]) = (-11 : Int32) → (((zv (s_panelCount z ((-1 : Int32))) [(-11)]) = (-11 : Int32) → (((zv (s_panelMember z ((nI (z.1 0))) ((3 : Int32))) [(-11), (-12), (-13)]) = (-11 : Int32) → (Q (1 : Int32))) ∧ (¬ (zv (s_panelMember z ((nI (z.1 0))) ((3 : Int32))) [(-11), (-12), (-13)]) = (-11 : Int32) → (Q (0 : Int32))))) ∧ (¬ (zv (s_panelCount z ((-1 : Int32))) [(-11)]) = (-11 : Int32) → (Q (0 : Int32))))) ∧ (¬ (zv (s_panelCount z ((nI (z.1 0)))) [(-11)]) = (-11 : Int32) → (Q (0 : Int32)))) n7 x2_7) (1 : Int32))) ∧ (¬ (zv (s_panelMember z x2_7 ((2 : Int32))) [(-11), (-12), (-13)]) = (r16 - r16 / (6 : Int32) * (6 : Int32)) → (jL_panels__245 z x2_7 x3_20k Q (fun x2_7 => lL_panels__7 z v1 Q (((zv (s_panelCount z ((nI (z.1 0)))) [(-11)]) = (-11 : Int32) → (((zv (s_panelCount z ((-1 : Int32))) [(-11)]) = (-11 : Int32) → (((zv (s_panelMember z ((nI (z.1 0))) ((3 : Int32))) [(-11), (-12), (-13)]) = (-11 : Int32) → (Q (1 : Int32))) ∧ (¬ (zv (s_panelMember z ((nI (z.1 0))) ((3 : Int32))) [(-11), (-12), (-13)]) = (-11 : Int32) → (Q (0 : Int32))))) ∧ (¬ (zv (s_panelCount z ((-1 : Int32))) [(-11)]) = (-11 : Int32) → (Q (0 : Int32))))) ∧ (¬ (zv (s_panelCount z ((nI (z.1 0)))) [(-11)]) = (-11 : Int32) → (Q (0 : Int32)))) n7 x2_7) (0 : Int32))))) ∧ (¬ (zv (s_panelMember z x2_7 ((1 : Int32))) [(-11), (-12), (-13)]) = ((r16 / (6 : Int32)) - (r16 / (6 : Int32)) / (6 : Int32) * (6 : Int32)) → (jL_panels__245 z x2_7 x3_20k Q (fun x2_7 => lL_panels__7 z v1 Q (((zv (s_panelCount z ((nI (z.1 0)))) [(-11)]) = (-11 : Int32) → (((zv (s_panelCount z ((-1 : Int32))) [(-11)]) = (-11 : Int32) → (((zv (s_panelMember z ((nI (z.1 0))) ((3 : Int32))) [(-11), (-12), (-13)]) = (-11 : Int32) → (Q (1 : Int32))) ∧ (¬ (zv (s_panelMember z ((nI (z.1 0))) ((3 : Int32))) [(-11), (-12), (-13)]) = (-11 : Int32) → (Q (0 : Int32))))) ∧ (¬ (zv (s_panelCount z ((-1 : Int32))) [(-11)]) = (-11 : Int32) → (Q (0 : Int32))))) ∧ (¬ (zv (s_panelCount z ((nI (z.1 0)))) [(-11)]) = (-11 : Int32) → (Q (0 : Int32)))) n7 x2_7) (0 : Int32))))) ∧ (¬ (zv (s_panelMember z x2_7 ((0 : Int32))) [(-11), (-12), (-13)]) = (r16 / (36 : Int32)) → (jL_panels__245 z x2_7 x3_20k Q (fun x2_7 => lL_panels__7 z v1 Q (((zv (s_panelCount z ((nI (z.1 0)))) [(-11)]) = (-11 : Int32) → (((zv (s_panelCount z ((-1 : Int32))) [(-11)]) = (-11 : Int32) → (((zv (s_panelMember z ((nI (z.1 0))) ((3 : Int32))) [(-11), (-12), (-13)]) = (-11 : Int32) → (Q (1 : Int32))) ∧ (¬ (zv (s_panelMember z ((nI (z.1 0))) ((3 : Int32))) [(-11), (-12), (-13)]) = (-11 : Int32) → (Q (0 : Int32))))) ∧ (¬ (zv (s_panelCount z ((-1 : Int32))) [(-11)]) = (-11 : Int32) → (Q (0 : Int32))))) ∧ (¬ (zv (s_panelCount z ((nI (z.1 0)))) [(-11)]) = (-11 : Int32) → (Q (0 : Int32)))) n7 x2_7) (0 : Int32))))) ∧ (¬ 0 ≤ r16 → (((zv (s_panelMember z x2_7 ((0 : Int32))) [(-11), (-12), (-13)]) = (-13 : Int32) → ((x3_20k = 0 → (jL_panels__245 z x2_7 x3_20k Q (fun x2_7 => lL_panels__7 z v1 Q (((zv (s_panelCount z ((nI (z.1 0)))) [(-11)]) = (-11 : Int32) → (((zv (s_panelCount z ((-1 : Int32))) [(-11)]) = (-11 : Int32) → (((zv (s_panelMember z ((nI (z.1 0))) ((3 : Int32))) [(-11), (-12), (-13)]) = (-11 : Int32) → (Q (1 : Int32))) ∧ (¬ (zv (s_panelMember z ((nI (z.1 0))) ((3 : Int32))) [(-11), (-12), (-13)]) = (-11 : Int32) → (Q (0 : Int32))))) ∧ (¬ (zv (s_panelCount z ((-1 : Int32))) [(-11)]) = (-11 : Int32) → (Q (0 : Int32))))) ∧ (¬ (zv (s_panelCount z ((nI (z.1 0)))) [(-11)]) = (-11 : Int32) → (Q (0 : Int32)))) n7 x2_7) (1 : Int32))) ∧ (¬ x3_20k = 0 → (jL_panels__245 z x2_7 x3_20k Q (fun x2_7 => lL_panels__7 z v1 Q (((zv (s_panelCount z ((nI (z.1 0)))) [(-11)]) = (-11 : Int32) → (((zv (s_panelCount z ((-1 : Int32))) [(-11)]) = (-11 : Int32) → (((zv (s_panelMember z ((nI (z.1 0))) ((3 : Int32))) [(-11), (-12), (-13)]) = (-11 : Int32) → (Q (1 : Int32))) ∧ (¬ (zv (s_panelMember z ((nI (z.1 0))) ((3 : Int32))) [(-11), (-12), (-13)]) = (-11 : Int32) → (Q (0 : Int32))))) ∧ (¬ (zv (s_panelCount z ((-1 : Int32))) [(-11)]) = (-11 : Int32) → (Q (0 : Int32))))) ∧ (¬ (zv (s_panelCount z ((nI (z.1 0)))) [(-11)]) = (-11 : Int32) → (Q (0 : Int32)))) n7 x2_7) (0 : Int32))))) ∧ (¬ (zv (s_panelMember z x2_7 ((0 : Int32))) [(-11), (-12), (-13)]) = (-13 : Int32) → (jL_panels__245 z x2_7 x3_20k Q (fun x2_7 => lL_panels__7 z v1 Q (((zv (s_panelCount z ((nI (z.1 0)))) [(-11)]) = (-11 : Int32) → (((zv (s_panelCount z ((-1 : Int32))) [(-11)]) = (-11 : Int32) → (((zv (s_panelMember z ((nI (z.1 0))) ((3 : Int32))) [(-11), (-12), (-13)]) = (-11 : Int32) → (Q (1 : Int32))) ∧ (¬ (zv (s_panelMember z ((nI (z.1 0))) ((3 : Int32))) [(-11), (-12), (-13)]) = (-11 : Int32) → (Q (0 : Int32))))) ∧ (¬ (zv (s_panelCount z ((-1 : Int32))) [(-11)]) = (-11 : Int32) → (Q (0 : Int32))))) ∧ (¬ (zv (s_panelCount z ((nI (z.1 0)))) [(-11)]) = (-11 : Int32) → (Q (0 : Int32)))) n7 x2_7) (0 : Int32))))))) n20 x3_20 x4_20) (0 : Int32))) ∧ (¬ x6_50k = 0 → (wJ6_bitCount_0f7a4 x5_50k (fun r58 => (r58 = (3 : Int32) → (jL_panels__152 x3_20 x4_20 (fun x3_20 x4_20 => lL_panels__20 z v1 x2_7 (fun x3_20k => wL_firstPanel x2_7  z (fun r16 => (0 ≤ r16 → (((zv (s_panelMember z x2_7 ((0 : Int32))) [(-11), (-12), (-13)]) = (r16 / (36 : Int32)) → (((zv (s_panelMember z x2_7 ((1 : Int32))) [(-11), (-12), (-13)]) = ((r16 / (6 : Int32)) - (r16 / (6 : Int32)) / (6 : Int32) * (6 : Int32)) → (((zv (s_panelMember z x2_7 ((2 : Int32))) [(-11), (-12), (-13)]) = (r16 - r16 / (6 : Int32) * (6 : Int32)) → (jL_panels__245 z x2_7 x3_20k Q (fun x2_7 => lL_panels__7 z v1 Q (((zv (s_panelCount z ((nI (z.1 0)))) [(-11)]) = (-11 : Int32) → (((zv (s_panelCount z ((-1 : Int32))) [(-11)]) = (-11 : Int32) → (((zv (s_panelMember z ((nI (z.1 0))) ((3 : Int32))) [(-11), (-12), (-13)]) = (-11 : Int32) → (Q (1 : Int32))) ∧ (¬ (zv (s_panelMember z ((nI (z.1 0))) ((3 : Int32))) [(-11), (-12), (-13)]) = (-11 : Int32) → (Q (0 : Int32))))) ∧ (¬ (zv (s_panelCount z ((-1 : Int32))) [(-11)]) = (-11 : Int32) → (Q (0 : Int32))))) ∧ (¬ (zv (s_panelCount z ((nI (z.1 0)))) [(-11)]) = (-11 : Int32) → (Q (0 : Int32)))) n7 x2_7) (1 : Int32))) ∧ (¬ (zv (s_panelMember z x2_7 ((2 : Int32))) [(-11), (-12), (-13)]) = (r16 - r16 / (6 : Int32) * (6 : Int32)) → (jL_panels__245 z x2_7 x3_20k Q (fun x2_7 => lL_panels__7 z v1 Q (((zv (s_panelCount z ((nI (z.1 0)))) [(-11)]) = (-11 : Int32) → (((zv (s_panelCount z ((-1 : Int32))) [(-11)]) = (-11 : Int32) → (((zv (s_panelMember z ((nI (z.1 0))) ((3 : Int32))) [(-11), (-12), (-13)]) = (-11 : Int32) → (Q (1 : Int32))) ∧ (¬ (zv (s_panelMember z ((nI (z.1 0))) ((3 : Int32))) [(-11), (-12), (-13)]) = (-11 : Int32) → (Q (0 : Int32))))) ∧ (¬ (zv (s_panelCount z ((-1 : Int32))) [(-11)]) = (-11 : Int32) → (Q (0 : Int32))))) ∧ (¬ (zv (s_panelCount z ((nI (z.1 0)))) [(-11)]) = (-11 : Int32) → (Q (0 : Int32)))) n7 x2_7) (0 : Int32))))) ∧ (¬ (zv (s_panelMember z x2_7 ((1 : Int32))) [(-11), (-12), (-13)]) = ((r16 / (6 : Int32)) - (r16 / (6 : Int32)) / (6 : Int32) * (6 : Int32)) → (jL_panels__245 z x2_7 x3_20k Q (fun x2_7 => lL_panels__7 z v1 Q (((zv (s_panelCount z ((nI (z.1 0)))) [(-11)]) = (-11 : Int32) → (((zv (s_panelCount z ((-1 : Int32))) [(-11)]) = (-11 : Int32) → (((zv (s_panelMember z ((nI (z.1 0))) ((3 : Int32))) [(-11), (-12), (-13)]) = (-11 : Int32) → (Q (1 : Int32))) ∧ (¬ (zv (s_panelMember z ((nI (z.1 0))) ((3 : Int32))) [(-11), (-12), (-13)]) = (-11 : Int32) → (Q (0 : Int32))))) ∧ (¬ (zv (s_panelCount z ((-1 : Int32))) [(-11)]) = (-11 : Int32) → (Q (0 : Int32))))) ∧ (¬ (zv (s_panelCount z ((nI (z.1 0)))) [(-11)]) = (-11 : Int32) → (Q (0 : Int32)))) n7 x2_7) (0 : Int32))))) ∧ (¬ (zv (s_panelMember z x2_7 ((0 : Int32))) [(-11), (-12), (-13)]) = (r16 / (36 : Int32)) → (jL_panels__245 z x2_7 x3_20k Q (fun x2_7 => lL_panels__7 z v1 Q (((zv (s_panelCount z ((nI (z.1 0)))) [(-11)]) = (-11 : Int32) → (((zv (s_panelCount z ((-1 : Int32))) [(-11)]) = (-11 : Int32) → (((zv (s_panelMember z ((nI (z.1 0))) ((3 : Int32))) [(-11), (-12), (-13)]) = (-11 : Int32) → (Q (1 : Int32))) ∧ (¬ (zv (s_panelMember z ((nI (z.1 0))) ((3 : Int32))) [(-11), (-12), (-13)]) = (-11 : Int32) → (Q (0 : Int32))))) ∧ (¬ (zv (s_panelCount z ((-1 : Int32))) [(-11)]) = (-11 : Int32) → (Q (0 : Int32))))) ∧ (¬ (zv (s_panelCount z ((nI (z.1 0)))) [(-11)]) = (-11 : Int32) → (Q (0 : Int32)))) n7 x2_7) (0 : Int32))))) ∧ (¬ 0 ≤ r16 → (((zv (s_panelMember z x2_7 ((0 : Int32))) [(-11), (-12), (-13)]) = (-13 : Int32) → ((x3_20k = 0 → (jL_panels__245 z x2_7 x3_20k Q (fun x2_7 => lL_panels__7 z v1 Q (((zv (s_panelCount z ((nI (z.1 0)))) [(-11)]) = (-11 : Int32) → (((zv (s_panelCount z ((-1 : Int32))) [(-11)]) = (-11 : Int32) → (((zv (s_panelMember z ((nI (z.1 0))) ((3 : Int32))) [(-11), (-12), (-13)]) = (-11 : Int32) → (Q (1 : Int32))) ∧ (¬ (zv (s_panelMember z ((nI (z.1 0))) ((3 : Int32))) [(-11), (-12), (-13)]) = (-11 : Int32) → (Q (0 : Int32))))) ∧ (¬ (zv (s_panelCount z ((-1 : Int32))) [(-11)]) = (-11 : Int32) → (Q (0 : Int32))))) ∧ (¬ (zv (s_panelCount z ((nI (z.1 0)))) [(-11)]) = (-11 : Int32) → (Q (0 : Int32)))) n7 x2_7) (1 : Int32))) ∧ (¬ x3_20k = 0 → (jL_panels__245 z x2_7 x3_20k Q (fun x2_7 => lL_panels__7 z v1 Q (((zv (s_panelCount z ((nI (z.1 0)))) [(-11)]) = (-11 : Int32) → (((zv (s_panelCount z ((-1 : Int32))) [(-11)]) = (-11 : Int32) → (((zv (s_panelMember z ((nI (z.1 0))) ((3 : Int32))) [(-11), (-12), (-13)]) = (-11 : Int32) → (Q (1 : Int32))) ∧ (¬ (zv (s_panelMember z ((nI (z.1 0))) ((3 : Int32))) [(-11), (-12), (-13)]) = (-11 : Int32) → (Q (0 : Int32))))) ∧ (¬ (zv (s_panelCount z ((-1 : Int32))) [(-11)]) = (-11 : Int32) → (Q (0 : Int32))))) ∧ (¬ (zv (s_panelCount z ((nI (z.1 0)))) [(-11)]) = (-11 : Int32) → (Q (0 : Int32)))) n7 x2_7) (0 : Int32))))) ∧ (¬ (zv (s_panelMember z x2_7 ((0 : Int32))) [(-11), (-12), (-13)]) = (-13 : Int32) → (jL_panels__245 z x2_7 x3_20k Q (fun x2_7 => lL_panels__7 z v1 Q (((zv (s_panelCount z ((nI (z.1 0)))) [(-11)]) = (-11 : Int32) → (((zv (s_panelCount z ((-1 : Int32))) [(-11)]) = (-11 : Int32) → (((zv (s_panelMember z ((nI (z.1 0))) ((3 : Int32))) [(-11), (-12), (-13)]) = (-11 : Int32) → (Q (1 : Int32))) ∧ (¬ (zv (s_panelMember z ((nI (z.1 0))) ((3 : Int32))) [(-11), (-12), (-13)]) = (-11 : Int32) → (Q (0 : Int32))))) ∧ (¬ (zv (s_panelCount z ((-1 : Int32))) [(-11)]) = (-11 : Int32) → (Q (0 : Int32))))) ∧ (¬ (zv (s_panelCount z ((nI (z.1 0)))) [(-11)]) = (-11 : Int32) → (Q (0 : Int32)))) n7 x2_7) (0 : Int32))))))) n20 x3_20 x4_20) (1 : Int32))) ∧ (¬ r58 = (3 : Int32) → (jL_panels__152 x3_20 x4_20 (fun x3_20 x4_20 => lL_panels__20 z v1 x2_7 (fun x3_20k => wL_firstPanel x2_7  z (fun r16 => (0 ≤ r16 → (((zv (s_panelMember z x2_7 ((0 : Int32))) [(-11), (-12), (-13)]) = (r16 / (36 : Int32)) → (((zv (s_panelMember z x2_7 ((1 : Int32))) [(-11), (-12), (-13)]) = ((r16 / (6 : Int32)) - (r16 / (6 : Int32)) / (6 : Int32) * (6 : Int32)) → (((zv (s_panelMember z x2_7 ((2 : Int32))) [(-11), (-12), (-13)]) = (r16 - r16 / (6 : Int32) * (6 : Int32)) → (jL_panels__245 z x2_7 x3_20k Q (fun x2_7 => lL_panels__7 z v1 Q (((zv (s_panelCount z ((nI (z.1 0)))) [(-11)]) = (-11 : Int32) → (((zv (s_panelCount z ((-1 : Int32))) [(-11)]) = (-11 : Int32) → (((zv (s_panelMember z ((nI (z.1 0))) ((3 : Int32))) [(-11), (-12), (-13)]) = (-11 : Int32) → (Q (1 : Int32))) ∧ (¬ (zv (s_panelMember z ((nI (z.1 0))) ((3 : Int32))) [(-11), (-12), (-13)]) = (-11 : Int32) → (Q (0 : Int32))))) ∧ (¬ (zv (s_panelCount z ((-1 : Int32))) [(-11)]) = (-11 : Int32) → (Q (0 : Int32))))) ∧ (¬ (zv (s_panelCount z ((nI (z.1 0)))) [(-11)]) = (-11 : Int32) → (Q (0 : Int32)))) n7 x2_7) (1 : Int32))) ∧ (¬ (zv (s_panelMember z x2_7 ((2 : Int32))) [(-11), (-12), (-13)]) = (r16 - r16 / (6 : Int32) * (6 : Int32)) → (jL_panels__245 z x2_7 x3_20k Q (fun x2_7 => lL_panels__7 z v1 Q (((zv (s_panelCount z ((nI (z.1 0)))) [(-11)]) = (-11 : Int32) → (((zv (s_panelCount z ((-1 : Int32))) [(-11)]) = (-11 : Int32) → (((zv (s_panelMember z ((nI (z.1 0))) ((3 : Int32))) [(-11), (-12), (-13)]) = (-11 : Int32) → (Q (1 : Int32))) ∧ (¬ (zv (s_panelMember z ((nI (z.1 0))) ((3 : Int32))) [(-11), (-12), (-13)]) = (-11 : Int32) → (Q (0 : Int32))))) ∧ (¬ (zv (s_panelCount z ((-1 : Int32))) [(-11)]) = (-11 : Int32) → (Q (0 : Int32))))) ∧ (¬ (zv (s_panelCount z ((nI (z.1 0)))) [(-11)]) = (-11 : Int32) → (Q (0 : Int32)))) n7 x2_7) (0 : Int32))))) ∧ (¬ (zv (s_panelMember z x2_7 ((1 : Int32))) [(-11), (-12), (-13)]) = ((r16 / (6 : Int32)) - (r16 / (6 : Int32)) / (6 : Int32) * (6 : Int32)) → (jL_panels__245 z x2_7 x3_20k Q (fun x2_7 => lL_panels__7 z v1 Q (((zv (s_panelCount z ((nI (z.1 0)))) [(-11)]) = (-11 : Int32) → (((zv (s_panelCount z ((-1 : Int32))) [(-11)]) = (-11 : Int32) → (((zv (s_panelMember z ((nI (z.1 0))) ((3 : Int32))) [(-11), (-12), (-13)]) = (-11 : Int32) → (Q (1 : Int32))) ∧ (¬ (zv (s_panelMember z ((nI (z.1 0))) ((3 : Int32))) [(-11), (-12), (-13)]) = (-11 : Int32) → (Q (0 : Int32))))) ∧ (¬ (zv (s_panelCount z ((-1 : Int32))) [(-11)]) = (-11 : Int32) → (Q (0 : Int32))))) ∧ (¬ (zv (s_panelCount z ((nI (z.1 0)))) [(-11)]) = (-11 : Int32) → (Q (0 : Int32)))) n7 x2_7) (0 : Int32))))) ∧ (¬ (zv (s_panelMember z x2_7 ((0 : Int32))) [(-11), (-12), (-13)]) = (r16 / (36 : Int32)) → (jL_panels__245 z x2_7 x3_20k Q (fun x2_7 => lL_panels__7 z v1 Q (((zv (s_panelCount z ((nI (z.1 0)))) [(-11)]) = (-11 : Int32) → (((zv (s_panelCount z ((-1 : Int32))) [(-11)]) = (-11 : Int32) → (((zv (s_panelMember z ((nI (z.1 0))) ((3 : Int32))) [(-11), (-12), (-13)]) = (-11 : Int32) → (Q (1 : Int32))) ∧ (¬ (zv (s_panelMember z ((nI (z.1 0))) ((3 : Int32))) [(-11), (-12), (-13)]) = (-11 : Int32) → (Q (0 : Int32))))) ∧ (¬ (zv (s_panelCount z ((-1 : Int32))) [(-11)]) = (-11 : Int32) → (Q (0 : Int32))))) ∧ (¬ (zv (s_panelCount z ((nI (z.1 0)))) [(-11)]) = (-11 : Int32) → (Q (0 : Int32)))) n7 x2_7) (0 : Int32))))) ∧ (¬ 0 ≤ r16 → (((zv (s_panelMember z x2_7 ((0 : Int32))) [(-11), (-12), (-13)]) = (-13 : Int32) → ((x3_20k = 0 → (jL_panels__245 z x2_7 x3_20k Q (fun x2_7 => lL_panels__7 z v1 Q (((zv (s_panelCount z ((nI (z.1 0)))) [(-11)]) = (-11 : Int32) → (((zv (s_panelCount z ((-1 : Int32))) [(-11)]) = (-11 : Int32) → (((zv (s_panelMember z ((nI (z.1 0))) ((3 : Int32))) [(-11), (-12), (-13)]) = (-11 : Int32) → (Q (1 : Int32))) ∧ (¬ (zv (s_panelMember z ((nI (z.1 0))) ((3 : Int32))) [(-11), (-12), (-13)]) = (-11 : Int32) → (Q (0 : Int32))))) ∧ (¬ (zv (s_panelCount z ((-1 : Int32))) [(-11)]) = (-11 : Int32) → (Q (0 : Int32))))) ∧ (¬ (zv (s_panelCount z ((nI (z.1 0)))) [(-11)]) = (-11 : Int32) → (Q (0 : Int32)))) n7 x2_7) (1 : Int32))) ∧ (¬ x3_20k = 0 → (jL_panels__245 z x2_7 x3_20k Q (fun x2_7 => lL_panels__7 z v1 Q (((zv (s_panelCount z ((nI (z.1 0)))) [(-11)]) = (-11 : Int32) → (((zv (s_panelCount z ((-1 : Int32))) [(-11)]) = (-11 : Int32) → (((zv (s_panelMember z ((nI (z.1 0))) ((3 : Int32))) [(-11), (-12), (-13)]) = (-11 : Int32) → (Q (1 : Int32))) ∧ (¬ (zv (s_panelMember z ((nI (z.1 0))) ((3 : Int32))) [(-11), (-12), (-13)]) = (-11 : Int32) → (Q (0 : Int32))))) ∧ (¬ (zv (s_panelCount z ((-1 : Int32))) [(-11)]) = (-11 : Int32) → (Q (0 : Int32))))) ∧ (¬ (zv (s_panelCount z ((nI (z.1 0)))) [(-11)]) = (-11 : Int32) → (Q (0 : Int32)))) n7 x2_7) (0 : Int32))))) ∧ (¬ (zv (s_panelMember z x2_7 ((0 : Int32))) [(-11), (-12), (-13)]) = (-13 : Int32) → (jL_panels__245 z x2_7 x3_20k Q (fun x2_7 => lL_panels__7 z v1 Q (((zv (s_panelCount z ((nI (z.1 0)))) [(-11)]) = (-11 : Int32) → (((zv (s_panelCount z ((-1 : Int32))) [(-11)]) = (-11 : Int32) → (((zv (s_panelMember z ((nI (z.1 0))) ((3 : Int32))) [(-11), (-12), (-13)]) = (-11 : Int32) → (Q (1 : Int32))) ∧ (¬ (zv (s_panelMember z ((nI (z.1 0))) ((3 : Int32))) [(-11), (-12), (-13)]) = (-11 : Int32) → (Q (0 : Int32))))) ∧ (¬ (zv (s_panelCount z ((-1 : Int32))) [(-11)]) = (-11 : Int32) → (Q (0 : Int32))))) ∧ (¬ (zv (s_panelCount z ((nI (z.1 0)))) [(-11)]) = (-11 : Int32) → (Q (0 : Int32)))) n7 x2_7) (0 : Int32))))))) n20 x3_20 x4_20) (0 : Int32))))))) → cx50 ≤ CL50 → sx50 ≤ SL50 → zl_Wd g [] z s H locs → lv_has ls 9 [(0, .ref (sw_ad g 0)), (1, .int v1), (2, .int x2_7), (3, .int x3_20), (4, .int x4_20), (5, .int x5_50k), (6, .int x6_50k)] → W p l e R s m args below meth c H locs cx50 sx50 Q0 (F0 m 132 ls []) := by
                  intro x5_50k x6_50k  H locs ls cx50 sx50 h hcx50 hsx50 hW hl
                  have g45 : cx50 + 6192 ≤ R.cells := zc8 (x := cj45) (D := 35) (s := 6227) (s' := 6192) hcx50 hCL50 g41 (Nat.le_of_ble_eq_true rfl)
                  have g46 : cx50 + 0 ≤ Tcn20 := zc8 (x := cj45) (D := 35) (s := 35) (s' := 0) hcx50 hCL50 g42 (Nat.le_of_ble_eq_true rfl)
                  have g47 : sx50 + 37152 ≤ R.slots := zc8 (x := sj45) (D := 210) (s := 37362) (s' := 37152) hsx50 hSL50 g43 (Nat.le_of_ble_eq_true rfl)
                  have g48 : sx50 + 0 ≤ Tsn20 := zc8 (x := sj45) (D := 210) (s := 210) (s' := 0) hsx50 hSL50 g44 (Nat.le_of_ble_eq_true rfl)
                  refine lv_iload_n hx hb dL_panels__132 rfl (lv_at hl 3 rfl) ?_
                  refine lv_iload hx hb dL_panels__133 (lv_at hl 6 rfl) ?_
                  obtain ⟨CJ152, hCJ152⟩ : ∃ n : Nat, n = cx50 + 0 := ⟨_, rfl⟩
                  obtain ⟨SJ152, hSJ152⟩ : ∃ n : Nat, n = sx50 + 0 := ⟨_, rfl⟩
                  have hJ152 : ∀ (t0_152 : Int32) (H : Heap) (locs : List Loc) (ls : Array Slot) (cj152 sj152 : Nat), jL_panels__152 x3_20 x4_20 (fun x3_20 x4_20 => lL_panels__20 z v1 x2_7 (fun x3_20k => wL_firstPanel x2_7  z (fun r16 => (0 ≤ r16 → (((zv (s_panelMember z x2_7 ((0 : Int32))) [(-11), (-12), (-13)]) = (r16 / (36 : Int32)) → (((zv (s_panelMember z x2_7 ((1 : Int32))) [(-11), (-12), (-13)]) = ((r16 / (6 : Int32)) - (r16 / (6 : Int32)) / (6 : Int32) * (6 : Int32)) → (((zv (s_panelMember z x2_7 ((2 : Int32))) [(-11), (-12), (-13)]) = (r16 - r16 / (6 : Int32) * (6 : Int32)) → (jL_panels__245 z x2_7 x3_20k Q (fun x2_7 => lL_panels__7 z v1 Q (((zv (s_panelCount z ((nI (z.1 0)))) [(-11)]) = (-11 : Int32) → (((zv (s_panelCount z ((-1 : Int32))) [(-11)]) = (-11 : Int32) → (((zv (s_panelMember z ((nI (z.1 0))) ((3 : Int32))) [(-11), (-12), (-13)]) = (-11 : Int32) → (Q (1 : Int32))) ∧ (¬ (zv (s_panelMember z ((nI (z.1 0))) ((3 : Int32))) [(-11), (-12), (-13)]) = (-11 : Int32) → (Q (0 : Int32))))) ∧ (¬ (zv (s_panelCount z ((-1 : Int32))) [(-11)]) = (-11 : Int32) → (Q (0 : Int32))))) ∧ (¬ (zv (s_panelCount z ((nI (z.1 0)))) [(-11)]) = (-11 : Int32) → (Q (0 : Int32)))) n7 x2_7) (1 : Int32))) ∧ (¬ (zv (s_panelMember z x2_7 ((2 : Int32))) [(-11), (-12), (-13)]) = (r16 - r16 / (6 : Int32) * (6 : Int32)) → (jL_panels__245 z x2_7 x3_20k Q (fun x2_7 => lL_panels__7 z v1 Q (((zv (s_panelCount z ((nI (z.1 0)))) [(-11)]) = (-11 : Int32) → (((zv (s_panelCount z ((-1 : Int32))) [(-11)]) = (-11 : Int32) → (((zv (s_panelMember z ((nI (z.1 0))) ((3 : Int32))) [(-11), (-12), (-13)]) = (-11 : Int32) → (Q (1 : Int32))) ∧ (¬ (zv (s_panelMember z ((nI (z.1 0))) ((3 : Int32))) [(-11), (-12), (-13)]) = (-11 : Int32) → (Q (0 : Int32))))) ∧ (¬ (zv (s_panelCount z ((-1 : Int32))) [(-11)]) = (-11 : Int32) → (Q (0 : Int32))))) ∧ (¬ (zv (s_panelCount z ((nI (z.1 0)))) [(-11)]) = (-11 : Int32) → (Q (0 : Int32)))) n7 x2_7) (0 : Int32))))) ∧ (¬ (zv (s_panelMember z x2_7 ((1 : Int32))) [(-11), (-12), (-13)]) = ((r16 / (6 : Int32)) - (r16 / (6 : Int32)) / (6 : Int32) * (6 : Int32)) → (jL_panels__245 z x2_7 x3_20k Q (fun x2_7 => lL_panels__7 z v1 Q (((zv (s_panelCount z ((nI (z.1 0)))) [(-11)]) = (-11 : Int32) → (((zv (s_panelCount z ((-1 : Int32))) [(-11)]) = (-11 : Int32) → (((zv (s_panelMember z ((nI (z.1 0))) ((3 : Int32))) [(-11), (-12), (-13)]) = (-11 : Int32) → (Q (1 : Int32))) ∧ (¬ (zv (s_panelMember z ((nI (z.1 0))) ((3 : Int32))) [(-11), (-12), (-13)]) = (-11 : Int32) → (Q (0 : Int32))))) ∧ (¬ (zv (s_panelCount z ((-1 : Int32))) [(-11)]) = (-11 : Int32) → (Q (0 : Int32))))) ∧ (¬ (zv (s_panelCount z ((nI (z.1 0)))) [(-11)]) = (-11 : Int32) → (Q (0 : Int32)))) n7 x2_7) (0 : Int32))))) ∧ (¬ (zv (s_panelMember z x2_7 ((0 : Int32))) [(-11), (-12), (-13)]) = (r16 / (36 : Int32)) → (jL_panels__245 z x2_7 x3_20k Q (fun x2_7 => lL_panels__7 z v1 Q (((zv (s_panelCount z ((nI (z.1 0)))) [(-11)]) = (-11 : Int32) → (((zv (s_panelCount z ((-1 : Int32))) [(-11)]) = (-11 : Int32) → (((zv (s_panelMember z ((nI (z.1 0))) ((3 : Int32))) [(-11), (-12), (-13)]) = (-11 : Int32) → (Q (1 : Int32))) ∧ (¬ (zv (s_panelMember z ((nI (z.1 0))) ((3 : Int32))) [(-11), (-12), (-13)]) = (-11 : Int32) → (Q (0 : Int32))))) ∧ (¬ (zv (s_panelCount z ((-1 : Int32))) [(-11)]) = (-11 : Int32) → (Q (0 : Int32))))) ∧ (¬ (zv (s_panelCount z ((nI (z.1 0)))) [(-11)]) = (-11 : Int32) → (Q (0 : Int32)))) n7 x2_7) (0 : Int32))))) ∧ (¬ 0 ≤ r16 → (((zv (s_panelMember z x2_7 ((0 : Int32))) [(-11), (-12), (-13)]) = (-13 : Int32) → ((x3_20k = 0 → (jL_panels__245 z x2_7 x3_20k Q (fun x2_7 => lL_panels__7 z v1 Q (((zv (s_panelCount z ((nI (z.1 0)))) [(-11)]) = (-11 : Int32) → (((zv (s_panelCount z ((-1 : Int32))) [(-11)]) = (-11 : Int32) → (((zv (s_panelMember z ((nI (z.1 0))) ((3 : Int32))) [(-11), (-12), (-13)]) = (-11 : Int32) → (Q (1 : Int32))) ∧ (¬ (zv (s_panelMember z ((nI (z.1 0))) ((3 : Int32))) [(-11), (-12), (-13)]) = (-11 : Int32) → (Q (0 : Int32))))) ∧ (¬ (zv (s_panelCount z ((-1 : Int32))) [(-11)]) = (-11 : Int32) → (Q (0 : Int32))))) ∧ (¬ (zv (s_panelCount z ((nI (z.1 0)))) [(-11)]) = (-11 : Int32) → (Q (0 : Int32)))) n7 x2_7) (1 : Int32))) ∧ (¬ x3_20k = 0 → (jL_panels__245 z x2_7 x3_20k Q (fun x2_7 => lL_panels__7 z v1 Q (((zv (s_panelCount z ((nI (z.1 0)))) [(-11)]) = (-11 : Int32) → (((zv (s_panelCount z ((-1 : Int32))) [(-11)]) = (-11 : Int32) → (((zv (s_panelMember z ((nI (z.1 0))) ((3 : Int32))) [(-11), (-12), (-13)]) = (-11 : Int32) → (Q (1 : Int32))) ∧ (¬ (zv (s_panelMember z ((nI (z.1 0))) ((3 : Int32))) [(-11), (-12), (-13)]) = (-11 : Int32) → (Q (0 : Int32))))) ∧ (¬ (zv (s_panelCount z ((-1 : Int32))) [(-11)]) = (-11 : Int32) → (Q (0 : Int32))))) ∧ (¬ (zv (s_panelCount z ((nI (z.1 0)))) [(-11)]) = (-11 : Int32) → (Q (0 : Int32)))) n7 x2_7) (0 : Int32))))) ∧ (¬ (zv (s_panelMember z x2_7 ((0 : Int32))) [(-11), (-12), (-13)]) = (-13 : Int32) → (jL_panels__245 z x2_7 x3_20k Q (fun x2_7 => lL_panels__7 z v1 Q (((zv (s_panelCount z ((nI (z.1 0)))) [(-11)]) = (-11 : Int32) → (((zv (s_panelCount z ((-1 : Int32))) [(-11)]) = (-11 : Int32) → (((zv (s_panelMember z ((nI (z.1 0))) ((3 : Int32))) [(-11), (-12), (-13)]) = (-11 : Int32) → (Q (1 : Int32))) ∧ (¬ (zv (s_panelMember z ((nI (z.1 0))) ((3 : Int32))) [(-11), (-12), (-13)]) = (-11 : Int32) → (Q (0 : Int32))))) ∧ (¬ (zv (s_panelCount z ((-1 : Int32))) [(-11)]) = (-11 : Int32) → (Q (0 : Int32))))) ∧ (¬ (zv (s_panelCount z ((nI (z.1 0)))) [(-11)]) = (-11 : Int32) → (Q (0 : Int32)))) n7 x2_7) (0 : Int32))))))) n20 x3_20 x4_20) t0_152 → cj152 ≤ CJ152 → sj152 ≤ SJ152 → zl_Wd g [] z s H locs → lv_has ls 9 [(0, .ref (sw_ad g 0)), (1, .int v1), (2, .int x2_7), (4, .int x4_20)] → W p l e R s m args below meth c H locs cj152 sj152 Q0 (F0 m 152 ls [.int t0_152, .int x3_20]) := by
                    intro t0_152 H locs ls cj152 sj152 h hcj152 hsj152 hW hl
                    unfold jL_panels__152 at h
                    have g49 : cj152 + 6192 ≤ R.cells := zc8 (x := cx50) (D := 0) (s := 6192) (s' := 6192) hcj152 hCJ152 g45 (Nat.le_of_ble_eq_true rfl)
                    have g50 : cj152 + 0 ≤ Tcn20 := zc8 (x := cx50) (D := 0) (s := 0) (s' := 0) hcj152 hCJ152 g46 (Nat.le_of_ble_eq_true rfl)
                    have g51 : sj152 + 37152 ≤ R.slots := zc8 (x := sx50) (D := 0) (s := 37152) (s' := 37152) hsj152 hSJ152 g47 (Nat.le_of_ble_eq_true rfl)
                    have g52 : sj152 + 0 ≤ Tsn20 := zc8 (x := sx50) (D := 0) (s := 0) (s' := 0) hsj152 hSJ152 g48 (Nat.le_of_ble_eq_true rfl)
                    refine lv_iadd hx hb dL_panels__152 ?_
                    refine lv_topi (fun v53 ev53 => ?_)
                    replace h := h v53 ev53
                    refine lv_istore_n (lv' := [(3, .int v53), (0, .ref (sw_ad g 0)), (1, .int v1), (2, .int x2_7), (4, .int x4_20)]) hx hb dL_panels__153 rfl hl (Nat.le_of_ble_eq_true rfl) rfl (fun ls hl => ?_)
                    obtain ⟨v54, ev54⟩ : ∃ z : Int32, z = x4_20 + (1 : Int32) := ⟨_, rfl⟩
                    replace h := h v54 ev54
                    refine lv_iinc (v := v54) (lv' := [(4, .int v54), (3, .int v53), (0, .ref (sw_ad g 0)), (1, .int v1), (2, .int x2_7)]) hx hb dL_panels__154 hl (k := 4) rfl (by rw [ev54]; rfl) (Nat.le_of_ble_eq_true rfl) rfl (fun ls hl => ?_)
                    refine lv_goto (tgt := 20) hx hb dL_panels__157 (by decide) ?_
                    exact ih20 v53 v54 _ _ _ _ _ h (zc10 (zc1 (D := 0) g50 (Nat.le_of_ble_eq_true rfl)) hTcn20 hcn20) (zc10 (zc1 (D := 0) g52 (Nat.le_of_ble_eq_true rfl)) hTsn20 hsn20) hW (lv_sub hl [2, 3, 4, 1, 0] rfl)
                  have g55 : cx50 + 0 ≤ CJ152 := Nat.le_of_eq hCJ152.symm
                  have g56 : sx50 + 0 ≤ SJ152 := Nat.le_of_eq hSJ152.symm
                  refine lv_if_eq (tgt := 151) hx hb dL_panels__135 (by decide) (fun k57 => ?_) (fun k57 => ?_)
                  · replace h := h.1 k57
                    refine lv_iconst (v := 0) hx hb dL_panels__151 (by decide) ?_
                    exact hJ152 (0 : Int32) _ _ _ _ _ h (zc1 (D := 0) g55 (Nat.le_of_ble_eq_true rfl)) (zc1 (D := 0) g56 (Nat.le_of_ble_eq_true rfl)) hW (lv_sub hl [0, 1, 2, 4] rfl)
                  · replace h := h.2 k57
                    refine lv_iload hx hb dL_panels__138 (lv_at hl 5 rfl) ?_
                    refine zl_ki (g := g) (rest := [.int x3_20]) (zl_runS (g := g) (As := [.int x5_50k]) (rest := [.int x3_20]) hx hb hml hown hts (zJ_bitCount l (zl_re g H.size) x5_50k z _ h) cs_J6_bitCount_0f7a4 q_662 rfl rfl ⟨by rw [hRf]; exact (Nat.le_of_ble_eq_true rfl), by rw [hRl]; exact (Nat.le_of_ble_eq_true rfl)⟩ hW rfl hl.1 rfl (Nat.le_of_ble_eq_true rfl) dL_panels__140 ⟨(zc1 (D := 0) g45 (Nat.le_of_ble_eq_true rfl)), (zc1 (D := 0) g47 (Nat.le_of_ble_eq_true rfl))⟩) hW (fun r58 z9 H locs h hW => ?_)
                    obtain ⟨h, e9⟩ := h
                    rw [e9] at hW
                    refine lv_iconst (v := 3) hx hb dL_panels__143 (by decide) ?_
                    refine lv_icmp_ne (tgt := 151) hx hb dL_panels__144 (by decide) (fun k59 => ?_) (fun k59 => ?_)
                    · replace h := h.2 k59
                      refine lv_iconst (v := 0) hx hb dL_panels__151 (by decide) ?_
                      exact hJ152 (0 : Int32) _ _ _ _ _ h (zc1 (D := 0) g55 (Nat.le_of_ble_eq_true rfl)) (zc1 (D := 0) g56 (Nat.le_of_ble_eq_true rfl)) hW (lv_sub hl [0, 1, 2, 4] rfl)
                    · replace h := h.1 k59
                      refine lv_iconst (v := 1) hx hb dL_panels__147 (by decide) ?_
                      refine lv_goto (tgt := 152) hx hb dL_panels__148 (by decide) ?_
                      exact hJ152 (1 : Int32) _ _ _ _ _ h (zc1 (D := 0) g55 (Nat.le_of_ble_eq_true rfl)) (zc1 (D := 0) g56 (Nat.le_of_ble_eq_true rfl)) hW (lv_sub hl [0, 1, 2, 4] rfl)
                have key50 : ∀ (n50 : Nat) (x5_50 : Int32) (x6_50 : Int32) (x7_50 : Int32)  (H : Heap) (locs : List Loc) (ls : Array Slot) (cn50 sn50 : Nat), lL_panels__50 z v1 x2_7 x4_20 (fun x5_50k x6_50k => (x6_50k = 0 → (jL_panels__152 x3_20 x4_20 (fun x3_20 x4_20 => lL_panels__20 z v1 x2_7 (fun x3_20k => wL_firstPanel x2_7  z (fun r16 => (0 ≤ r16 → (((zv (s_panelMember z x2_7 ((0 : Int32))) [(-11), (-12), (-13)]) = (r16 / (36 : Int32)) → (((zv (s_panelMember z x2_7 ((1 : Int32))) [(-11), (-12), (-13)]) = ((r16 / (6 : Int32)) - (r16 / (6 : Int32)) / (6 : Int32) * (6 : Int32)) → (((zv (s_panelMember z x2_7 ((2 : Int32))) [(-11), (-12), (-13)]) = (r16 - r16 / (6 : Int32) * (6 : Int32)) → (jL_panels__245 z x2_7 x3_20k Q (fun x2_7 => lL_panels__7 z v1 Q (((zv (s_panelCount z ((nI (z.1 0)))) [(-11)]) = (-11 : Int32) → (((zv (s_panelCount z ((-1 : Int32))) [(-11)]) = (-11 : Int32) → (((zv (s_panelMember z ((nI (z.1 0))) ((3 : Int32))) [(-11), (-12), (-13)]) = (-11 : Int32) → (Q (1 : Int32))) ∧ (¬ (zv (s_panelMember z ((nI (z.1 0))) ((3 : Int32))) [(-11), (-12), (-13)]) = (-11 : Int32) → (Q (0 : Int32))))) ∧ (¬ (zv (s_panelCount z ((-1 : Int32))) [(-11)]) = (-11 : Int32) → (Q (0 : Int32))))) ∧ (¬ (zv (s_panelCount z ((nI (z.1 0)))) [(-11)]) = (-11 : Int32) → (Q (0 : Int32)))) n7 x2_7) (1 : Int32))) ∧ (¬ (zv (s_panelMember z x2_7 ((2 : Int32))) [(-11), (-12), (-13)]) = (r16 - r16 / (6 : Int32) * (6 : Int32)) → (jL_panels__245 z x2_7 x3_20k Q (fun x2_7 => lL_panels__7 z v1 Q (((zv (s_panelCount z ((nI (z.1 0)))) [(-11)]) = (-11 : Int32) → (((zv (s_panelCount z ((-1 : Int32))) [(-11)]) = (-11 : Int32) → (((zv (s_panelMember z ((nI (z.1 0))) ((3 : Int32))) [(-11), (-12), (-13)]) = (-11 : Int32) → (Q (1 : Int32))) ∧ (¬ (zv (s_panelMember z ((nI (z.1 0))) ((3 : Int32))) [(-11), (-12), (-13)]) = (-11 : Int32) → (Q (0 : Int32))))) ∧ (¬ (zv (s_panelCount z ((-1 : Int32))) [(-11)]) = (-11 : Int32) → (Q (0 : Int32))))) ∧ (¬ (zv (s_panelCount z ((nI (z.1 0)))) [(-11)]) = (-11 : Int32) → (Q (0 : Int32)))) n7 x2_7) (0 : Int32))))) ∧ (¬ (zv (s_panelMember z x2_7 ((1 : Int32))) [(-11), (-12), (-13)]) = ((r16 / (6 : Int32)) - (r16 / (6 : Int32)) / (6 : Int32) * (6 : Int32)) → (jL_panels__245 z x2_7 x3_20k Q (fun x2_7 => lL_panels__7 z v1 Q (((zv (s_panelCount z ((nI (z.1 0)))) [(-11)]) = (-11 : Int32) → (((zv (s_panelCount z ((-1 : Int32))) [(-11)]) = (-11 : Int32) → (((zv (s_panelMember z ((nI (z.1 0))) ((3 : Int32))) [(-11), (-12), (-13)]) = (-11 : Int32) → (Q (1 : Int32))) ∧ (¬ (zv (s_panelMember z ((nI (z.1 0))) ((3 : Int32))) [(-11), (-12), (-13)]) = (-11 : Int32) → (Q (0 : Int32))))) ∧ (¬ (zv (s_panelCount z ((-1 : Int32))) [(-11)]) = (-11 : Int32) → (Q (0 : Int32))))) ∧ (¬ (zv (s_panelCount z ((nI (z.1 0)))) [(-11)]) = (-11 : Int32) → (Q (0 : Int32)))) n7 x2_7) (0 : Int32))))) ∧ (¬ (zv (s_panelMember z x2_7 ((0 : Int32))) [(-11), (-12), (-13)]) = (r16 / (36 : Int32)) → (jL_panels__245 z x2_7 x3_20k Q (fun x2_7 => lL_panels__7 z v1 Q (((zv (s_panelCount z ((nI (z.1 0)))) [(-11)]) = (-11 : Int32) → (((zv (s_panelCount z ((-1 : Int32))) [(-11)]) = (-11 : Int32) → (((zv (s_panelMember z ((nI (z.1 0))) ((3 : Int32))) [(-11), (-12), (-13)]) = (-11 : Int32) → (Q (1 : Int32))) ∧ (¬ (zv (s_panelMember z ((nI (z.1 0))) ((3 : Int32))) [(-11), (-12), (-13)]) = (-11 : Int32) → (Q (0 : Int32))))) ∧ (¬ (zv (s_panelCount z ((-1 : Int32))) [(-11)]) = (-11 : Int32) → (Q (0 : Int32))))) ∧ (¬ (zv (s_panelCount z ((nI (z.1 0)))) [(-11)]) = (-11 : Int32) → (Q (0 : Int32)))) n7 x2_7) (0 : Int32))))) ∧ (¬ 0 ≤ r16 → (((zv (s_panelMember z x2_7 ((0 : Int32))) [(-11), (-12), (-13)]) = (-13 : Int32) → ((x3_20k = 0 → (jL_panels__245 z x2_7 x3_20k Q (fun x2_7 => lL_panels__7 z v1 Q (((zv (s_panelCount z ((nI (z.1 0)))) [(-11)]) = (-11 : Int32) → (((zv (s_panelCount z ((-1 : Int32))) [(-11)]) = (-11 : Int32) → (((zv (s_panelMember z ((nI (z.1 0))) ((3 : Int32))) [(-11), (-12), (-13)]) = (-11 : Int32) → (Q (1 : Int32))) ∧ (¬ (zv (s_panelMember z ((nI (z.1 0))) ((3 : Int32))) [(-11), (-12), (-13)]) = (-11 : Int32) → (Q (0 : Int32))))) ∧ (¬ (zv (s_panelCount z ((-1 : Int32))) [(-11)]) = (-11 : Int32) → (Q (0 : Int32))))) ∧ (¬ (zv (s_panelCount z ((nI (z.1 0)))) [(-11)]) = (-11 : Int32) → (Q (0 : Int32)))) n7 x2_7) (1 : Int32))) ∧ (¬ x3_20k = 0 → (jL_panels__245 z x2_7 x3_20k Q (fun x2_7 => lL_panels__7 z v1 Q (((zv (s_panelCount z ((nI (z.1 0)))) [(-11)]) = (-11 : Int32) → (((zv (s_panelCount z ((-1 : Int32))) [(-11)]) = (-11 : Int32) → (((zv (s_panelMember z ((nI (z.1 0))) ((3 : Int32))) [(-11), (-12), (-13)]) = (-11 : Int32) → (Q (1 : Int32))) ∧ (¬ (zv (s_panelMember z ((nI (z.1 0))) ((3 : Int32))) [(-11), (-12), (-13)]) = (-11 : Int32) → (Q (0 : Int32))))) ∧ (¬ (zv (s_panelCount z ((-1 : Int32))) [(-11)]) = (-11 : Int32) → (Q (0 : Int32))))) ∧ (¬ (zv (s_panelCount z ((nI (z.1 0)))) [(-11)]) = (-11 : Int32) → (Q (0 : Int32)))) n7 x2_7) (0 : Int32))))) ∧ (¬ (zv (s_panelMember z x2_7 ((0 : Int32))) [(-11), (-12), (-13)]) = (-13 : Int32) → (jL_panels__245 z x2_7 x3_20k Q (fun x2_7 => lL_panels__7 z v1 Q (((zv (s_panelCount z ((nI (z.1 0)))) [(-11)]) = (-11 : Int32) → (((zv (s_panelCount z ((-1 : Int32))) [(-11)]) = (-11 : Int32) → (((zv (s_panelMember z ((nI (z.1 0))) ((3 : Int32))) [(-11), (-12), (-13)]) = (-11 : Int32) → (Q (1 : Int32))) ∧ (¬ (zv (s_panelMember z ((nI (z.1 0))) ((3 : Int32))) [(-11), (-12), (-13)]) = (-11 : Int32) → (Q (0 : Int32))))) ∧ (¬ (zv (s_panelCount z ((-1 : Int32))) [(-11)]) = (-11 : Int32) → (Q (0 : Int32))))) ∧ (¬ (zv (s_panelCount z ((nI (z.1 0)))) [(-11)]) = (-11 : Int32) → (Q (0 : Int32)))) n7 x2_7) (0 : Int32))))))) n20 x3_20 x4_20) (0 : Int32))) ∧ (¬ x6_50k = 0 → (wJ6_bitCount_0f7a4 x5_50k (fun r58 => (r58 = (3 : Int32) → (jL_panels__152 x3_20 x4_20 (fun x3_20 x4_20 => lL_panels__20 z v1 x2_7 (fun x3_20k => wL_firstPanel x2_7  z (fun r16 => (0 ≤ r16 → (((zv (s_panelMember z x2_7 ((0 : Int32))) [(-11), (-12), (-13)]) = (r16 / (36 : Int32)) → (((zv (s_panelMember z x2_7 ((1 : Int32))) [(-11), (-12), (-13)]) = ((r16 / (6 : Int32)) - (r16 / (6 : Int32)) / (6 : Int32) * (6 : Int32)) → (((zv (s_panelMember z x2_7 ((2 : Int32))) [(-11), (-12), (-13)]) = (r16 - r16 / (6 : Int32) * (6 : Int32)) → (jL_panels__245 z x2_7 x3_20k Q (fun x2_7 => lL_panels__7 z v1 Q (((zv (s_panelCount z ((nI (z.1 0)))) [(-11)]) = (-11 : Int32) → (((zv (s_panelCount z ((-1 : Int32))) [(-11)]) = (-11 : Int32) → (((zv (s_panelMember z ((nI (z.1 0))) ((3 : Int32))) [(-11), (-12), (-13)]) = (-11 : Int32) → (Q (1 : Int32))) ∧ (¬ (zv (s_panelMember z ((nI (z.1 0))) ((3 : Int32))) [(-11), (-12), (-13)]) = (-11 : Int32) → (Q (0 : Int32))))) ∧ (¬ (zv (s_panelCount z ((-1 : Int32))) [(-11)]) = (-11 : Int32) → (Q (0 : Int32))))) ∧ (¬ (zv (s_panelCount z ((nI (z.1 0)))) [(-11)]) = (-11 : Int32) → (Q (0 : Int32)))) n7 x2_7) (1 : Int32))) ∧ (¬ (zv (s_panelMember z x2_7 ((2 : Int32))) [(-11), (-12), (-13)]) = (r16 - r16 / (6 : Int32) * (6 : Int32)) → (jL_panels__245 z x2_7 x3_20k Q (fun x2_7 => lL_panels__7 z v1 Q (((zv (s_panelCount z ((nI (z.1 0)))) [(-11)]) = (-11 : Int32) → (((zv (s_panelCount z ((-1 : Int32))) [(-11)]) = (-11 : Int32) → (((zv (s_panelMember z ((nI (z.1 0))) ((3 : Int32))) [(-11), (-12), (-13)]) = (-11 : Int32) → (Q (1 : Int32))) ∧ (¬ (zv (s_panelMember z ((nI (z.1 0))) ((3 : Int32))) [(-11), (-12), (-13)]) = (-11 : Int32) → (Q (0 : Int32))))) ∧ (¬ (zv (s_panelCount z ((-1 : Int32))) [(-11)]) = (-11 : Int32) → (Q (0 : Int32))))) ∧ (¬ (zv (s_panelCount z ((nI (z.1 0)))) [(-11)]) = (-11 : Int32) → (Q (0 : Int32)))) n7 x2_7) (0 : Int32))))) ∧ (¬ (zv (s_panelMember z x2_7 ((1 : Int32))) [(-11), (-12), (-13)]) = ((r16 / (6 : Int32)) - (r16 / (6 : Int32)) / (6 : Int32) * (6 : Int32)) → (jL_panels__245 z x2_7 x3_20k Q (fun x2_7 => lL_panels__7 z v1 Q (((zv (s_panelCount z ((nI (z.1 0)))) [(-11)]) = (-11 : Int32) → (((zv (s_panelCount z ((-1 : Int32))) [(-11)]) = (-11 : Int32) → (((zv (s_panelMember z ((nI (z.1 0))) ((3 : Int32))) [(-11), (-12), (-13)]) = (-11 : Int32) → (Q (1 : Int32))) ∧ (¬ (zv (s_panelMember z ((nI (z.1 0))) ((3 : Int32))) [(-11), (-12), (-13)]) = (-11 : Int32) → (Q (0 : Int32))))) ∧ (¬ (zv (s_panelCount z ((-1 : Int32))) [(-11)]) = (-11 : Int32) → (Q (0 : Int32))))) ∧ (¬ (zv (s_panelCount z ((nI (z.1 0)))) [(-11)]) = (-11 : Int32) → (Q (0 : Int32)))) n7 x2_7) (0 : Int32))))) ∧ (¬ (zv (s_panelMember z x2_7 ((0 : Int32))) [(-11), (-12), (-13)]) = (r16 / (36 : Int32)) → (jL_panels__245 z x2_7 x3_20k Q (fun x2_7 => lL_panels__7 z v1 Q (((zv (s_panelCount z ((nI (z.1 0)))) [(-11)]) = (-11 : Int32) → (((zv (s_panelCount z ((-1 : Int32))) [(-11)]) = (-11 : Int32) → (((zv (s_panelMember z ((nI (z.1 0))) ((3 : Int32))) [(-11), (-12), (-13)]) = (-11 : Int32) → (Q (1 : Int32))) ∧ (¬ (zv (s_panelMember z ((nI (z.1 0))) ((3 : Int32))) [(-11), (-12), (-13)]) = (-11 : Int32) → (Q (0 : Int32))))) ∧ (¬ (zv (s_panelCount z ((-1 : Int32))) [(-11)]) = (-11 : Int32) → (Q (0 : Int32))))) ∧ (¬ (zv (s_panelCount z ((nI (z.1 0)))) [(-11)]) = (-11 : Int32) → (Q (0 : Int32)))) n7 x2_7) (0 : Int32))))) ∧ (¬ 0 ≤ r16 → (((zv (s_panelMember z x2_7 ((0 : Int32))) [(-11), (-12), (-13)]) = (-13 : Int32) → ((x3_20k = 0 → (jL_panels__245 z x2_7 x3_20k Q (fun x2_7 => lL_panels__7 z v1 Q (((zv (s_panelCount z ((nI (z.1 0)))) [(-11)]) = (-11 : Int32) → (((zv (s_panelCount z ((-1 : Int32))) [(-11)]) = (-11 : Int32) → (((zv (s_panelMember z ((nI (z.1 0))) ((3 : Int32))) [(-11), (-12), (-13)]) = (-11 : Int32) → (Q (1 : Int32))) ∧ (¬ (zv (s_panelMember z ((nI (z.1 0))) ((3 : Int32))) [(-11), (-12), (-13)]) = (-11 : Int32) → (Q (0 : Int32))))) ∧ (¬ (zv (s_panelCount z ((-1 : Int32))) [(-11)]) = (-11 : Int32) → (Q (0 : Int32))))) ∧ (¬ (zv (s_panelCount z ((nI (z.1 0)))) [(-11)]) = (-11 : Int32) → (Q (0 : Int32)))) n7 x2_7) (1 : Int32))) ∧ (¬ x3_20k = 0 → (jL_panels__245 z x2_7 x3_20k Q (fun x2_7 => lL_panels__7 z v1 Q (((zv (s_panelCount z ((nI (z.1 0)))) [(-11)]) = (-11 : Int32) → (((zv (s_panelCount z ((-1 : Int32))) [(-11)]) = (-11 : Int32) → (((zv (s_panelMember z ((nI (z.1 0))) ((3 : Int32))) [(-11), (-12), (-13)]) = (-11 : Int32) → (Q (1 : Int32))) ∧ (¬ (zv (s_panelMember z ((nI (z.1 0))) ((3 : Int32))) [(-11), (-12), (-13)]) = (-11 : Int32) → (Q (0 : Int32))))) ∧ (¬ (zv (s_panelCount z ((-1 : Int32))) [(-11)]) = (-11 : Int32) → (Q (0 : Int32))))) ∧ (¬ (zv (s_panelCount z ((nI (z.1 0)))) [(-11)]) = (-11 : Int32) → (Q (0 : Int32)))) n7 x2_7) (0 : Int32))))) ∧ (¬ (zv (s_panelMember z x2_7 ((0 : Int32))) [(-11), (-12), (-13)]) = (-13 : Int32) → (jL_panels__245 z x2_7 x3_20k Q (fun x2_7 => lL_panels__7 z v1 Q (((zv (s_panelCount z ((nI (z.1 0)))) [(-11)]) = (-11 : Int32) → (((zv (s_panelCount z ((-1 : Int32))) [(-11)]) = (-11 : Int32) → (((zv (s_panelMember z ((nI (z.1 0))) ((3 : Int32))) [(-11), (-12), (-13)]) = (-11 : Int32) → (Q (1 : Int32))) ∧ (¬ (zv (s_panelMember z ((nI (z.1 0))) ((3 : Int32))) [(-11), (-12), (-13)]) = (-11 : Int32) → (Q (0 : Int32))))) ∧ (¬ (zv (s_panelCount z ((-1 : Int32))) [(-11)]) = (-11 : Int32) → (Q (0 : Int32))))) ∧ (¬ (zv (s_panelCount z ((nI (z.1 0)))) [(-11)]) = (-11 : Int32) → (Q (0 : Int32)))) n7 x2_7) (0 : Int32))))))) n20 x3_20 x4_20) (1 : Int32))) ∧ (¬ r58 = (3 : Int32) → (jL_panels__152 x3_20 x4_20 (fun x3_20 x4_20 => lL_panels__20 z v1 x2_7 (fun x3_20k => wL_firstPanel x2_7  z (fun r16 => (0 ≤ r16 → (((zv (s_panelMember z x2_7 ((0 : Int32))) [(-11), (-12), (-13)]) = (r16 / (36 : Int32)) → (((zv (s_panelMember z x2_7 ((1 : Int32))) [(-11), (-12), (-13)]) = ((r16 / (6 : Int32)) - (r16 / (6 : Int32)) / (6 : Int32) * (6 : Int32)) → (((zv (s_panelMember z x2_7 ((2 : Int32))) [(-11), (-12), (-13)]) = (r16 - r16 / (6 : Int32) * (6 : Int32)) → (jL_panels__245 z x2_7 x3_20k Q (fun x2_7 => lL_panels__7 z v1 Q (((zv (s_panelCount z ((nI (z.1 0)))) [(-11)]) = (-11 : Int32) → (((zv (s_panelCount z ((-1 : Int32))) [(-11)]) = (-11 : Int32) → (((zv (s_panelMember z ((nI (z.1 0))) ((3 : Int32))) [(-11), (-12), (-13)]) = (-11 : Int32) → (Q (1 : Int32))) ∧ (¬ (zv (s_panelMember z ((nI (z.1 0))) ((3 : Int32))) [(-11), (-12), (-13)]) = (-11 : Int32) → (Q (0 : Int32))))) ∧ (¬ (zv (s_panelCount z ((-1 : Int32))) [(-11)]) = (-11 : Int32) → (Q (0 : Int32))))) ∧ (¬ (zv (s_panelCount z ((nI (z.1 0)))) [(-11)]) = (-11 : Int32) → (Q (0 : Int32)))) n7 x2_7) (1 : Int32))) ∧ (¬ (zv (s_panelMember z x2_7 ((2 : Int32))) [(-11), (-12), (-13)]) = (r16 - r16 / (6 : Int32) * (6 : Int32)) → (jL_panels__245 z x2_7 x3_20k Q (fun x2_7 => lL_panels__7 z v1 Q (((zv (s_panelCount z ((nI (z.1 0)))) [(-11)]) = (-11 : Int32) → (((zv (s_panelCount z ((-1 : Int32))) [(-11)]) = (-11 : Int32) → (((zv (s_panelMember z ((nI (z.1 0))) ((3 : Int32))) [(-11), (-12), (-13)]) = (-11 : Int32) → (Q (1 : Int32))) ∧ (¬ (zv (s_panelMember z ((nI (z.1 0))) ((3 : Int32))) [(-11), (-12), (-13)]) = (-11 : Int32) → (Q (0 : Int32))))) ∧ (¬ (zv (s_panelCount z ((-1 : Int32))) [(-11)]) = (-11 : Int32) → (Q (0 : Int32))))) ∧ (¬ (zv (s_panelCount z ((nI (z.1 0)))) [(-11)]) = (-11 : Int32) → (Q (0 : Int32)))) n7 x2_7) (0 : Int32))))) ∧ (¬ (zv (s_panelMember z x2_7 ((1 : Int32))) [(-11), (-12), (-13)]) = ((r16 / (6 : Int32)) - (r16 / (6 : Int32)) / (6 : Int32) * (6 : Int32)) → (jL_panels__245 z x2_7 x3_20k Q (fun x2_7 => lL_panels__7 z v1 Q (((zv (s_panelCount z ((nI (z.1 0)))) [(-11)]) = (-11 : Int32) → (((zv (s_panelCount z ((-1 : Int32))) [(-11)]) = (-11 : Int32) → (((zv (s_panelMember z ((nI (z.1 0))) ((3 : Int32))) [(-11), (-12), (-13)]) = (-11 : Int32) → (Q (1 : Int32))) ∧ (¬ (zv (s_panelMember z ((nI (z.1 0))) ((3 : Int32))) [(-11), (-12), (-13)]) = (-11 : Int32) → (Q (0 : Int32))))) ∧ (¬ (zv (s_panelCount z ((-1 : Int32))) [(-11)]) = (-11 : Int32) → (Q (0 : Int32))))) ∧ (¬ (zv (s_panelCount z ((nI (z.1 0)))) [(-11)]) = (-11 : Int32) → (Q (0 : Int32)))) n7 x2_7) (0 : Int32))))) ∧ (¬ (zv (s_panelMember z x2_7 ((0 : Int32))) [(-11), (-12), (-13)]) = (r16 / (36 : Int32)) → (jL_panels__245 z x2_7 x3_20k Q (fun x2_7 => lL_panels__7 z v1 Q (((zv (s_panelCount z ((nI (z.1 0)))) [(-11)]) = (-11 : Int32) → (((zv (s_panelCount z ((-1 : Int32))) [(-11)]) = (-11 : Int32) → (((zv (s_panelMember z ((nI (z.1 0))) ((3 : Int32))) [(-11), (-12), (-13)]) = (-11 : Int32) → (Q (1 : Int32))) ∧ (¬ (zv (s_panelMember z ((nI (z.1 0))) ((3 : Int32))) [(-11), (-12), (-13)]) = (-11 : Int32) → (Q (0 : Int32))))) ∧ (¬ (zv (s_panelCount z ((-1 : Int32))) [(-11)]) = (-11 : Int32) → (Q (0 : Int32))))) ∧ (¬ (zv (s_panelCount z ((nI (z.1 0)))) [(-11)]) = (-11 : Int32) → (Q (0 : Int32)))) n7 x2_7) (0 : Int32))))) ∧ (¬ 0 ≤ r16 → (((zv (s_panelMember z x2_7 ((0 : Int32))) [(-11), (-12), (-13)]) = (-13 : Int32) → ((x3_20k = 0 → (jL_panels__245 z x2_7 x3_20k Q (fun x2_7 => lL_panels__7 z v1 Q (((zv (s_panelCount z ((nI (z.1 0)))) [(-11)]) = (-11 : Int32) → (((zv (s_panelCount z ((-1 : Int32))) [(-11)]) = (-11 : Int32) → (((zv (s_panelMember z ((nI (z.1 0))) ((3 : Int32))) [(-11), (-12), (-13)]) = (-11 : Int32) → (Q (1 : Int32))) ∧ (¬ (zv (s_panelMember z ((nI (z.1 0))) ((3 : Int32))) [(-11), (-12), (-13)]) = (-11 : Int32) → (Q (0 : Int32))))) ∧ (¬ (zv (s_panelCount z ((-1 : Int32))) [(-11)]) = (-11 : Int32) → (Q (0 : Int32))))) ∧ (¬ (zv (s_panelCount z ((nI (z.1 0)))) [(-11)]) = (-11 : Int32) → (Q (0 : Int32)))) n7 x2_7) (1 : Int32))) ∧ (¬ x3_20k = 0 → (jL_panels__245 z x2_7 x3_20k Q (fun x2_7 => lL_panels__7 z v1 Q (((zv (s_panelCount z ((nI (z.1 0)))) [(-11)]) = (-11 : Int32) → (((zv (s_panelCount z ((-1 : Int32))) [(-11)]) = (-11 : Int32) → (((zv (s_panelMember z ((nI (z.1 0))) ((3 : Int32))) [(-11), (-12), (-13)]) = (-11 : Int32) → (Q (1 : Int32))) ∧ (¬ (zv (s_panelMember z ((nI (z.1 0))) ((3 : Int32))) [(-11), (-12), (-13)]) = (-11 : Int32) → (Q (0 : Int32))))) ∧ (¬ (zv (s_panelCount z ((-1 : Int32))) [(-11)]) = (-11 : Int32) → (Q (0 : Int32))))) ∧ (¬ (zv (s_panelCount z ((nI (z.1 0)))) [(-11)]) = (-11 : Int32) → (Q (0 : Int32)))) n7 x2_7) (0 : Int32))))) ∧ (¬ (zv (s_panelMember z x2_7 ((0 : Int32))) [(-11), (-12), (-13)]) = (-13 : Int32) → (jL_panels__245 z x2_7 x3_20k Q (fun x2_7 => lL_panels__7 z v1 Q (((zv (s_panelCount z ((nI (z.1 0)))) [(-11)]) = (-11 : Int32) → (((zv (s_panelCount z ((-1 : Int32))) [(-11)]) = (-11 : Int32) → (((zv (s_panelMember z ((nI (z.1 0))) ((3 : Int32))) [(-11), (-12), (-13)]) = (-11 : Int32) → (Q (1 : Int32))) ∧ (¬ (zv (s_panelMember z ((nI (z.1 0))) ((3 : Int32))) [(-11), (-12), (-13)]) = (-11 : Int32) → (Q (0 : Int32))))) ∧ (¬ (zv (s_panelCount z ((-1 : Int32))) [(-11)]) = (-11 : Int32) → (Q (0 : Int32))))) ∧ (¬ (zv (s_panelCount z ((nI (z.1 0)))) [(-11)]) = (-11 : Int32) → (Q (0 : Int32)))) n7 x2_7) (0 : Int32))))))) n20 x3_20 x4_20) (0 : Int32))))))) n50 x5_50 x6_50 x7_50 → cn50 + n50 * 5 ≤ CL50 → sn50 + n50 * 30 ≤ SL50 → zl_Wd g [] z s H locs → lv_has ls 9 [(0, .ref (sw_ad g 0)), (1, .int v1), (2, .int x2_7), (3, .int x3_20), (4, .int x4_20), (5, .int x5_50), (6, .int x6_50), (7, .int x7_50)] → W p l e R s m args below meth c H locs cn50 sn50 Q0 (F0 m 50 ls []) := by
                  intro n50
                  induction n50 with
                  | zero =>
                    intro x5_50 x6_50 x7_50  H locs ls cn50 sn50 h
                    exact False.elim h
                  | succ n50 ih50 =>
                    intro x5_50 x6_50 x7_50  H locs ls cn50 sn50 h hcn50 hsn50 hW hl
                    rw [lL_panels__50.eq_2] at h
                    obtain ⟨Tcn50, hTcn50⟩ : ∃ n : Nat, n = cn50 + 5 := ⟨_, rfl⟩
                    obtain ⟨Tsn50, hTsn50⟩ : ∃ n : Nat, n = sn50 + 30 := ⟨_, rfl⟩
                    have g60 : cn50 + 5 ≤ Tcn50 := Nat.le_of_eq hTcn50.symm
                    have g61 : sn50 + 30 ≤ Tsn50 := Nat.le_of_eq hTsn50.symm
                    have g62 : cn50 + 6197 ≤ R.cells := zc9 (x := cj45) (D := 35) (s := 6227) (t := 6197) hcn50 hCL50 g41 (Nat.le_of_ble_eq_true rfl)
                    have g63 : sn50 + 37182 ≤ R.slots := zc9 (x := sj45) (D := 210) (s := 37362) (t := 37182) hsn50 hSL50 g43 (Nat.le_of_ble_eq_true rfl)
                    refine lv_iload hx hb dL_panels__50 (lv_at hl 7 rfl) ?_
                    refine lv_iload_n hx hb dL_panels__52 rfl (lv_at hl 1 rfl) ?_
                    refine lv_icmp_ge (tgt := 132) hx hb dL_panels__53 (by decide) (fun k64 => ?_) (fun k64 => ?_)
                    · replace h := h.1 k64
                      exact hX50 x5_50 x6_50 _ _ _ _ _ h (zc11 (zc1 (D := 0) g60 (Nat.le_of_ble_eq_true rfl)) hTcn50 hcn50) (zc11 (zc1 (D := 0) g61 (Nat.le_of_ble_eq_true rfl)) hTsn50 hsn50) hW (lv_sub hl [0, 1, 2, 3, 4, 5, 6] rfl)
                    · replace h := h.2 k64
                      refine lv_iload hx hb dL_panels__56 (lv_at hl 4 rfl) ?_
                      refine lv_iload hx hb dL_panels__58 (lv_at hl 7 rfl) ?_
                      refine lv_ishr hx hb dL_panels__60 ?_
                      refine lv_iconst (v := 1) hx hb dL_panels__61 (by decide) ?_
                      refine lv_iand hx hb dL_panels__62 ?_
                      refine lv_iconst (v := 1) hx hb dL_panels__63 (by decide) ?_
                      obtain ⟨CJ72, hCJ72⟩ : ∃ n : Nat, n = cn50 + 0 := ⟨_, rfl⟩
                      obtain ⟨SJ72, hSJ72⟩ : ∃ n : Nat, n = sn50 + 0 := ⟨_, rfl⟩
                      have hJ72 : ∀ (t0_72 : Int32) (H : Heap) (locs : List Loc) (ls : Array Slot) (cj72 sj72 : Nat), jL_panels__72 z x2_7 x5_50 x6_50 x7_50 (fun x5_50 x6_50 x7_50 => lL_panels__50 z v1 x2_7 x4_20 (fun x5_50k x6_50k => (x6_50k = 0 → (jL_panels__152 x3_20 x4_20 (fun x3_20 x4_20 => lL_panels__20 z v1 x2_7 (fun x3_20k => wL_firstPanel x2_7  z (fun r16 => (0 ≤ r16 → (((zv (s_panelMember z x2_7 ((0 : Int32))) [(-11), (-12), (-13)]) = (r16 / (36 : Int32)) → (((zv (s_panelMember z x2_7 ((1 : Int32))) [(-11), (-12), (-13)]) = ((r16 / (6 : Int32)) - (r16 / (6 : Int32)) / (6 : Int32) * (6 : Int32)) → (((zv (s_panelMember z x2_7 ((2 : Int32))) [(-11), (-12), (-13)]) = (r16 - r16 / (6 : Int32) * (6 : Int32)) → (jL_panels__245 z x2_7 x3_20k Q (fun x2_7 => lL_panels__7 z v1 Q (((zv (s_panelCount z ((nI (z.1 0)))) [(-11)]) = (-11 : Int32) → (((zv (s_panelCount z ((-1 : Int32))) [(-11)]) = (-11 : Int32) → (((zv (s_panelMember z ((nI (z.1 0))) ((3 : Int32))) [(-11), (-12), (-13)]) = (-11 : Int32) → (Q (1 : Int32))) ∧ (¬ (zv (s_panelMember z ((nI (z.1 0))) ((3 : Int32))) [(-11), (-12), (-13)]) = (-11 : Int32) → (Q (0 : Int32))))) ∧ (¬ (zv (s_panelCount z ((-1 : Int32))) [(-11)]) = (-11 : Int32) → (Q (0 : Int32))))) ∧ (¬ (zv (s_panelCount z ((nI (z.1 0)))) [(-11)]) = (-11 : Int32) → (Q (0 : Int32)))) n7 x2_7) (1 : Int32))) ∧ (¬ (zv (s_panelMember z x2_7 ((2 : Int32))) [(-11), (-12), (-13)]) = (r16 - r16 / (6 : Int32) * (6 : Int32)) → (jL_panels__245 z x2_7 x3_20k Q (fun x2_7 => lL_panels__7 z v1 Q (((zv (s_panelCount z ((nI (z.1 0)))) [(-11)]) = (-11 : Int32) → (((zv (s_panelCount z ((-1 : Int32))) [(-11)]) = (-11 : Int32) → (((zv (s_panelMember z ((nI (z.1 0))) ((3 : Int32))) [(-11), (-12), (-13)]) = (-11 : Int32) → (Q (1 : Int32))) ∧ (¬ (zv (s_panelMember z ((nI (z.1 0))) ((3 : Int32))) [(-11), (-12), (-13)]) = (-11 : Int32) → (Q (0 : Int32))))) ∧ (¬ (zv (s_panelCount z ((-1 : Int32))) [(-11)]) = (-11 : Int32) → (Q (0 : Int32))))) ∧ (¬ (zv (s_panelCount z ((nI (z.1 0)))) [(-11)]) = (-11 : Int32) → (Q (0 : Int32)))) n7 x2_7) (0 : Int32))))) ∧ (¬ (zv (s_panelMember z x2_7 ((1 : Int32))) [(-11), (-12), (-13)]) = ((r16 / (6 : Int32)) - (r16 / (6 : Int32)) / (6 : Int32) * (6 : Int32)) → (jL_panels__245 z x2_7 x3_20k Q (fun x2_7 => lL_panels__7 z v1 Q (((zv (s_panelCount z ((nI (z.1 0)))) [(-11)]) = (-11 : Int32) → (((zv (s_panelCount z ((-1 : Int32))) [(-11)]) = (-11 : Int32) → (((zv (s_panelMember z ((nI (z.1 0))) ((3 : Int32))) [(-11), (-12), (-13)]) = (-11 : Int32) → (Q (1 : Int32))) ∧ (¬ (zv (s_panelMember z ((nI (z.1 0))) ((3 : Int32))) [(-11), (-12), (-13)]) = (-11 : Int32) → (Q (0 : Int32))))) ∧ (¬ (zv (s_panelCount z ((-1 : Int32))) [(-11)]) = (-11 : Int32) → (Q (0 : Int32))))) ∧ (¬ (zv (s_panelCount z ((nI (z.1 0)))) [(-11)]) = (-11 : Int32) → (Q (0 : Int32)))) n7 x2_7) (0 : Int32))))) ∧ (¬ (zv (s_panelMember z x2_7 ((0 : Int32))) [(-11), (-12), (-13)]) = (r16 / (36 : Int32)) → (jL_panels__245 z x2_7 x3_20k Q (fun x2_7 => lL_panels__7 z v1 Q (((zv (s_panelCount z ((nI (z.1 0)))) [(-11)]) = (-11 : Int32) → (((zv (s_panelCount z ((-1 : Int32))) [(-11)]) = (-11 : Int32) → (((zv (s_panelMember z ((nI (z.1 0))) ((3 : Int32))) [(-11), (-12), (-13)]) = (-11 : Int32) → (Q (1 : Int32))) ∧ (¬ (zv (s_panelMember z ((nI (z.1 0))) ((3 : Int32))) [(-11), (-12), (-13)]) = (-11 : Int32) → (Q (0 : Int32))))) ∧ (¬ (zv (s_panelCount z ((-1 : Int32))) [(-11)]) = (-11 : Int32) → (Q (0 : Int32))))) ∧ (¬ (zv (s_panelCount z ((nI (z.1 0)))) [(-11)]) = (-11 : Int32) → (Q (0 : Int32)))) n7 x2_7) (0 : Int32))))) ∧ (¬ 0 ≤ r16 → (((zv (s_panelMember z x2_7 ((0 : Int32))) [(-11), (-12), (-13)]) = (-13 : Int32) → ((x3_20k = 0 → (jL_panels__245 z x2_7 x3_20k Q (fun x2_7 => lL_panels__7 z v1 Q (((zv (s_panelCount z ((nI (z.1 0)))) [(-11)]) = (-11 : Int32) → (((zv (s_panelCount z ((-1 : Int32))) [(-11)]) = (-11 : Int32) → (((zv (s_panelMember z ((nI (z.1 0))) ((3 : Int32))) [(-11), (-12), (-13)]) = (-11 : Int32) → (Q (1 : Int32))) ∧ (¬ (zv (s_panelMember z ((nI (z.1 0))) ((3 : Int32))) [(-11), (-12), (-13)]) = (-11 : Int32) → (Q (0 : Int32))))) ∧ (¬ (zv (s_panelCount z ((-1 : Int32))) [(-11)]) = (-11 : Int32) → (Q (0 : Int32))))) ∧ (¬ (zv (s_panelCount z ((nI (z.1 0)))) [(-11)]) = (-11 : Int32) → (Q (0 : Int32)))) n7 x2_7) (1 : Int32))) ∧ (¬ x3_20k = 0 → (jL_panels__245 z x2_7 x3_20k Q (fun x2_7 => lL_panels__7 z v1 Q (((zv (s_panelCount z ((nI (z.1 0)))) [(-11)]) = (-11 : Int32) → (((zv (s_panelCount z ((-1 : Int32))) [(-11)]) = (-11 : Int32) → (((zv (s_panelMember z ((nI (z.1 0))) ((3 : Int32))) [(-11), (-12), (-13)]) = (-11 : Int32) → (Q (1 : Int32))) ∧ (¬ (zv (s_panelMember z ((nI (z.1 0))) ((3 : Int32))) [(-11), (-12), (-13)]) = (-11 : Int32) → (Q (0 : Int32))))) ∧ (¬ (zv (s_panelCount z ((-1 : Int32))) [(-11)]) = (-11 : Int32) → (Q (0 : Int32))))) ∧ (¬ (zv (s_panelCount z ((nI (z.1 0)))) [(-11)]) = (-11 : Int32) → (Q (0 : Int32)))) n7 x2_7) (0 : Int32))))) ∧ (¬ (zv (s_panelMember z x2_7 ((0 : Int32))) [(-11), (-12), (-13)]) = (-13 : Int32) → (jL_panels__245 z x2_7 x3_20k Q (fun x2_7 => lL_panels__7 z v1 Q (((zv (s_panelCount z ((nI (z.1 0)))) [(-11)]) = (-11 : Int32) → (((zv (s_panelCount z ((-1 : Int32))) [(-11)]) = (-11 : Int32) → (((zv (s_panelMember z ((nI (z.1 0))) ((3 : Int32))) [(-11), (-12), (-13)]) = (-11 : Int32) → (Q (1 : Int32))) ∧ (¬ (zv (s_panelMember z ((nI (z.1 0))) ((3 : Int32))) [(-11), (-12), (-13)]) = (-11 : Int32) → (Q (0 : Int32))))) ∧ (¬ (zv (s_panelCount z ((-1 : Int32))) [(-11)]) = (-11 : Int32) → (Q (0 : Int32))))) ∧ (¬ (zv (s_panelCount z ((nI (z.1 0)))) [(-11)]) = (-11 : Int32) → (Q (0 : Int32)))) n7 x2_7) (0 : Int32))))))) n20 x3_20 x4_20) (0 : Int32))) ∧ (¬ x6_50k = 0 → (wJ6_bitCount_0f7a4 x5_50k (fun r58 => (r58 = (3 : Int32) → (jL_panels__152 x3_20 x4_20 (fun x3_20 x4_20 => lL_panels__20 z v1 x2_7 (fun x3_20k => wL_firstPanel x2_7  z (fun r16 => (0 ≤ r16 → (((zv (s_panelMember z x2_7 ((0 : Int32))) [(-11), (-12), (-13)]) = (r16 / (36 : Int32)) → (((zv (s_panelMember z x2_7 ((1 : Int32))) [(-11), (-12), (-13)]) = ((r16 / (6 : Int32)) - (r16 / (6 : Int32)) / (6 : Int32) * (6 : Int32)) → (((zv (s_panelMember z x2_7 ((2 : Int32))) [(-11), (-12), (-13)]) = (r16 - r16 / (6 : Int32) * (6 : Int32)) → (jL_panels__245 z x2_7 x3_20k Q (fun x2_7 => lL_panels__7 z v1 Q (((zv (s_panelCount z ((nI (z.1 0)))) [(-11)]) = (-11 : Int32) → (((zv (s_panelCount z ((-1 : Int32))) [(-11)]) = (-11 : Int32) → (((zv (s_panelMember z ((nI (z.1 0))) ((3 : Int32))) [(-11), (-12), (-13)]) = (-11 : Int32) → (Q (1 : Int32))) ∧ (¬ (zv (s_panelMember z ((nI (z.1 0))) ((3 : Int32))) [(-11), (-12), (-13)]) = (-11 : Int32) → (Q (0 : Int32))))) ∧ (¬ (zv (s_panelCount z ((-1 : Int32))) [(-11)]) = (-11 : Int32) → (Q (0 : Int32))))) ∧ (¬ (zv (s_panelCount z ((nI (z.1 0)))) [(-11)]) = (-11 : Int32) → (Q (0 : Int32)))) n7 x2_7) (1 : Int32))) ∧ (¬ (zv (s_panelMember z x2_7 ((2 : Int32))) [(-11), (-12), (-13)]) = (r16 - r16 / (6 : Int32) * (6 : Int32)) → (jL_panels__245 z x2_7 x3_20k Q (fun x2_7 => lL_panels__7 z v1 Q (((zv (s_panelCount z ((nI (z.1 0)))) [(-11)]) = (-11 : Int32) → (((zv (s_panelCount z ((-1 : Int32))) [(-11)]) = (-11 : Int32) → (((zv (s_panelMember z ((nI (z.1 0))) ((3 : Int32))) [(-11), (-12), (-13)]) = (-11 : Int32) → (Q (1 : Int32))) ∧ (¬ (zv (s_panelMember z ((nI (z.1 0))) ((3 : Int32))) [(-11), (-12), (-13)]) = (-11 : Int32) → (Q (0 : Int32))))) ∧ (¬ (zv (s_panelCount z ((-1 : Int32))) [(-11)]) = (-11 : Int32) → (Q (0 : Int32))))) ∧ (¬ (zv (s_panelCount z ((nI (z.1 0)))) [(-11)]) = (-11 : Int32) → (Q (0 : Int32)))) n7 x2_7) (0 : Int32))))) ∧ (¬ (zv (s_panelMember z x2_7 ((1 : Int32))) [(-11), (-12), (-13)]) = ((r16 / (6 : Int32)) - (r16 / (6 : Int32)) / (6 : Int32) * (6 : Int32)) → (jL_panels__245 z x2_7 x3_20k Q (fun x2_7 => lL_panels__7 z v1 Q (((zv (s_panelCount z ((nI (z.1 0)))) [(-11)]) = (-11 : Int32) → (((zv (s_panelCount z ((-1 : Int32))) [(-11)]) = (-11 : Int32) → (((zv (s_panelMember z ((nI (z.1 0))) ((3 : Int32))) [(-11), (-12), (-13)]) = (-11 : Int32) → (Q (1 : Int32))) ∧ (¬ (zv (s_panelMember z ((nI (z.1 0))) ((3 : Int32))) [(-11), (-12), (-13)]) = (-11 : Int32) → (Q (0 : Int32))))) ∧ (¬ (zv (s_panelCount z ((-1 : Int32))) [(-11)]) = (-11 : Int32) → (Q (0 : Int32))))) ∧ (¬ (zv (s_panelCount z ((nI (z.1 0)))) [(-11)]) = (-11 : Int32) → (Q (0 : Int32)))) n7 x2_7) (0 : Int32))))) ∧ (¬ (zv (s_panelMember z x2_7 ((0 : Int32))) [(-11), (-12), (-13)]) = (r16 / (36 : Int32)) → (jL_panels__245 z x2_7 x3_20k Q (fun x2_7 => lL_panels__7 z v1 Q (((zv (s_panelCount z ((nI (z.1 0)))) [(-11)]) = (-11 : Int32) → (((zv (s_panelCount z ((-1 : Int32))) [(-11)]) = (-11 : Int32) → (((zv (s_panelMember z ((nI (z.1 0))) ((3 : Int32))) [(-11), (-12), (-13)]) = (-11 : Int32) → (Q (1 : Int32))) ∧ (¬ (zv (s_panelMember z ((nI (z.1 0))) ((3 : Int32))) [(-11), (-12), (-13)]) = (-11 : Int32) → (Q (0 : Int32))))) ∧ (¬ (zv (s_panelCount z ((-1 : Int32))) [(-11)]) = (-11 : Int32) → (Q (0 : Int32))))) ∧ (¬ (zv (s_panelCount z ((nI (z.1 0)))) [(-11)]) = (-11 : Int32) → (Q (0 : Int32)))) n7 x2_7) (0 : Int32))))) ∧ (¬ 0 ≤ r16 → (((zv (s_panelMember z x2_7 ((0 : Int32))) [(-11), (-12), (-13)]) = (-13 : Int32) → ((x3_20k = 0 → (jL_panels__245 z x2_7 x3_20k Q (fun x2_7 => lL_panels__7 z v1 Q (((zv (s_panelCount z ((nI (z.1 0)))) [(-11)]) = (-11 : Int32) → (((zv (s_panelCount z ((-1 : Int32))) [(-11)]) = (-11 : Int32) → (((zv (s_panelMember z ((nI (z.1 0))) ((3 : Int32))) [(-11), (-12), (-13)]) = (-11 : Int32) → (Q (1 : Int32))) ∧ (¬ (zv (s_panelMember z ((nI (z.1 0))) ((3 : Int32))) [(-11), (-12), (-13)]) = (-11 : Int32) → (Q (0 : Int32))))) ∧ (¬ (zv (s_panelCount z ((-1 : Int32))) [(-11)]) = (-11 : Int32) → (Q (0 : Int32))))) ∧ (¬ (zv (s_panelCount z ((nI (z.1 0)))) [(-11)]) = (-11 : Int32) → (Q (0 : Int32)))) n7 x2_7) (1 : Int32))) ∧ (¬ x3_20k = 0 → (jL_panels__245 z x2_7 x3_20k Q (fun x2_7 => lL_panels__7 z v1 Q (((zv (s_panelCount z ((nI (z.1 0)))) [(-11)]) = (-11 : Int32) → (((zv (s_panelCount z ((-1 : Int32))) [(-11)]) = (-11 : Int32) → (((zv (s_panelMember z ((nI (z.1 0))) ((3 : Int32))) [(-11), (-12), (-13)]) = (-11 : Int32) → (Q (1 : Int32))) ∧ (¬ (zv (s_panelMember z ((nI (z.1 0))) ((3 : Int32))) [(-11), (-12), (-13)]) = (-11 : Int32) → (Q (0 : Int32))))) ∧ (¬ (zv (s_panelCount z ((-1 : Int32))) [(-11)]) = (-11 : Int32) → (Q (0 : Int32))))) ∧ (¬ (zv (s_panelCount z ((nI (z.1 0)))) [(-11)]) = (-11 : Int32) → (Q (0 : Int32)))) n7 x2_7) (0 : Int32))))) ∧ (¬ (zv (s_panelMember z x2_7 ((0 : Int32))) [(-11), (-12), (-13)]) = (-13 : Int32) → (jL_panels__245 z x2_7 x3_20k Q (fun x2_7 => lL_panels__7 z v1 Q (((zv (s_panelCount z ((nI (z.1 0)))) [(-11)]) = (-11 : Int32) → (((zv (s_panelCount z ((-1 : Int32))) [(-11)]) = (-11 : Int32) → (((zv (s_panelMember z ((nI (z.1 0))) ((3 : Int32))) [(-11), (-12), (-13)]) = (-11 : Int32) → (Q (1 : Int32))) ∧ (¬ (zv (s_panelMember z ((nI (z.1 0))) ((3 : Int32))) [(-11), (-12), (-13)]) = (-11 : Int32) → (Q (0 : Int32))))) ∧ (¬ (zv (s_panelCount z ((-1 : Int32))) [(-11)]) = (-11 : Int32) → (Q (0 : Int32))))) ∧ (¬ (zv (s_panelCount z ((nI (z.1 0)))) [(-11)]) = (-11 : Int32) → (Q (0 : Int32)))) n7 x2_7) (0 : Int32))))))) n20 x3_20 x4_20) (1 : Int32))) ∧ (¬ r58 = (3 : Int32) → (jL_panels__152 x3_20 x4_20 (fun x3_20 x4_20 => lL_panels__20 z v1 x2_7 (fun x3_20k => wL_firstPanel x2_7  z (fun r16 => (0 ≤ r16 → (((zv (s_panelMember z x2_7 ((0 : Int32))) [(-11), (-12), (-13)]) = (r16 / (36 : Int32)) → (((zv (s_panelMember z x2_7 ((1 : Int32))) [(-11), (-12), (-13)]) = ((r16 / (6 : Int32)) - (r16 / (6 : Int32)) / (6 : Int32) * (6 : Int32)) → (((zv (s_panelMember z x2_7 ((2 : Int32))) [(-11), (-12), (-13)]) = (r16 - r16 / (6 : Int32) * (6 : Int32)) → (jL_panels__245 z x2_7 x3_20k Q (fun x2_7 => lL_panels__7 z v1 Q (((zv (s_panelCount z ((nI (z.1 0)))) [(-11)]) = (-11 : Int32) → (((zv (s_panelCount z ((-1 : Int32))) [(-11)]) = (-11 : Int32) → (((zv (s_panelMember z ((nI (z.1 0))) ((3 : Int32))) [(-11), (-12), (-13)]) = (-11 : Int32) → (Q (1 : Int32))) ∧ (¬ (zv (s_panelMember z ((nI (z.1 0))) ((3 : Int32))) [(-11), (-12), (-13)]) = (-11 : Int32) → (Q (0 : Int32))))) ∧ (¬ (zv (s_panelCount z ((-1 : Int32))) [(-11)]) = (-11 : Int32) → (Q (0 : Int32))))) ∧ (¬ (zv (s_panelCount z ((nI (z.1 0)))) [(-11)]) = (-11 : Int32) → (Q (0 : Int32)))) n7 x2_7) (1 : Int32))) ∧ (¬ (zv (s_panelMember z x2_7 ((2 : Int32))) [(-11), (-12), (-13)]) = (r16 - r16 / (6 : Int32) * (6 : Int32)) → (jL_panels__245 z x2_7 x3_20k Q (fun x2_7 => lL_panels__7 z v1 Q (((zv (s_panelCount z ((nI (z.1 0)))) [(-11)]) = (-11 : Int32) → (((zv (s_panelCount z ((-1 : Int32))) [(-11)]) = (-11 : Int32) → (((zv (s_panelMember z ((nI (z.1 0))) ((3 : Int32))) [(-11), (-12), (-13)]) = (-11 : Int32) → (Q (1 : Int32))) ∧ (¬ (zv (s_panelMember z ((nI (z.1 0))) ((3 : Int32))) [(-11), (-12), (-13)]) = (-11 : Int32) → (Q (0 : Int32))))) ∧ (¬ (zv (s_panelCount z ((-1 : Int32))) [(-11)]) = (-11 : Int32) → (Q (0 : Int32))))) ∧ (¬ (zv (s_panelCount z ((nI (z.1 0)))) [(-11)]) = (-11 : Int32) → (Q (0 : Int32)))) n7 x2_7) (0 : Int32))))) ∧ (¬ (zv (s_panelMember z x2_7 ((1 : Int32))) [(-11), (-12), (-13)]) = ((r16 / (6 : Int32)) - (r16 / (6 : Int32)) / (6 : Int32) * (6 : Int32)) → (jL_panels__245 z x2_7 x3_20k Q (fun x2_7 => lL_panels__7 z v1 Q (((zv (s_panelCount z ((nI (z.1 0)))) [(-11)]) = (-11 : Int32) → (((zv (s_panelCount z ((-1 : Int32))) [(-11)]) = (-11 : Int32) → (((zv (s_panelMember z ((nI (z.1 0))) ((3 : Int32))) [(-11), (-12), (-13)]) = (-11 : Int32) → (Q (1 : Int32))) ∧ (¬ (zv (s_panelMember z ((nI (z.1 0))) ((3 : Int32))) [(-11), (-12), (-13)]) = (-11 : Int32) → (Q (0 : Int32))))) ∧ (¬ (zv (s_panelCount z ((-1 : Int32))) [(-11)]) = (-11 : Int32) → (Q (0 : Int32))))) ∧ (¬ (zv (s_panelCount z ((nI (z.1 0)))) [(-11)]) = (-11 : Int32) → (Q (0 : Int32)))) n7 x2_7) (0 : Int32))))) ∧ (¬ (zv (s_panelMember z x2_7 ((0 : Int32))) [(-11), (-12), (-13)]) = (r16 / (36 : Int32)) → (jL_panels__245 z x2_7 x3_20k Q (fun x2_7 => lL_panels__7 z v1 Q (((zv (s_panelCount z ((nI (z.1 0)))) [(-11)]) = (-11 : Int32) → (((zv (s_panelCount z ((-1 : Int32))) [(-11)]) = (-11 : Int32) → (((zv (s_panelMember z ((nI (z.1 0))) ((3 : Int32))) [(-11), (-12), (-13)]) = (-11 : Int32) → (Q (1 : Int32))) ∧ (¬ (zv (s_panelMember z ((nI (z.1 0))) ((3 : Int32))) [(-11), (-12), (-13)]) = (-11 : Int32) → (Q (0 : Int32))))) ∧ (¬ (zv (s_panelCount z ((-1 : Int32))) [(-11)]) = (-11 : Int32) → (Q (0 : Int32))))) ∧ (¬ (zv (s_panelCount z ((nI (z.1 0)))) [(-11)]) = (-11 : Int32) → (Q (0 : Int32)))) n7 x2_7) (0 : Int32))))) ∧ (¬ 0 ≤ r16 → (((zv (s_panelMember z x2_7 ((0 : Int32))) [(-11), (-12), (-13)]) = (-13 : Int32) → ((x3_20k = 0 → (jL_panels__245 z x2_7 x3_20k Q (fun x2_7 => lL_panels__7 z v1 Q (((zv (s_panelCount z ((nI (z.1 0)))) [(-11)]) = (-11 : Int32) → (((zv (s_panelCount z ((-1 : Int32))) [(-11)]) = (-11 : Int32) → (((zv (s_panelMember z ((nI (z.1 0))) ((3 : Int32))) [(-11), (-12), (-13)]) = (-11 : Int32) → (Q (1 : Int32))) ∧ (¬ (zv (s_panelMember z ((nI (z.1 0))) ((3 : Int32))) [(-11), (-12), (-13)]) = (-11 : Int32) → (Q (0 : Int32))))) ∧ (¬ (zv (s_panelCount z ((-1 : Int32))) [(-11)]) = (-11 : Int32) → (Q (0 : Int32))))) ∧ (¬ (zv (s_panelCount z ((nI (z.1 0)))) [(-11)]) = (-11 : Int32) → (Q (0 : Int32)))) n7 x2_7) (1 : Int32))) ∧ (¬ x3_20k = 0 → (jL_panels__245 z x2_7 x3_20k Q (fun x2_7 => lL_panels__7 z v1 Q (((zv (s_panelCount z ((nI (z.1 0)))) [(-11)]) = (-11 : Int32) → (((zv (s_panelCount z ((-1 : Int32))) [(-11)]) = (-11 : Int32) → (((zv (s_panelMember z ((nI (z.1 0))) ((3 : Int32))) [(-11), (-12), (-13)]) = (-11 : Int32) → (Q (1 : Int32))) ∧ (¬ (zv (s_panelMember z ((nI (z.1 0))) ((3 : Int32))) [(-11), (-12), (-13)]) = (-11 : Int32) → (Q (0 : Int32))))) ∧ (¬ (zv (s_panelCount z ((-1 : Int32))) [(-11)]) = (-11 : Int32) → (Q (0 : Int32))))) ∧ (¬ (zv (s_panelCount z ((nI (z.1 0)))) [(-11)]) = (-11 : Int32) → (Q (0 : Int32)))) n7 x2_7) (0 : Int32))))) ∧ (¬ (zv (s_panelMember z x2_7 ((0 : Int32))) [(-11), (-12), (-13)]) = (-13 : Int32) → (jL_panels__245 z x2_7 x3_20k Q (fun x2_7 => lL_panels__7 z v1 Q (((zv (s_panelCount z ((nI (z.1 0)))) [(-11)]) = (-11 : Int32) → (((zv (s_panelCount z ((-1 : Int32))) [(-11)]) = (-11 : Int32) → (((zv (s_panelMember z ((nI (z.1 0))) ((3 : Int32))) [(-11), (-12), (-13)]) = (-11 : Int32) → (Q (1 : Int32))) ∧ (¬ (zv (s_panelMember z ((nI (z.1 0))) ((3 : Int32))) [(-11), (-12), (-13)]) = (-11 : Int32) → (Q (0 : Int32))))) ∧ (¬ (zv (s_panelCount z ((-1 : Int32))) [(-11)]) = (-11 : Int32) → (Q (0 : Int32))))) ∧ (¬ (zv (s_panelCount z ((nI (z.1 0)))) [(-11)]) = (-11 : Int32) → (Q (0 : Int32)))) n7 x2_7) (0 : Int32))))))) n20 x3_20 x4_20) (0 : Int32))))))) n50 x5_50 x6_50 x7_50) t0_72 → cj72 ≤ CJ72 → sj72 ≤ SJ72 → zl_Wd g [] z s H locs → lv_has ls 9 [(0, .ref (sw_ad g 0)), (1, .int v1), (2, .int x2_7), (3, .int x3_20), (4, .int x4_20), (5, .int x5_50), (6, .int x6_50), (7, .int x7_50)] → W p l e R s m args below meth c H locs cj72 sj72 Q0 (F0 m 72 ls [.int t0_72]) := by
                        intro t0_72 H locs ls cj72 sj72 h hcj72 hsj72 hW hl
                        unfold jL_panels__72 at h
                        have g65 : cj72 + 6197 ≤ R.cells := zc8 (x := cn50) (D := 0) (s := 6197) (s' := 6197) hcj72 hCJ72 g62 (Nat.le_of_ble_eq_true rfl)
                        have g66 : cj72 + 5 ≤ Tcn50 := zc8 (x := cn50) (D := 0) (s := 5) (s' := 5) hcj72 hCJ72 g60 (Nat.le_of_ble_eq_true rfl)
                        have g67 : sj72 + 37182 ≤ R.slots := zc8 (x := sn50) (D := 0) (s := 37182) (s' := 37182) hsj72 hSJ72 g63 (Nat.le_of_ble_eq_true rfl)
                        have g68 : sj72 + 30 ≤ Tsn50 := zc8 (x := sn50) (D := 0) (s := 30) (s' := 30) hsj72 hSJ72 g61 (Nat.le_of_ble_eq_true rfl)
                        refine lv_istore (lv' := [(8, .int t0_72), (0, .ref (sw_ad g 0)), (1, .int v1), (2, .int x2_7), (3, .int x3_20), (4, .int x4_20), (5, .int x5_50), (6, .int x6_50), (7, .int x7_50)]) hx hb dL_panels__72 hl (Nat.le_of_ble_eq_true rfl) rfl (fun ls hl => ?_)
                        refine lv_iload hx hb dL_panels__74 (lv_at hl 7 rfl) ?_
                        obtain ⟨CJ99, hCJ99⟩ : ∃ n : Nat, n = cj72 + 4 := ⟨_, rfl⟩
                        obtain ⟨SJ99, hSJ99⟩ : ∃ n : Nat, n = sj72 + 24 := ⟨_, rfl⟩
                        have hJ99 : ∀ (t0_99 : Int32) (H : Heap) (locs : List Loc) (ls : Array Slot) (cj99 sj99 : Nat), jL_panels__99 z x5_50 x7_50 t0_72 (fun x5_50 x6_50 x7_50 => lL_panels__50 z v1 x2_7 x4_20 (fun x5_50k x6_50k => (x6_50k = 0 → (jL_panels__152 x3_20 x4_20 (fun x3_20 x4_20 => lL_panels__20 z v1 x2_7 (fun x3_20k => wL_firstPanel x2_7  z (fun r16 => (0 ≤ r16 → (((zv (s_panelMember z x2_7 ((0 : Int32))) [(-11), (-12), (-13)]) = (r16 / (36 : Int32)) → (((zv (s_panelMember z x2_7 ((1 : Int32))) [(-11), (-12), (-13)]) = ((r16 / (6 : Int32)) - (r16 / (6 : Int32)) / (6 : Int32) * (6 : Int32)) → (((zv (s_panelMember z x2_7 ((2 : Int32))) [(-11), (-12), (-13)]) = (r16 - r16 / (6 : Int32) * (6 : Int32)) → (jL_panels__245 z x2_7 x3_20k Q (fun x2_7 => lL_panels__7 z v1 Q (((zv (s_panelCount z ((nI (z.1 0)))) [(-11)]) = (-11 : Int32) → (((zv (s_panelCount z ((-1 : Int32))) [(-11)]) = (-11 : Int32) → (((zv (s_panelMember z ((nI (z.1 0))) ((3 : Int32))) [(-11), (-12), (-13)]) = (-11 : Int32) → (Q (1 : Int32))) ∧ (¬ (zv (s_panelMember z ((nI (z.1 0))) ((3 : Int32))) [(-11), (-12), (-13)]) = (-11 : Int32) → (Q (0 : Int32))))) ∧ (¬ (zv (s_panelCount z ((-1 : Int32))) [(-11)]) = (-11 : Int32) → (Q (0 : Int32))))) ∧ (¬ (zv (s_panelCount z ((nI (z.1 0)))) [(-11)]) = (-11 : Int32) → (Q (0 : Int32)))) n7 x2_7) (1 : Int32))) ∧ (¬ (zv (s_panelMember z x2_7 ((2 : Int32))) [(-11), (-12), (-13)]) = (r16 - r16 / (6 : Int32) * (6 : Int32)) → (jL_panels__245 z x2_7 x3_20k Q (fun x2_7 => lL_panels__7 z v1 Q (((zv (s_panelCount z ((nI (z.1 0)))) [(-11)]) = (-11 : Int32) → (((zv (s_panelCount z ((-1 : Int32))) [(-11)]) = (-11 : Int32) → (((zv (s_panelMember z ((nI (z.1 0))) ((3 : Int32))) [(-11), (-12), (-13)]) = (-11 : Int32) → (Q (1 : Int32))) ∧ (¬ (zv (s_panelMember z ((nI (z.1 0))) ((3 : Int32))) [(-11), (-12), (-13)]) = (-11 : Int32) → (Q (0 : Int32))))) ∧ (¬ (zv (s_panelCount z ((-1 : Int32))) [(-11)]) = (-11 : Int32) → (Q (0 : Int32))))) ∧ (¬ (zv (s_panelCount z ((nI (z.1 0)))) [(-11)]) = (-11 : Int32) → (Q (0 : Int32)))) n7 x2_7) (0 : Int32))))) ∧ (¬ (zv (s_panelMember z x2_7 ((1 : Int32))) [(-11), (-12), (-13)]) = ((r16 / (6 : Int32)) - (r16 / (6 : Int32)) / (6 : Int32) * (6 : Int32)) → (jL_panels__245 z x2_7 x3_20k Q (fun x2_7 => lL_panels__7 z v1 Q (((zv (s_panelCount z ((nI (z.1 0)))) [(-11)]) = (-11 : Int32) → (((zv (s_panelCount z ((-1 : Int32))) [(-11)]) = (-11 : Int32) → (((zv (s_panelMember z ((nI (z.1 0))) ((3 : Int32))) [(-11), (-12), (-13)]) = (-11 : Int32) → (Q (1 : Int32))) ∧ (¬ (zv (s_panelMember z ((nI (z.1 0))) ((3 : Int32))) [(-11), (-12), (-13)]) = (-11 : Int32) → (Q (0 : Int32))))) ∧ (¬ (zv (s_panelCount z ((-1 : Int32))) [(-11)]) = (-11 : Int32) → (Q (0 : Int32))))) ∧ (¬ (zv (s_panelCount z ((nI (z.1 0)))) [(-11)]) = (-11 : Int32) → (Q (0 : Int32)))) n7 x2_7) (0 : Int32))))) ∧ (¬ (zv (s_panelMember z x2_7 ((0 : Int32))) [(-11), (-12), (-13)]) = (r16 / (36 : Int32)) → (jL_panels__245 z x2_7 x3_20k Q (fun x2_7 => lL_panels__7 z v1 Q (((zv (s_panelCount z ((nI (z.1 0)))) [(-11)]) = (-11 : Int32) → (((zv (s_panelCount z ((-1 : Int32))) [(-11)]) = (-11 : Int32) → (((zv (s_panelMember z ((nI (z.1 0))) ((3 : Int32))) [(-11), (-12), (-13)]) = (-11 : Int32) → (Q (1 : Int32))) ∧ (¬ (zv (s_panelMember z ((nI (z.1 0))) ((3 : Int32))) [(-11), (-12), (-13)]) = (-11 : Int32) → (Q (0 : Int32))))) ∧ (¬ (zv (s_panelCount z ((-1 : Int32))) [(-11)]) = (-11 : Int32) → (Q (0 : Int32))))) ∧ (¬ (zv (s_panelCount z ((nI (z.1 0)))) [(-11)]) = (-11 : Int32) → (Q (0 : Int32)))) n7 x2_7) (0 : Int32))))) ∧ (¬ 0 ≤ r16 → (((zv (s_panelMember z x2_7 ((0 : Int32))) [(-11), (-12), (-13)]) = (-13 : Int32) → ((x3_20k = 0 → (jL_panels__245 z x2_7 x3_20k Q (fun x2_7 => lL_panels__7 z v1 Q (((zv (s_panelCount z ((nI (z.1 0)))) [(-11)]) = (-11 : Int32) → (((zv (s_panelCount z ((-1 : Int32))) [(-11)]) = (-11 : Int32) → (((zv (s_panelMember z ((nI (z.1 0))) ((3 : Int32))) [(-11), (-12), (-13)]) = (-11 : Int32) → (Q (1 : Int32))) ∧ (¬ (zv (s_panelMember z ((nI (z.1 0))) ((3 : Int32))) [(-11), (-12), (-13)]) = (-11 : Int32) → (Q (0 : Int32))))) ∧ (¬ (zv (s_panelCount z ((-1 : Int32))) [(-11)]) = (-11 : Int32) → (Q (0 : Int32))))) ∧ (¬ (zv (s_panelCount z ((nI (z.1 0)))) [(-11)]) = (-11 : Int32) → (Q (0 : Int32)))) n7 x2_7) (1 : Int32))) ∧ (¬ x3_20k = 0 → (jL_panels__245 z x2_7 x3_20k Q (fun x2_7 => lL_panels__7 z v1 Q (((zv (s_panelCount z ((nI (z.1 0)))) [(-11)]) = (-11 : Int32) → (((zv (s_panelCount z ((-1 : Int32))) [(-11)]) = (-11 : Int32) → (((zv (s_panelMember z ((nI (z.1 0))) ((3 : Int32))) [(-11), (-12), (-13)]) = (-11 : Int32) → (Q (1 : Int32))) ∧ (¬ (zv (s_panelMember z ((nI (z.1 0))) ((3 : Int32))) [(-11), (-12), (-13)]) = (-11 : Int32) → (Q (0 : Int32))))) ∧ (¬ (zv (s_panelCount z ((-1 : Int32))) [(-11)]) = (-11 : Int32) → (Q (0 : Int32))))) ∧ (¬ (zv (s_panelCount z ((nI (z.1 0)))) [(-11)]) = (-11 : Int32) → (Q (0 : Int32)))) n7 x2_7) (0 : Int32))))) ∧ (¬ (zv (s_panelMember z x2_7 ((0 : Int32))) [(-11), (-12), (-13)]) = (-13 : Int32) → (jL_panels__245 z x2_7 x3_20k Q (fun x2_7 => lL_panels__7 z v1 Q (((zv (s_panelCount z ((nI (z.1 0)))) [(-11)]) = (-11 : Int32) → (((zv (s_panelCount z ((-1 : Int32))) [(-11)]) = (-11 : Int32) → (((zv (s_panelMember z ((nI (z.1 0))) ((3 : Int32))) [(-11), (-12), (-13)]) = (-11 : Int32) → (Q (1 : Int32))) ∧ (¬ (zv (s_panelMember z ((nI (z.1 0))) ((3 : Int32))) [(-11), (-12), (-13)]) = (-11 : Int32) → (Q (0 : Int32))))) ∧ (¬ (zv (s_panelCount z ((-1 : Int32))) [(-11)]) = (-11 : Int32) → (Q (0 : Int32))))) ∧ (¬ (zv (s_panelCount z ((nI (z.1 0)))) [(-11)]) = (-11 : Int32) → (Q (0 : Int32)))) n7 x2_7) (0 : Int32))))))) n20 x3_20 x4_20) (0 : Int32))) ∧ (¬ x6_50k = 0 → (wJ6_bitCount_0f7a4 x5_50k (fun r58 => (r58 = (3 : Int32) → (jL_panels__152 x3_20 x4_20 (fun x3_20 x4_20 => lL_panels__20 z v1 x2_7 (fun x3_20k => wL_firstPanel x2_7  z (fun r16 => (0 ≤ r16 → (((zv (s_panelMember z x2_7 ((0 : Int32))) [(-11), (-12), (-13)]) = (r16 / (36 : Int32)) → (((zv (s_panelMember z x2_7 ((1 : Int32))) [(-11), (-12), (-13)]) = ((r16 / (6 : Int32)) - (r16 / (6 : Int32)) / (6 : Int32) * (6 : Int32)) → (((zv (s_panelMember z x2_7 ((2 : Int32))) [(-11), (-12), (-13)]) = (r16 - r16 / (6 : Int32) * (6 : Int32)) → (jL_panels__245 z x2_7 x3_20k Q (fun x2_7 => lL_panels__7 z v1 Q (((zv (s_panelCount z ((nI (z.1 0)))) [(-11)]) = (-11 : Int32) → (((zv (s_panelCount z ((-1 : Int32))) [(-11)]) = (-11 : Int32) → (((zv (s_panelMember z ((nI (z.1 0))) ((3 : Int32))) [(-11), (-12), (-13)]) = (-11 : Int32) → (Q (1 : Int32))) ∧ (¬ (zv (s_panelMember z ((nI (z.1 0))) ((3 : Int32))) [(-11), (-12), (-13)]) = (-11 : Int32) → (Q (0 : Int32))))) ∧ (¬ (zv (s_panelCount z ((-1 : Int32))) [(-11)]) = (-11 : Int32) → (Q (0 : Int32))))) ∧ (¬ (zv (s_panelCount z ((nI (z.1 0)))) [(-11)]) = (-11 : Int32) → (Q (0 : Int32)))) n7 x2_7) (1 : Int32))) ∧ (¬ (zv (s_panelMember z x2_7 ((2 : Int32))) [(-11), (-12), (-13)]) = (r16 - r16 / (6 : Int32) * (6 : Int32)) → (jL_panels__245 z x2_7 x3_20k Q (fun x2_7 => lL_panels__7 z v1 Q (((zv (s_panelCount z ((nI (z.1 0)))) [(-11)]) = (-11 : Int32) → (((zv (s_panelCount z ((-1 : Int32))) [(-11)]) = (-11 : Int32) → (((zv (s_panelMember z ((nI (z.1 0))) ((3 : Int32))) [(-11), (-12), (-13)]) = (-11 : Int32) → (Q (1 : Int32))) ∧ (¬ (zv (s_panelMember z ((nI (z.1 0))) ((3 : Int32))) [(-11), (-12), (-13)]) = (-11 : Int32) → (Q (0 : Int32))))) ∧ (¬ (zv (s_panelCount z ((-1 : Int32))) [(-11)]) = (-11 : Int32) → (Q (0 : Int32))))) ∧ (¬ (zv (s_panelCount z ((nI (z.1 0)))) [(-11)]) = (-11 : Int32) → (Q (0 : Int32)))) n7 x2_7) (0 : Int32))))) ∧ (¬ (zv (s_panelMember z x2_7 ((1 : Int32))) [(-11), (-12), (-13)]) = ((r16 / (6 : Int32)) - (r16 / (6 : Int32)) / (6 : Int32) * (6 : Int32)) → (jL_panels__245 z x2_7 x3_20k Q (fun x2_7 => lL_panels__7 z v1 Q (((zv (s_panelCount z ((nI (z.1 0)))) [(-11)]) = (-11 : Int32) → (((zv (s_panelCount z ((-1 : Int32))) [(-11)]) = (-11 : Int32) → (((zv (s_panelMember z ((nI (z.1 0))) ((3 : Int32))) [(-11), (-12), (-13)]) = (-11 : Int32) → (Q (1 : Int32))) ∧ (¬ (zv (s_panelMember z ((nI (z.1 0))) ((3 : Int32))) [(-11), (-12), (-13)]) = (-11 : Int32) → (Q (0 : Int32))))) ∧ (¬ (zv (s_panelCount z ((-1 : Int32))) [(-11)]) = (-11 : Int32) → (Q (0 : Int32))))) ∧ (¬ (zv (s_panelCount z ((nI (z.1 0)))) [(-11)]) = (-11 : Int32) → (Q (0 : Int32)))) n7 x2_7) (0 : Int32))))) ∧ (¬ (zv (s_panelMember z x2_7 ((0 : Int32))) [(-11), (-12), (-13)]) = (r16 / (36 : Int32)) → (jL_panels__245 z x2_7 x3_20k Q (fun x2_7 => lL_panels__7 z v1 Q (((zv (s_panelCount z ((nI (z.1 0)))) [(-11)]) = (-11 : Int32) → (((zv (s_panelCount z ((-1 : Int32))) [(-11)]) = (-11 : Int32) → (((zv (s_panelMember z ((nI (z.1 0))) ((3 : Int32))) [(-11), (-12), (-13)]) = (-11 : Int32) → (Q (1 : Int32))) ∧ (¬ (zv (s_panelMember z ((nI (z.1 0))) ((3 : Int32))) [(-11), (-12), (-13)]) = (-11 : Int32) → (Q (0 : Int32))))) ∧ (¬ (zv (s_panelCount z ((-1 : Int32))) [(-11)]) = (-11 : Int32) → (Q (0 : Int32))))) ∧ (¬ (zv (s_panelCount z ((nI (z.1 0)))) [(-11)]) = (-11 : Int32) → (Q (0 : Int32)))) n7 x2_7) (0 : Int32))))) ∧ (¬ 0 ≤ r16 → (((zv (s_panelMember z x2_7 ((0 : Int32))) [(-11), (-12), (-13)]) = (-13 : Int32) → ((x3_20k = 0 → (jL_panels__245 z x2_7 x3_20k Q (fun x2_7 => lL_panels__7 z v1 Q (((zv (s_panelCount z ((nI (z.1 0)))) [(-11)]) = (-11 : Int32) → (((zv (s_panelCount z ((-1 : Int32))) [(-11)]) = (-11 : Int32) → (((zv (s_panelMember z ((nI (z.1 0))) ((3 : Int32))) [(-11), (-12), (-13)]) = (-11 : Int32) → (Q (1 : Int32))) ∧ (¬ (zv (s_panelMember z ((nI (z.1 0))) ((3 : Int32))) [(-11), (-12), (-13)]) = (-11 : Int32) → (Q (0 : Int32))))) ∧ (¬ (zv (s_panelCount z ((-1 : Int32))) [(-11)]) = (-11 : Int32) → (Q (0 : Int32))))) ∧ (¬ (zv (s_panelCount z ((nI (z.1 0)))) [(-11)]) = (-11 : Int32) → (Q (0 : Int32)))) n7 x2_7) (1 : Int32))) ∧ (¬ x3_20k = 0 → (jL_panels__245 z x2_7 x3_20k Q (fun x2_7 => lL_panels__7 z v1 Q (((zv (s_panelCount z ((nI (z.1 0)))) [(-11)]) = (-11 : Int32) → (((zv (s_panelCount z ((-1 : Int32))) [(-11)]) = (-11 : Int32) → (((zv (s_panelMember z ((nI (z.1 0))) ((3 : Int32))) [(-11), (-12), (-13)]) = (-11 : Int32) → (Q (1 : Int32))) ∧ (¬ (zv (s_panelMember z ((nI (z.1 0))) ((3 : Int32))) [(-11), (-12), (-13)]) = (-11 : Int32) → (Q (0 : Int32))))) ∧ (¬ (zv (s_panelCount z ((-1 : Int32))) [(-11)]) = (-11 : Int32) → (Q (0 : Int32))))) ∧ (¬ (zv (s_panelCount z ((nI (z.1 0)))) [(-11)]) = (-11 : Int32) → (Q (0 : Int32)))) n7 x2_7) (0 : Int32))))) ∧ (¬ (zv (s_panelMember z x2_7 ((0 : Int32))) [(-11), (-12), (-13)]) = (-13 : Int32) → (jL_panels__245 z x2_7 x3_20k Q (fun x2_7 => lL_panels__7 z v1 Q (((zv (s_panelCount z ((nI (z.1 0)))) [(-11)]) = (-11 : Int32) → (((zv (s_panelCount z ((-1 : Int32))) [(-11)]) = (-11 : Int32) → (((zv (s_panelMember z ((nI (z.1 0))) ((3 : Int32))) [(-11), (-12), (-13)]) = (-11 : Int32) → (Q (1 : Int32))) ∧ (¬ (zv (s_panelMember z ((nI (z.1 0))) ((3 : Int32))) [(-11), (-12), (-13)]) = (-11 : Int32) → (Q (0 : Int32))))) ∧ (¬ (zv (s_panelCount z ((-1 : Int32))) [(-11)]) = (-11 : Int32) → (Q (0 : Int32))))) ∧ (¬ (zv (s_panelCount z ((nI (z.1 0)))) [(-11)]) = (-11 : Int32) → (Q (0 : Int32)))) n7 x2_7) (0 : Int32))))))) n20 x3_20 x4_20) (1 : Int32))) ∧ (¬ r58 = (3 : Int32) → (jL_panels__152 x3_20 x4_20 (fun x3_20 x4_20 => lL_panels__20 z v1 x2_7 (fun x3_20k => wL_firstPanel x2_7  z (fun r16 => (0 ≤ r16 → (((zv (s_panelMember z x2_7 ((0 : Int32))) [(-11), (-12), (-13)]) = (r16 / (36 : Int32)) → (((zv (s_panelMember z x2_7 ((1 : Int32))) [(-11), (-12), (-13)]) = ((r16 / (6 : Int32)) - (r16 / (6 : Int32)) / (6 : Int32) * (6 : Int32)) → (((zv (s_panelMember z x2_7 ((2 : Int32))) [(-11), (-12), (-13)]) = (r16 - r16 / (6 : Int32) * (6 : Int32)) → (jL_panels__245 z x2_7 x3_20k Q (fun x2_7 => lL_panels__7 z v1 Q (((zv (s_panelCount z ((nI (z.1 0)))) [(-11)]) = (-11 : Int32) → (((zv (s_panelCount z ((-1 : Int32))) [(-11)]) = (-11 : Int32) → (((zv (s_panelMember z ((nI (z.1 0))) ((3 : Int32))) [(-11), (-12), (-13)]) = (-11 : Int32) → (Q (1 : Int32))) ∧ (¬ (zv (s_panelMember z ((nI (z.1 0))) ((3 : Int32))) [(-11), (-12), (-13)]) = (-11 : Int32) → (Q (0 : Int32))))) ∧ (¬ (zv (s_panelCount z ((-1 : Int32))) [(-11)]) = (-11 : Int32) → (Q (0 : Int32))))) ∧ (¬ (zv (s_panelCount z ((nI (z.1 0)))) [(-11)]) = (-11 : Int32) → (Q (0 : Int32)))) n7 x2_7) (1 : Int32))) ∧ (¬ (zv (s_panelMember z x2_7 ((2 : Int32))) [(-11), (-12), (-13)]) = (r16 - r16 / (6 : Int32) * (6 : Int32)) → (jL_panels__245 z x2_7 x3_20k Q (fun x2_7 => lL_panels__7 z v1 Q (((zv (s_panelCount z ((nI (z.1 0)))) [(-11)]) = (-11 : Int32) → (((zv (s_panelCount z ((-1 : Int32))) [(-11)]) = (-11 : Int32) → (((zv (s_panelMember z ((nI (z.1 0))) ((3 : Int32))) [(-11), (-12), (-13)]) = (-11 : Int32) → (Q (1 : Int32))) ∧ (¬ (zv (s_panelMember z ((nI (z.1 0))) ((3 : Int32))) [(-11), (-12), (-13)]) = (-11 : Int32) → (Q (0 : Int32))))) ∧ (¬ (zv (s_panelCount z ((-1 : Int32))) [(-11)]) = (-11 : Int32) → (Q (0 : Int32))))) ∧ (¬ (zv (s_panelCount z ((nI (z.1 0)))) [(-11)]) = (-11 : Int32) → (Q (0 : Int32)))) n7 x2_7) (0 : Int32))))) ∧ (¬ (zv (s_panelMember z x2_7 ((1 : Int32))) [(-11), (-12), (-13)]) = ((r16 / (6 : Int32)) - (r16 / (6 : Int32)) / (6 : Int32) * (6 : Int32)) → (jL_panels__245 z x2_7 x3_20k Q (fun x2_7 => lL_panels__7 z v1 Q (((zv (s_panelCount z ((nI (z.1 0)))) [(-11)]) = (-11 : Int32) → (((zv (s_panelCount z ((-1 : Int32))) [(-11)]) = (-11 : Int32) → (((zv (s_panelMember z ((nI (z.1 0))) ((3 : Int32))) [(-11), (-12), (-13)]) = (-11 : Int32) → (Q (1 : Int32))) ∧ (¬ (zv (s_panelMember z ((nI (z.1 0))) ((3 : Int32))) [(-11), (-12), (-13)]) = (-11 : Int32) → (Q (0 : Int32))))) ∧ (¬ (zv (s_panelCount z ((-1 : Int32))) [(-11)]) = (-11 : Int32) → (Q (0 : Int32))))) ∧ (¬ (zv (s_panelCount z ((nI (z.1 0)))) [(-11)]) = (-11 : Int32) → (Q (0 : Int32)))) n7 x2_7) (0 : Int32))))) ∧ (¬ (zv (s_panelMember z x2_7 ((0 : Int32))) [(-11), (-12), (-13)]) = (r16 / (36 : Int32)) → (jL_panels__245 z x2_7 x3_20k Q (fun x2_7 => lL_panels__7 z v1 Q (((zv (s_panelCount z ((nI (z.1 0)))) [(-11)]) = (-11 : Int32) → (((zv (s_panelCount z ((-1 : Int32))) [(-11)]) = (-11 : Int32) → (((zv (s_panelMember z ((nI (z.1 0))) ((3 : Int32))) [(-11), (-12), (-13)]) = (-11 : Int32) → (Q (1 : Int32))) ∧ (¬ (zv (s_panelMember z ((nI (z.1 0))) ((3 : Int32))) [(-11), (-12), (-13)]) = (-11 : Int32) → (Q (0 : Int32))))) ∧ (¬ (zv (s_panelCount z ((-1 : Int32))) [(-11)]) = (-11 : Int32) → (Q (0 : Int32))))) ∧ (¬ (zv (s_panelCount z ((nI (z.1 0)))) [(-11)]) = (-11 : Int32) → (Q (0 : Int32)))) n7 x2_7) (0 : Int32))))) ∧ (¬ 0 ≤ r16 → (((zv (s_panelMember z x2_7 ((0 : Int32))) [(-11), (-12), (-13)]) = (-13 : Int32) → ((x3_20k = 0 → (jL_panels__245 z x2_7 x3_20k Q (fun x2_7 => lL_panels__7 z v1 Q (((zv (s_panelCount z ((nI (z.1 0)))) [(-11)]) = (-11 : Int32) → (((zv (s_panelCount z ((-1 : Int32))) [(-11)]) = (-11 : Int32) → (((zv (s_panelMember z ((nI (z.1 0))) ((3 : Int32))) [(-11), (-12), (-13)]) = (-11 : Int32) → (Q (1 : Int32))) ∧ (¬ (zv (s_panelMember z ((nI (z.1 0))) ((3 : Int32))) [(-11), (-12), (-13)]) = (-11 : Int32) → (Q (0 : Int32))))) ∧ (¬ (zv (s_panelCount z ((-1 : Int32))) [(-11)]) = (-11 : Int32) → (Q (0 : Int32))))) ∧ (¬ (zv (s_panelCount z ((nI (z.1 0)))) [(-11)]) = (-11 : Int32) → (Q (0 : Int32)))) n7 x2_7) (1 : Int32))) ∧ (¬ x3_20k = 0 → (jL_panels__245 z x2_7 x3_20k Q (fun x2_7 => lL_panels__7 z v1 Q (((zv (s_panelCount z ((nI (z.1 0)))) [(-11)]) = (-11 : Int32) → (((zv (s_panelCount z ((-1 : Int32))) [(-11)]) = (-11 : Int32) → (((zv (s_panelMember z ((nI (z.1 0))) ((3 : Int32))) [(-11), (-12), (-13)]) = (-11 : Int32) → (Q (1 : Int32))) ∧ (¬ (zv (s_panelMember z ((nI (z.1 0))) ((3 : Int32))) [(-11), (-12), (-13)]) = (-11 : Int32) → (Q (0 : Int32))))) ∧ (¬ (zv (s_panelCount z ((-1 : Int32))) [(-11)]) = (-11 : Int32) → (Q (0 : Int32))))) ∧ (¬ (zv (s_panelCount z ((nI (z.1 0)))) [(-11)]) = (-11 : Int32) → (Q (0 : Int32)))) n7 x2_7) (0 : Int32))))) ∧ (¬ (zv (s_panelMember z x2_7 ((0 : Int32))) [(-11), (-12), (-13)]) = (-13 : Int32) → (jL_panels__245 z x2_7 x3_20k Q (fun x2_7 => lL_panels__7 z v1 Q (((zv (s_panelCount z ((nI (z.1 0)))) [(-11)]) = (-11 : Int32) → (((zv (s_panelCount z ((-1 : Int32))) [(-11)]) = (-11 : Int32) → (((zv (s_panelMember z ((nI (z.1 0))) ((3 : Int32))) [(-11), (-12), (-13)]) = (-11 : Int32) → (Q (1 : Int32))) ∧ (¬ (zv (s_panelMember z ((nI (z.1 0))) ((3 : Int32))) [(-11), (-12), (-13)]) = (-11 : Int32) → (Q (0 : Int32))))) ∧ (¬ (zv (s_panelCount z ((-1 : Int32))) [(-11)]) = (-11 : Int32) → (Q (0 : Int32))))) ∧ (¬ (zv (s_panelCount z ((nI (z.1 0)))) [(-11)]) = (-11 : Int32) → (Q (0 : Int32)))) n7 x2_7) (0 : Int32))))))) n20 x3_20 x4_20) (0 : Int32))))))) n50 x5_50 x6_50 x7_50) t0_99 → cj99 ≤ CJ99 → sj99 ≤ SJ99 → zl_Wd g [] z s H locs → lv_has ls 9 [(0, .ref (sw_ad g 0)), (1, .int v1), (2, .int x2_7), (3, .int x3_20), (4, .int x4_20), (5, .int x5_50), (7, .int x7_50), (8, .int t0_72)] → W p l e R s m args below meth c H locs cj99 sj99 Q0 (F0 m 99 ls [.int t0_99]) := by
                          intro t0_99 H locs ls cj99 sj99 h hcj99 hsj99 hW hl
                          unfold jL_panels__99 at h
                          have g69 : cj99 + 6193 ≤ R.cells := zc8 (x := cj72) (D := 4) (s := 6197) (s' := 6193) hcj99 hCJ99 g65 (Nat.le_of_ble_eq_true rfl)
                          have g70 : cj99 + 1 ≤ Tcn50 := zc8 (x := cj72) (D := 4) (s := 5) (s' := 1) hcj99 hCJ99 g66 (Nat.le_of_ble_eq_true rfl)
                          have g71 : sj99 + 37158 ≤ R.slots := zc8 (x := sj72) (D := 24) (s := 37182) (s' := 37158) hsj99 hSJ99 g67 (Nat.le_of_ble_eq_true rfl)
                          have g72 : sj99 + 6 ≤ Tsn50 := zc8 (x := sj72) (D := 24) (s := 30) (s' := 6) hsj99 hSJ99 g68 (Nat.le_of_ble_eq_true rfl)
                          refine lv_istore (lv' := [(6, .int t0_99), (0, .ref (sw_ad g 0)), (1, .int v1), (2, .int x2_7), (3, .int x3_20), (4, .int x4_20), (5, .int x5_50), (7, .int x7_50), (8, .int t0_72)]) hx hb dL_panels__99 hl (Nat.le_of_ble_eq_true rfl) rfl (fun ls hl => ?_)
                          refine lv_iload hx hb dL_panels__101 (lv_at hl 6 rfl) ?_
                          refine lv_iload hx hb dL_panels__103 (lv_at hl 8 rfl) ?_
                          obtain ⟨CJ123, hCJ123⟩ : ∃ n : Nat, n = cj99 + 1 := ⟨_, rfl⟩
                          obtain ⟨SJ123, hSJ123⟩ : ∃ n : Nat, n = sj99 + 6 := ⟨_, rfl⟩
                          have hJ123 : ∀ (t0_123 : Int32) (H : Heap) (locs : List Loc) (ls : Array Slot) (cj123 sj123 : Nat), jL_panels__123 x5_50 x7_50 t0_99 (fun x5_50 x6_50 x7_50 => lL_panels__50 z v1 x2_7 x4_20 (fun x5_50k x6_50k => (x6_50k = 0 → (jL_panels__152 x3_20 x4_20 (fun x3_20 x4_20 => lL_panels__20 z v1 x2_7 (fun x3_20k => wL_firstPanel x2_7  z (fun r16 => (0 ≤ r16 → (((zv (s_panelMember z x2_7 ((0 : Int32))) [(-11), (-12), (-13)]) = (r16 / (36 : Int32)) → (((zv (s_panelMember z x2_7 ((1 : Int32))) [(-11), (-12), (-13)]) = ((r16 / (6 : Int32)) - (r16 / (6 : Int32)) / (6 : Int32) * (6 : Int32)) → (((zv (s_panelMember z x2_7 ((2 : Int32))) [(-11), (-12), (-13)]) = (r16 - r16 / (6 : Int32) * (6 : Int32)) → (jL_panels__245 z x2_7 x3_20k Q (fun x2_7 => lL_panels__7 z v1 Q (((zv (s_panelCount z ((nI (z.1 0)))) [(-11)]) = (-11 : Int32) → (((zv (s_panelCount z ((-1 : Int32))) [(-11)]) = (-11 : Int32) → (((zv (s_panelMember z ((nI (z.1 0))) ((3 : Int32))) [(-11), (-12), (-13)]) = (-11 : Int32) → (Q (1 : Int32))) ∧ (¬ (zv (s_panelMember z ((nI (z.1 0))) ((3 : Int32))) [(-11), (-12), (-13)]) = (-11 : Int32) → (Q (0 : Int32))))) ∧ (¬ (zv (s_panelCount z ((-1 : Int32))) [(-11)]) = (-11 : Int32) → (Q (0 : Int32))))) ∧ (¬ (zv (s_panelCount z ((nI (z.1 0)))) [(-11)]) = (-11 : Int32) → (Q (0 : Int32)))) n7 x2_7) (1 : Int32))) ∧ (¬ (zv (s_panelMember z x2_7 ((2 : Int32))) [(-11), (-12), (-13)]) = (r16 - r16 / (6 : Int32) * (6 : Int32)) → (jL_panels__245 z x2_7 x3_20k Q (fun x2_7 => lL_panels__7 z v1 Q (((zv (s_panelCount z ((nI (z.1 0)))) [(-11)]) = (-11 : Int32) → (((zv (s_panelCount z ((-1 : Int32))) [(-11)]) = (-11 : Int32) → (((zv (s_panelMember z ((nI (z.1 0))) ((3 : Int32))) [(-11), (-12), (-13)]) = (-11 : Int32) → (Q (1 : Int32))) ∧ (¬ (zv (s_panelMember z ((nI (z.1 0))) ((3 : Int32))) [(-11), (-12), (-13)]) = (-11 : Int32) → (Q (0 : Int32))))) ∧ (¬ (zv (s_panelCount z ((-1 : Int32))) [(-11)]) = (-11 : Int32) → (Q (0 : Int32))))) ∧ (¬ (zv (s_panelCount z ((nI (z.1 0)))) [(-11)]) = (-11 : Int32) → (Q (0 : Int32)))) n7 x2_7) (0 : Int32))))) ∧ (¬ (zv (s_panelMember z x2_7 ((1 : Int32))) [(-11), (-12), (-13)]) = ((r16 / (6 : Int32)) - (r16 / (6 : Int32)) / (6 : Int32) * (6 : Int32)) → (jL_panels__245 z x2_7 x3_20k Q (fun x2_7 => lL_panels__7 z v1 Q (((zv (s_panelCount z ((nI (z.1 0)))) [(-11)]) = (-11 : Int32) → (((zv (s_panelCount z ((-1 : Int32))) [(-11)]) = (-11 : Int32) → (((zv (s_panelMember z ((nI (z.1 0))) ((3 : Int32))) [(-11), (-12), (-13)]) = (-11 : Int32) → (Q (1 : Int32))) ∧ (¬ (zv (s_panelMember z ((nI (z.1 0))) ((3 : Int32))) [(-11), (-12), (-13)]) = (-11 : Int32) → (Q (0 : Int32))))) ∧ (¬ (zv (s_panelCount z ((-1 : Int32))) [(-11)]) = (-11 : Int32) → (Q (0 : Int32))))) ∧ (¬ (zv (s_panelCount z ((nI (z.1 0)))) [(-11)]) = (-11 : Int32) → (Q (0 : Int32)))) n7 x2_7) (0 : Int32))))) ∧ (¬ (zv (s_panelMember z x2_7 ((0 : Int32))) [(-11), (-12), (-13)]) = (r16 / (36 : Int32)) → (jL_panels__245 z x2_7 x3_20k Q (fun x2_7 => lL_panels__7 z v1 Q (((zv (s_panelCount z ((nI (z.1 0)))) [(-11)]) = (-11 : Int32) → (((zv (s_panelCount z ((-1 : Int32))) [(-11)]) = (-11 : Int32) → (((zv (s_panelMember z ((nI (z.1 0))) ((3 : Int32))) [(-11), (-12), (-13)]) = (-11 : Int32) → (Q (1 : Int32))) ∧ (¬ (zv (s_panelMember z ((nI (z.1 0))) ((3 : Int32))) [(-11), (-12), (-13)]) = (-11 : Int32) → (Q (0 : Int32))))) ∧ (¬ (zv (s_panelCount z ((-1 : Int32))) [(-11)]) = (-11 : Int32) → (Q (0 : Int32))))) ∧ (¬ (zv (s_panelCount z ((nI (z.1 0)))) [(-11)]) = (-11 : Int32) → (Q (0 : Int32)))) n7 x2_7) (0 : Int32))))) ∧ (¬ 0 ≤ r16 → (((zv (s_panelMember z x2_7 ((0 : Int32))) [(-11), (-12), (-13)]) = (-13 : Int32) → ((x3_20k = 0 → (jL_panels__245 z x2_7 x3_20k Q (fun x2_7 => lL_panels__7 z v1 Q (((zv (s_panelCount z ((nI (z.1 0)))) [(-11)]) = (-11 : Int32) → (((zv (s_panelCount z ((-1 : Int32))) [(-11)]) = (-11 : Int32) → (((zv (s_panelMember z ((nI (z.1 0))) ((3 : Int32))) [(-11), (-12), (-13)]) = (-11 : Int32) → (Q (1 : Int32))) ∧ (¬ (zv (s_panelMember z ((nI (z.1 0))) ((3 : Int32))) [(-11), (-12), (-13)]) = (-11 : Int32) → (Q (0 : Int32))))) ∧ (¬ (zv (s_panelCount z ((-1 : Int32))) [(-11)]) = (-11 : Int32) → (Q (0 : Int32))))) ∧ (¬ (zv (s_panelCount z ((nI (z.1 0)))) [(-11)]) = (-11 : Int32) → (Q (0 : Int32)))) n7 x2_7) (1 : Int32))) ∧ (¬ x3_20k = 0 → (jL_panels__245 z x2_7 x3_20k Q (fun x2_7 => lL_panels__7 z v1 Q (((zv (s_panelCount z ((nI (z.1 0)))) [(-11)]) = (-11 : Int32) → (((zv (s_panelCount z ((-1 : Int32))) [(-11)]) = (-11 : Int32) → (((zv (s_panelMember z ((nI (z.1 0))) ((3 : Int32))) [(-11), (-12), (-13)]) = (-11 : Int32) → (Q (1 : Int32))) ∧ (¬ (zv (s_panelMember z ((nI (z.1 0))) ((3 : Int32))) [(-11), (-12), (-13)]) = (-11 : Int32) → (Q (0 : Int32))))) ∧ (¬ (zv (s_panelCount z ((-1 : Int32))) [(-11)]) = (-11 : Int32) → (Q (0 : Int32))))) ∧ (¬ (zv (s_panelCount z ((nI (z.1 0)))) [(-11)]) = (-11 : Int32) → (Q (0 : Int32)))) n7 x2_7) (0 : Int32))))) ∧ (¬ (zv (s_panelMember z x2_7 ((0 : Int32))) [(-11), (-12), (-13)]) = (-13 : Int32) → (jL_panels__245 z x2_7 x3_20k Q (fun x2_7 => lL_panels__7 z v1 Q (((zv (s_panelCount z ((nI (z.1 0)))) [(-11)]) = (-11 : Int32) → (((zv (s_panelCount z ((-1 : Int32))) [(-11)]) = (-11 : Int32) → (((zv (s_panelMember z ((nI (z.1 0))) ((3 : Int32))) [(-11), (-12), (-13)]) = (-11 : Int32) → (Q (1 : Int32))) ∧ (¬ (zv (s_panelMember z ((nI (z.1 0))) ((3 : Int32))) [(-11), (-12), (-13)]) = (-11 : Int32) → (Q (0 : Int32))))) ∧ (¬ (zv (s_panelCount z ((-1 : Int32))) [(-11)]) = (-11 : Int32) → (Q (0 : Int32))))) ∧ (¬ (zv (s_panelCount z ((nI (z.1 0)))) [(-11)]) = (-11 : Int32) → (Q (0 : Int32)))) n7 x2_7) (0 : Int32))))))) n20 x3_20 x4_20) (0 : Int32))) ∧ (¬ x6_50k = 0 → (wJ6_bitCount_0f7a4 x5_50k (fun r58 => (r58 = (3 : Int32) → (jL_panels__152 x3_20 x4_20 (fun x3_20 x4_20 => lL_panels__20 z v1 x2_7 (fun x3_20k => wL_firstPanel x2_7  z (fun r16 => (0 ≤ r16 → (((zv (s_panelMember z x2_7 ((0 : Int32))) [(-11), (-12), (-13)]) = (r16 / (36 : Int32)) → (((zv (s_panelMember z x2_7 ((1 : Int32))) [(-11), (-12), (-13)]) = ((r16 / (6 : Int32)) - (r16 / (6 : Int32)) / (6 : Int32) * (6 : Int32)) → (((zv (s_panelMember z x2_7 ((2 : Int32))) [(-11), (-12), (-13)]) = (r16 - r16 / (6 : Int32) * (6 : Int32)) → (jL_panels__245 z x2_7 x3_20k Q (fun x2_7 => lL_panels__7 z v1 Q (((zv (s_panelCount z ((nI (z.1 0)))) [(-11)]) = (-11 : Int32) → (((zv (s_panelCount z ((-1 : Int32))) [(-11)]) = (-11 : Int32) → (((zv (s_panelMember z ((nI (z.1 0))) ((3 : Int32))) [(-11), (-12), (-13)]) = (-11 : Int32) → (Q (1 : Int32))) ∧ (¬ (zv (s_panelMember z ((nI (z.1 0))) ((3 : Int32))) [(-11), (-12), (-13)]) = (-11 : Int32) → (Q (0 : Int32))))) ∧ (¬ (zv (s_panelCount z ((-1 : Int32))) [(-11)]) = (-11 : Int32) → (Q (0 : Int32))))) ∧ (¬ (zv (s_panelCount z ((nI (z.1 0)))) [(-11)]) = (-11 : Int32) → (Q (0 : Int32)))) n7 x2_7) (1 : Int32))) ∧ (¬ (zv (s_panelMember z x2_7 ((2 : Int32))) [(-11), (-12), (-13)]) = (r16 - r16 / (6 : Int32) * (6 : Int32)) → (jL_panels__245 z x2_7 x3_20k Q (fun x2_7 => lL_panels__7 z v1 Q (((zv (s_panelCount z ((nI (z.1 0)))) [(-11)]) = (-11 : Int32) → (((zv (s_panelCount z ((-1 : Int32))) [(-11)]) = (-11 : Int32) → (((zv (s_panelMember z ((nI (z.1 0))) ((3 : Int32))) [(-11), (-12), (-13)]) = (-11 : Int32) → (Q (1 : Int32))) ∧ (¬ (zv (s_panelMember z ((nI (z.1 0))) ((3 : Int32))) [(-11), (-12), (-13)]) = (-11 : Int32) → (Q (0 : Int32))))) ∧ (¬ (zv (s_panelCount z ((-1 : Int32))) [(-11)]) = (-11 : Int32) → (Q (0 : Int32))))) ∧ (¬ (zv (s_panelCount z ((nI (z.1 0)))) [(-11)]) = (-11 : Int32) → (Q (0 : Int32)))) n7 x2_7) (0 : Int32))))) ∧ (¬ (zv (s_panelMember z x2_7 ((1 : Int32))) [(-11), (-12), (-13)]) = ((r16 / (6 : Int32)) - (r16 / (6 : Int32)) / (6 : Int32) * (6 : Int32)) → (jL_panels__245 z x2_7 x3_20k Q (fun x2_7 => lL_panels__7 z v1 Q (((zv (s_panelCount z ((nI (z.1 0)))) [(-11)]) = (-11 : Int32) → (((zv (s_panelCount z ((-1 : Int32))) [(-11)]) = (-11 : Int32) → (((zv (s_panelMember z ((nI (z.1 0))) ((3 : Int32))) [(-11), (-12), (-13)]) = (-11 : Int32) → (Q (1 : Int32))) ∧ (¬ (zv (s_panelMember z ((nI (z.1 0))) ((3 : Int32))) [(-11), (-12), (-13)]) = (-11 : Int32) → (Q (0 : Int32))))) ∧ (¬ (zv (s_panelCount z ((-1 : Int32))) [(-11)]) = (-11 : Int32) → (Q (0 : Int32))))) ∧ (¬ (zv (s_panelCount z ((nI (z.1 0)))) [(-11)]) = (-11 : Int32) → (Q (0 : Int32)))) n7 x2_7) (0 : Int32))))) ∧ (¬ (zv (s_panelMember z x2_7 ((0 : Int32))) [(-11), (-12), (-13)]) = (r16 / (36 : Int32)) → (jL_panels__245 z x2_7 x3_20k Q (fun x2_7 => lL_panels__7 z v1 Q (((zv (s_panelCount z ((nI (z.1 0)))) [(-11)]) = (-11 : Int32) → (((zv (s_panelCount z ((-1 : Int32))) [(-11)]) = (-11 : Int32) → (((zv (s_panelMember z ((nI (z.1 0))) ((3 : Int32))) [(-11), (-12), (-13)]) = (-11 : Int32) → (Q (1 : Int32))) ∧ (¬ (zv (s_panelMember z ((nI (z.1 0))) ((3 : Int32))) [(-11), (-12), (-13)]) = (-11 : Int32) → (Q (0 : Int32))))) ∧ (¬ (zv (s_panelCount z ((-1 : Int32))) [(-11)]) = (-11 : Int32) → (Q (0 : Int32))))) ∧ (¬ (zv (s_panelCount z ((nI (z.1 0)))) [(-11)]) = (-11 : Int32) → (Q (0 : Int32)))) n7 x2_7) (0 : Int32))))) ∧ (¬ 0 ≤ r16 → (((zv (s_panelMember z x2_7 ((0 : Int32))) [(-11), (-12), (-13)]) = (-13 : Int32) → ((x3_20k = 0 → (jL_panels__245 z x2_7 x3_20k Q (fun x2_7 => lL_panels__7 z v1 Q (((zv (s_panelCount z ((nI (z.1 0)))) [(-11)]) = (-11 : Int32) → (((zv (s_panelCount z ((-1 : Int32))) [(-11)]) = (-11 : Int32) → (((zv (s_panelMember z ((nI (z.1 0))) ((3 : Int32))) [(-11), (-12), (-13)]) = (-11 : Int32) → (Q (1 : Int32))) ∧ (¬ (zv (s_panelMember z ((nI (z.1 0))) ((3 : Int32))) [(-11), (-12), (-13)]) = (-11 : Int32) → (Q (0 : Int32))))) ∧ (¬ (zv (s_panelCount z ((-1 : Int32))) [(-11)]) = (-11 : Int32) → (Q (0 : Int32))))) ∧ (¬ (zv (s_panelCount z ((nI (z.1 0)))) [(-11)]) = (-11 : Int32) → (Q (0 : Int32)))) n7 x2_7) (1 : Int32))) ∧ (¬ x3_20k = 0 → (jL_panels__245 z x2_7 x3_20k Q (fun x2_7 => lL_panels__7 z v1 Q (((zv (s_panelCount z ((nI (z.1 0)))) [(-11)]) = (-11 : Int32) → (((zv (s_panelCount z ((-1 : Int32))) [(-11)]) = (-11 : Int32) → (((zv (s_panelMember z ((nI (z.1 0))) ((3 : Int32))) [(-11), (-12), (-13)]) = (-11 : Int32) → (Q (1 : Int32))) ∧ (¬ (zv (s_panelMember z ((nI (z.1 0))) ((3 : Int32))) [(-11), (-12), (-13)]) = (-11 : Int32) → (Q (0 : Int32))))) ∧ (¬ (zv (s_panelCount z ((-1 : Int32))) [(-11)]) = (-11 : Int32) → (Q (0 : Int32))))) ∧ (¬ (zv (s_panelCount z ((nI (z.1 0)))) [(-11)]) = (-11 : Int32) → (Q (0 : Int32)))) n7 x2_7) (0 : Int32))))) ∧ (¬ (zv (s_panelMember z x2_7 ((0 : Int32))) [(-11), (-12), (-13)]) = (-13 : Int32) → (jL_panels__245 z x2_7 x3_20k Q (fun x2_7 => lL_panels__7 z v1 Q (((zv (s_panelCount z ((nI (z.1 0)))) [(-11)]) = (-11 : Int32) → (((zv (s_panelCount z ((-1 : Int32))) [(-11)]) = (-11 : Int32) → (((zv (s_panelMember z ((nI (z.1 0))) ((3 : Int32))) [(-11), (-12), (-13)]) = (-11 : Int32) → (Q (1 : Int32))) ∧ (¬ (zv (s_panelMember z ((nI (z.1 0))) ((3 : Int32))) [(-11), (-12), (-13)]) = (-11 : Int32) → (Q (0 : Int32))))) ∧ (¬ (zv (s_panelCount z ((-1 : Int32))) [(-11)]) = (-11 : Int32) → (Q (0 : Int32))))) ∧ (¬ (zv (s_panelCount z ((nI (z.1 0)))) [(-11)]) = (-11 : Int32) → (Q (0 : Int32)))) n7 x2_7) (0 : Int32))))))) n20 x3_20 x4_20) (1 : Int32))) ∧ (¬ r58 = (3 : Int32) → (jL_panels__152 x3_20 x4_20 (fun x3_20 x4_20 => lL_panels__20 z v1 x2_7 (fun x3_20k => wL_firstPanel x2_7  z (fun r16 => (0 ≤ r16 → (((zv (s_panelMember z x2_7 ((0 : Int32))) [(-11), (-12), (-13)]) = (r16 / (36 : Int32)) → (((zv (s_panelMember z x2_7 ((1 : Int32))) [(-11), (-12), (-13)]) = ((r16 / (6 : Int32)) - (r16 / (6 : Int32)) / (6 : Int32) * (6 : Int32)) → (((zv (s_panelMember z x2_7 ((2 : Int32))) [(-11), (-12), (-13)]) = (r16 - r16 / (6 : Int32) * (6 : Int32)) → (jL_panels__245 z x2_7 x3_20k Q (fun x2_7 => lL_panels__7 z v1 Q (((zv (s_panelCount z ((nI (z.1 0)))) [(-11)]) = (-11 : Int32) → (((zv (s_panelCount z ((-1 : Int32))) [(-11)]) = (-11 : Int32) → (((zv (s_panelMember z ((nI (z.1 0))) ((3 : Int32))) [(-11), (-12), (-13)]) = (-11 : Int32) → (Q (1 : Int32))) ∧ (¬ (zv (s_panelMember z ((nI (z.1 0))) ((3 : Int32))) [(-11), (-12), (-13)]) = (-11 : Int32) → (Q (0 : Int32))))) ∧ (¬ (zv (s_panelCount z ((-1 : Int32))) [(-11)]) = (-11 : Int32) → (Q (0 : Int32))))) ∧ (¬ (zv (s_panelCount z ((nI (z.1 0)))) [(-11)]) = (-11 : Int32) → (Q (0 : Int32)))) n7 x2_7) (1 : Int32))) ∧ (¬ (zv (s_panelMember z x2_7 ((2 : Int32))) [(-11), (-12), (-13)]) = (r16 - r16 / (6 : Int32) * (6 : Int32)) → (jL_panels__245 z x2_7 x3_20k Q (fun x2_7 => lL_panels__7 z v1 Q (((zv (s_panelCount z ((nI (z.1 0)))) [(-11)]) = (-11 : Int32) → (((zv (s_panelCount z ((-1 : Int32))) [(-11)]) = (-11 : Int32) → (((zv (s_panelMember z ((nI (z.1 0))) ((3 : Int32))) [(-11), (-12), (-13)]) = (-11 : Int32) → (Q (1 : Int32))) ∧ (¬ (zv (s_panelMember z ((nI (z.1 0))) ((3 : Int32))) [(-11), (-12), (-13)]) = (-11 : Int32) → (Q (0 : Int32))))) ∧ (¬ (zv (s_panelCount z ((-1 : Int32))) [(-11)]) = (-11 : Int32) → (Q (0 : Int32))))) ∧ (¬ (zv (s_panelCount z ((nI (z.1 0)))) [(-11)]) = (-11 : Int32) → (Q (0 : Int32)))) n7 x2_7) (0 : Int32))))) ∧ (¬ (zv (s_panelMember z x2_7 ((1 : Int32))) [(-11), (-12), (-13)]) = ((r16 / (6 : Int32)) - (r16 / (6 : Int32)) / (6 : Int32) * (6 : Int32)) → (jL_panels__245 z x2_7 x3_20k Q (fun x2_7 => lL_panels__7 z v1 Q (((zv (s_panelCount z ((nI (z.1 0)))) [(-11)]) = (-11 : Int32) → (((zv (s_panelCount z ((-1 : Int32))) [(-11)]) = (-11 : Int32) → (((zv (s_panelMember z ((nI (z.1 0))) ((3 : Int32))) [(-11), (-12), (-13)]) = (-11 : Int32) → (Q (1 : Int32))) ∧ (¬ (zv (s_panelMember z ((nI (z.1 0))) ((3 : Int32))) [(-11), (-12), (-13)]) = (-11 : Int32) → (Q (0 : Int32))))) ∧ (¬ (zv (s_panelCount z ((-1 : Int32))) [(-11)]) = (-11 : Int32) → (Q (0 : Int32))))) ∧ (¬ (zv (s_panelCount z ((nI (z.1 0)))) [(-11)]) = (-11 : Int32) → (Q (0 : Int32)))) n7 x2_7) (0 : Int32))))) ∧ (¬ (zv (s_panelMember z x2_7 ((0 : Int32))) [(-11), (-12), (-13)]) = (r16 / (36 : Int32)) → (jL_panels__245 z x2_7 x3_20k Q (fun x2_7 => lL_panels__7 z v1 Q (((zv (s_panelCount z ((nI (z.1 0)))) [(-11)]) = (-11 : Int32) → (((zv (s_panelCount z ((-1 : Int32))) [(-11)]) = (-11 : Int32) → (((zv (s_panelMember z ((nI (z.1 0))) ((3 : Int32))) [(-11), (-12), (-13)]) = (-11 : Int32) → (Q (1 : Int32))) ∧ (¬ (zv (s_panelMember z ((nI (z.1 0))) ((3 : Int32))) [(-11), (-12), (-13)]) = (-11 : Int32) → (Q (0 : Int32))))) ∧ (¬ (zv (s_panelCount z ((-1 : Int32))) [(-11)]) = (-11 : Int32) → (Q (0 : Int32))))) ∧ (¬ (zv (s_panelCount z ((nI (z.1 0)))) [(-11)]) = (-11 : Int32) → (Q (0 : Int32)))) n7 x2_7) (0 : Int32))))) ∧ (¬ 0 ≤ r16 → (((zv (s_panelMember z x2_7 ((0 : Int32))) [(-11), (-12), (-13)]) = (-13 : Int32) → ((x3_20k = 0 → (jL_panels__245 z x2_7 x3_20k Q (fun x2_7 => lL_panels__7 z v1 Q (((zv (s_panelCount z ((nI (z.1 0)))) [(-11)]) = (-11 : Int32) → (((zv (s_panelCount z ((-1 : Int32))) [(-11)]) = (-11 : Int32) → (((zv (s_panelMember z ((nI (z.1 0))) ((3 : Int32))) [(-11), (-12), (-13)]) = (-11 : Int32) → (Q (1 : Int32))) ∧ (¬ (zv (s_panelMember z ((nI (z.1 0))) ((3 : Int32))) [(-11), (-12), (-13)]) = (-11 : Int32) → (Q (0 : Int32))))) ∧ (¬ (zv (s_panelCount z ((-1 : Int32))) [(-11)]) = (-11 : Int32) → (Q (0 : Int32))))) ∧ (¬ (zv (s_panelCount z ((nI (z.1 0)))) [(-11)]) = (-11 : Int32) → (Q (0 : Int32)))) n7 x2_7) (1 : Int32))) ∧ (¬ x3_20k = 0 → (jL_panels__245 z x2_7 x3_20k Q (fun x2_7 => lL_panels__7 z v1 Q (((zv (s_panelCount z ((nI (z.1 0)))) [(-11)]) = (-11 : Int32) → (((zv (s_panelCount z ((-1 : Int32))) [(-11)]) = (-11 : Int32) → (((zv (s_panelMember z ((nI (z.1 0))) ((3 : Int32))) [(-11), (-12), (-13)]) = (-11 : Int32) → (Q (1 : Int32))) ∧ (¬ (zv (s_panelMember z ((nI (z.1 0))) ((3 : Int32))) [(-11), (-12), (-13)]) = (-11 : Int32) → (Q (0 : Int32))))) ∧ (¬ (zv (s_panelCount z ((-1 : Int32))) [(-11)]) = (-11 : Int32) → (Q (0 : Int32))))) ∧ (¬ (zv (s_panelCount z ((nI (z.1 0)))) [(-11)]) = (-11 : Int32) → (Q (0 : Int32)))) n7 x2_7) (0 : Int32))))) ∧ (¬ (zv (s_panelMember z x2_7 ((0 : Int32))) [(-11), (-12), (-13)]) = (-13 : Int32) → (jL_panels__245 z x2_7 x3_20k Q (fun x2_7 => lL_panels__7 z v1 Q (((zv (s_panelCount z ((nI (z.1 0)))) [(-11)]) = (-11 : Int32) → (((zv (s_panelCount z ((-1 : Int32))) [(-11)]) = (-11 : Int32) → (((zv (s_panelMember z ((nI (z.1 0))) ((3 : Int32))) [(-11), (-12), (-13)]) = (-11 : Int32) → (Q (1 : Int32))) ∧ (¬ (zv (s_panelMember z ((nI (z.1 0))) ((3 : Int32))) [(-11), (-12), (-13)]) = (-11 : Int32) → (Q (0 : Int32))))) ∧ (¬ (zv (s_panelCount z ((-1 : Int32))) [(-11)]) = (-11 : Int32) → (Q (0 : Int32))))) ∧ (¬ (zv (s_panelCount z ((nI (z.1 0)))) [(-11)]) = (-11 : Int32) → (Q (0 : Int32)))) n7 x2_7) (0 : Int32))))))) n20 x3_20 x4_20) (0 : Int32))))))) n50 x5_50 x6_50 x7_50) t0_123 → cj123 ≤ CJ123 → sj123 ≤ SJ123 → zl_Wd g [] z s H locs → lv_has ls 9 [(0, .ref (sw_ad g 0)), (1, .int v1), (2, .int x2_7), (3, .int x3_20), (4, .int x4_20), (6, .int t0_99), (7, .int x7_50)] → W p l e R s m args below meth c H locs cj123 sj123 Q0 (F0 m 123 ls [.int t0_123, .int x5_50]) := by
                            intro t0_123 H locs ls cj123 sj123 h hcj123 hsj123 hW hl
                            unfold jL_panels__123 at h
                            have g73 : cj123 + 6192 ≤ R.cells := zc8 (x := cj99) (D := 1) (s := 6193) (s' := 6192) hcj123 hCJ123 g69 (Nat.le_of_ble_eq_true rfl)
                            have g74 : cj123 + 0 ≤ Tcn50 := zc8 (x := cj99) (D := 1) (s := 1) (s' := 0) hcj123 hCJ123 g70 (Nat.le_of_ble_eq_true rfl)
                            have g75 : sj123 + 37152 ≤ R.slots := zc8 (x := sj99) (D := 6) (s := 37158) (s' := 37152) hsj123 hSJ123 g71 (Nat.le_of_ble_eq_true rfl)
                            have g76 : sj123 + 0 ≤ Tsn50 := zc8 (x := sj99) (D := 6) (s := 6) (s' := 0) hsj123 hSJ123 g72 (Nat.le_of_ble_eq_true rfl)
                            refine lv_ior hx hb dL_panels__123 ?_
                            refine lv_topi (fun v77 ev77 => ?_)
                            replace h := h v77 ev77
                            refine lv_istore (lv' := [(5, .int v77), (0, .ref (sw_ad g 0)), (1, .int v1), (2, .int x2_7), (3, .int x3_20), (4, .int x4_20), (6, .int t0_99), (7, .int x7_50)]) hx hb dL_panels__124 hl (Nat.le_of_ble_eq_true rfl) rfl (fun ls hl => ?_)
                            obtain ⟨v78, ev78⟩ : ∃ z : Int32, z = x7_50 + (1 : Int32) := ⟨_, rfl⟩
                            replace h := h v78 ev78
                            refine lv_iinc (v := v78) (lv' := [(7, .int v78), (5, .int v77), (0, .ref (sw_ad g 0)), (1, .int v1), (2, .int x2_7), (3, .int x3_20), (4, .int x4_20), (6, .int t0_99)]) hx hb dL_panels__126 hl (k := 7) rfl (by rw [ev78]; rfl) (Nat.le_of_ble_eq_true rfl) rfl (fun ls hl => ?_)
                            refine lv_goto (tgt := 50) hx hb dL_panels__129 (by decide) ?_
                            exact ih50 v77 t0_99 v78 _ _ _ _ _ h (zc10 (zc1 (D := 0) g74 (Nat.le_of_ble_eq_true rfl)) hTcn50 hcn50) (zc10 (zc1 (D := 0) g76 (Nat.le_of_ble_eq_true rfl)) hTsn50 hsn50) hW (lv_sub hl [2, 3, 4, 5, 6, 1, 7, 0] rfl)
                          have g79 : cj99 + 1 ≤ CJ123 := Nat.le_of_eq hCJ123.symm
                          have g80 : sj99 + 6 ≤ SJ123 := Nat.le_of_eq hSJ123.symm
                          refine lv_if_eq (tgt := 122) hx hb dL_panels__105 (by decide) (fun k81 => ?_) (fun k81 => ?_)
                          · replace h := h.1 k81
                            refine lv_iconst (v := 0) hx hb dL_panels__122 (by decide) ?_
                            exact hJ123 (0 : Int32) _ _ _ _ _ h (zc1 (D := 0) g79 (Nat.le_of_ble_eq_true rfl)) (zc1 (D := 0) g80 (Nat.le_of_ble_eq_true rfl)) hW (lv_sub hl [1, 2, 3, 4, 5, 0, 7] rfl)
                          · replace h := h.2 k81
                            refine lv_iconst (v := 1) hx hb dL_panels__108 (by decide) ?_
                            refine lv_aload_n hx hb dL_panels__109 rfl (lv_at hl 1 rfl) ?_
                            refine lv_iload hx hb dL_panels__110 (lv_at hl 7 rfl) ?_
                            have y82 := h.1
                            replace h := h.2
                            refine zl_ki (g := g) (rest := [.int (1 : Int32), .int x5_50]) (zl_runV (g := g) (As := [.int x7_50]) (rest := [.int (1 : Int32), .int x5_50]) hx hb hml hown hts (zD_frameOfExaminer l hst (zl_re g H.size) z x7_50 y82) cv_X6_frameOfExaminer q_613 rfl rfl ⟨by rw [hRf]; exact (Nat.le_of_ble_eq_true rfl), by rw [hRl]; exact (Nat.le_of_ble_eq_true rfl)⟩ hW (Or.inl (Nat.le_of_ble_eq_true rfl)) sl_0 rfl rfl hl.1 rfl (Nat.le_of_ble_eq_true rfl) dL_panels__112 ⟨(zc1 (D := 1) g69 (Nat.le_of_ble_eq_true rfl)), (zc1 (D := 6) g71 (Nat.le_of_ble_eq_true rfl))⟩) hW (fun r9 z9 H locs h9 hW => ?_)
                            clear y82
                            obtain ⟨rfl, e9⟩ := h9
                            rw [e9, s_frameOfExaminer_z] at hW
                            refine lv_bipush (v := 97) hx hb dL_panels__115 (by decide) ?_
                            refine lv_isub hx hb dL_panels__117 ?_
                            refine lv_ishl hx hb dL_panels__118 ?_
                            refine lv_goto (tgt := 123) hx hb dL_panels__119 (by decide) ?_
                            exact hJ123 ((1 : Int32) <<< (((nI (s_frameOfExaminer z x7_50).2.1) - (97 : Int32)) &&& 31)) _ _ _ _ _ h (zc1 (D := 1) g79 (Nat.le_of_ble_eq_true rfl)) (zc1 (D := 6) g80 (Nat.le_of_ble_eq_true rfl)) hW (lv_sub hl [1, 2, 3, 4, 5, 0, 7] rfl)
                        have g83 : cj72 + 4 ≤ CJ99 := Nat.le_of_eq hCJ99.symm
                        have g84 : sj72 + 24 ≤ SJ99 := Nat.le_of_eq hSJ99.symm
                        refine lv_if_eq (tgt := 98) hx hb dL_panels__76 (by decide) (fun k85 => ?_) (fun k85 => ?_)
                        · replace h := h.1 k85
                          refine lv_iconst (v := 0) hx hb dL_panels__98 (by decide) ?_
                          exact hJ99 (0 : Int32) _ _ _ _ _ h (zc1 (D := 0) g83 (Nat.le_of_ble_eq_true rfl)) (zc1 (D := 0) g84 (Nat.le_of_ble_eq_true rfl)) hW (lv_sub hl [1, 2, 3, 4, 5, 6, 8, 0] rfl)
                        · replace h := h.2 k85
                          refine lv_iload hx hb dL_panels__79 (lv_at hl 0 rfl) ?_
                          refine lv_if_eq (tgt := 94) hx hb dL_panels__81 (by decide) (fun k86 => ?_) (fun k86 => ?_)
                          · replace h := h.1 k86
                            refine lv_iconst (v := 1) hx hb dL_panels__94 (by decide) ?_
                            refine lv_goto (tgt := 99) hx hb dL_panels__95 (by decide) ?_
                            exact hJ99 (1 : Int32) _ _ _ _ _ h (zc1 (D := 0) g83 (Nat.le_of_ble_eq_true rfl)) (zc1 (D := 0) g84 (Nat.le_of_ble_eq_true rfl)) hW (lv_sub hl [1, 2, 3, 4, 5, 6, 8, 0] rfl)
                          · replace h := h.2 k86
                            refine lv_aload_n hx hb dL_panels__84 rfl (lv_at hl 1 rfl) ?_
                            refine lv_iload hx hb dL_panels__85 (lv_at hl 8 rfl) ?_
                            refine lv_iload_n hx hb dL_panels__87 rfl (lv_at hl 3 rfl) ?_
                            refine zl_ki (g := g) (rest := []) (zl_runS (g := g) (As := [.ref (sw_ad g 0), .int x7_50, .int x2_7]) (rest := []) hx hb hml hown hts (kL_canSit l hst (zl_re g H.size) x7_50 x2_7 z _ h) cs_L_canSit q_663 rfl rfl ⟨by rw [hRf]; exact (Nat.le_of_ble_eq_true rfl), by rw [hRl]; exact (Nat.le_of_ble_eq_true rfl)⟩ hW rfl hl.1 rfl (Nat.le_of_ble_eq_true rfl) dL_panels__88 ⟨(zc1 (D := 4) g65 (Nat.le_of_ble_eq_true rfl)), (zc1 (D := 24) g67 (Nat.le_of_ble_eq_true rfl))⟩) hW (fun r87 z9 H locs h hW => ?_)
                            obtain ⟨h, e9⟩ := h
                            rw [e9] at hW
                            refine lv_if_eq (tgt := 98) hx hb dL_panels__91 (by decide) (fun k88 => ?_) (fun k88 => ?_)
                            · replace h := h.1 k88
                              refine lv_iconst (v := 0) hx hb dL_panels__98 (by decide) ?_
                              exact hJ99 (0 : Int32) _ _ _ _ _ h (zc1 (D := 4) g83 (Nat.le_of_ble_eq_true rfl)) (zc1 (D := 24) g84 (Nat.le_of_ble_eq_true rfl)) hW (lv_sub hl [1, 2, 3, 4, 5, 6, 8, 0] rfl)
                            · replace h := h.2 k88
                              refine lv_iconst (v := 1) hx hb dL_panels__94 (by decide) ?_
                              refine lv_goto (tgt := 99) hx hb dL_panels__95 (by decide) ?_
                              exact hJ99 (1 : Int32) _ _ _ _ _ h (zc1 (D := 4) g83 (Nat.le_of_ble_eq_true rfl)) (zc1 (D := 24) g84 (Nat.le_of_ble_eq_true rfl)) hW (lv_sub hl [1, 2, 3, 4, 5, 6, 8, 0] rfl)
                      have g89 : cn50 + 0 ≤ CJ72 := Nat.le_of_eq hCJ72.symm
                      have g90 : sn50 + 0 ≤ SJ72 := Nat.le_of_eq hSJ72.symm
                      refine lv_icmp_ne (tgt := 71) hx hb dL_panels__64 (by decide) (fun k91 => ?_) (fun k91 => ?_)
                      · replace h := h.2 k91
                        refine lv_iconst (v := 0) hx hb dL_panels__71 (by decide) ?_
                        exact hJ72 (0 : Int32) _ _ _ _ _ h (zc1 (D := 0) g89 (Nat.le_of_ble_eq_true rfl)) (zc1 (D := 0) g90 (Nat.le_of_ble_eq_true rfl)) hW (lv_sub hl [0, 1, 2, 3, 4, 5, 6, 7] rfl)
                      · replace h := h.1 k91
                        refine lv_iconst (v := 1) hx hb dL_panels__67 (by decide) ?_
                        refine lv_goto (tgt := 72) hx hb dL_panels__68 (by decide) ?_
                        exact hJ72 (1 : Int32) _ _ _ _ _ h (zc1 (D := 0) g89 (Nat.le_of_ble_eq_true rfl)) (zc1 (D := 0) g90 (Nat.le_of_ble_eq_true rfl)) hW (lv_sub hl [0, 1, 2, 3, 4, 5, 6, 7] rfl)
                exact key50 7 (0 : Int32) t0_45 (0 : Int32) _ _ _ _ _ h (Nat.le_of_eq hCL50.symm) (Nat.le_of_eq hSL50.symm) hW (lv_sub hl [2, 3, 4, 5, 6, 7, 1, 0] rfl)
              have g92 : cn20 + 0 ≤ CJ45 := Nat.le_of_eq hCJ45.symm
              have g93 : sn20 + 0 ≤ SJ45 := Nat.le_of_eq hSJ45.symm
              refine lv_icmp_ne (tgt := 44) hx hb dL_panels__37 (by decide) (fun k94 => ?_) (fun k94 => ?_)
              · replace h := h.2 k94
                refine lv_iconst (v := 0) hx hb dL_panels__44 (by decide) ?_
                exact hJ45 (0 : Int32) _ _ _ _ _ h (zc1 (D := 0) g92 (Nat.le_of_ble_eq_true rfl)) (zc1 (D := 0) g93 (Nat.le_of_ble_eq_true rfl)) hW (lv_sub hl [1, 2, 3, 4, 5, 0] rfl)
              · replace h := h.1 k94
                refine lv_iconst (v := 1) hx hb dL_panels__40 (by decide) ?_
                refine lv_goto (tgt := 45) hx hb dL_panels__41 (by decide) ?_
                exact hJ45 (1 : Int32) _ _ _ _ _ h (zc1 (D := 0) g92 (Nat.le_of_ble_eq_true rfl)) (zc1 (D := 0) g93 (Nat.le_of_ble_eq_true rfl)) hW (lv_sub hl [1, 2, 3, 4, 5, 0] rfl)
        exact key20 65 (0 : Int32) (0 : Int32) _ _ _ _ _ h (Nat.le_of_eq hCL20.symm) (Nat.le_of_eq hSL20.symm) hW (lv_sub hl [2, 3, 4, 1, 0] rfl)
  exact key7 9 (0 : Int32) _ _ _ _ _ h (Nat.le_of_eq hCL7.symm) (Nat.le_of_eq hSL7.symm) hW (lv_sub hl [2, 1, 0] rfl)
