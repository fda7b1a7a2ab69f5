/-! The law's questions over pictures. -/
theorem s_doorAtRank_z (z : zG) (a1 : Int32) : (s_doorAtRank z a1).2.2 = z := by
  unfold s_doorAtRank
  first | rfl | (split <;> first | rfl | (split <;> first | rfl | (split <;> rfl)))
theorem s_doorOf_z (z : zG) (a1 : Int32) : (s_doorOf z a1).2.2 = z := by
  unfold s_doorOf
  first | rfl | (split <;> first | rfl | (split <;> first | rfl | (split <;> rfl)))
theorem s_examinersOf_z (z : zG) (a1 : Int32) : (s_examinersOf z a1).2.2 = z := by
  unfold s_examinersOf
  first | rfl | (split <;> first | rfl | (split <;> first | rfl | (split <;> rfl)))
theorem s_frameOfDoor_z (z : zG) (a1 : Int32) : (s_frameOfDoor z a1).2.2 = z := by
  unfold s_frameOfDoor
  first | rfl | (split <;> first | rfl | (split <;> first | rfl | (split <;> rfl)))
theorem s_frameOfExaminer_z (z : zG) (a1 : Int32) : (s_frameOfExaminer z a1).2.2 = z := by
  unfold s_frameOfExaminer
  first | rfl | (split <;> first | rfl | (split <;> first | rfl | (split <;> rfl)))
theorem s_gradeBy_z (z : zG) (a1 a2 : Int32) : (s_gradeBy z a1 a2).2.2 = z := by
  unfold s_gradeBy
  first | rfl | (split <;> first | rfl | (split <;> first | rfl | (split <;> rfl)))
theorem s_gradesOf_z (z : zG) (a1 : Int32) : (s_gradesOf z a1).2.2 = z := by
  unfold s_gradesOf
  first | rfl | (split <;> first | rfl | (split <;> first | rfl | (split <;> rfl)))
theorem s_isAssigned_z (z : zG) (a1 a2 : Int32) : (s_isAssigned z a1 a2).2.2 = z := by
  unfold s_isAssigned
  first | rfl | (split <;> first | rfl | (split <;> first | rfl | (split <;> rfl)))
theorem s_isEntitled_z (z : zG) (a1 : Int32) : (s_isEntitled z a1).2.2 = z := by
  unfold s_isEntitled
  first | rfl | (split <;> first | rfl | (split <;> first | rfl | (split <;> rfl)))
theorem s_isNeutral_z (z : zG) (a1 a2 : Int32) : (s_isNeutral z a1 a2).2.2 = z := by
  unfold s_isNeutral
  first | rfl | (split <;> first | rfl | (split <;> first | rfl | (split <;> rfl)))
theorem s_isRevoked_z (z : zG) (a1 : Int32) : (s_isRevoked z a1).2.2 = z := by
  unfold s_isRevoked
  first | rfl | (split <;> first | rfl | (split <;> first | rfl | (split <;> rfl)))
theorem s_load_z (z : zG) (a1 : Int32) : (s_load z a1).2.2 = z := by
  unfold s_load
  first | rfl | (split <;> first | rfl | (split <;> first | rfl | (split <;> rfl)))
theorem s_mayJudge_z (z : zG) (a1 a2 : Int32) : (s_mayJudge z a1 a2).2.2 = z := by
  unfold s_mayJudge
  first | rfl | (split <;> first | rfl | (split <;> first | rfl | (split <;> rfl)))
theorem s_outputAt_z (z : zG) (a1 : Int32) : (s_outputAt z a1).2.2 = z := by
  unfold s_outputAt
  first | rfl | (split <;> first | rfl | (split <;> first | rfl | (split <;> rfl)))
theorem s_panelCount_z (z : zG) (a1 : Int32) : (s_panelCount z a1).2.2 = z := by
  unfold s_panelCount
  first | rfl | (split <;> first | rfl | (split <;> first | rfl | (split <;> rfl)))
theorem s_panelMember_z (z : zG) (a1 a2 : Int32) : (s_panelMember z a1 a2).2.2 = z := by
  unfold s_panelMember
  first | rfl | (split <;> first | rfl | (split <;> first | rfl | (split <;> rfl)))
theorem s_passes_z (z : zG) (a1 : Int32) : (s_passes z a1).2.2 = z := by
  unfold s_passes
  first | rfl | (split <;> first | rfl | (split <;> first | rfl | (split <;> rfl)))
theorem s_planned_z (z : zG) (a1 : Int32) : (s_planned z a1).2.2 = z := by
  unfold s_planned
  first | rfl | (split <;> first | rfl | (split <;> first | rfl | (split <;> rfl)))
theorem s_result_z (z : zG) (a1 : Int32) : (s_result z a1).2.2 = z := by
  unfold s_result
  first | rfl | (split <;> first | rfl | (split <;> first | rfl | (split <;> rfl)))
theorem s_topic_z (z : zG) (a1 : Int32) : (s_topic z a1).2.2 = z := by
  unfold s_topic
  first | rfl | (split <;> first | rfl | (split <;> first | rfl | (split <;> rfl)))
theorem s_wasGranted_z (z : zG) (a1 : Int32) : (s_wasGranted z a1).2.2 = z := by
  unfold s_wasGranted
  first | rfl | (split <;> first | rfl | (split <;> first | rfl | (split <;> rfl)))
theorem zJ_bitCount (l : Launch) (g : sG) (a1 : Int32) (z : zG) (Q : Int32 → Prop) (h : wJ6_bitCount_0f7a4 a1 Q) : Met l yJ6_bitCount_0f7a4 (sw_ws yJ6_bitCount_0f7a4 cJ6_bitCount_0f7a4 1 (some .int)) { frames := 0, cells := 0, slots := 0, locals := 0 } (va_Pc [.int a1] (zl_Pr g z)) (va_Qi (fun r z' => Q r ∧ z' = z) (zl_Po g) (sw_A g)) 0 0 (sw_A g) :=
  zl_up (fun M hC hG => kJ6_bitCount_0f7a4 l g a1 M Q h) (fun M hC hG a st o t q => by
    obtain ⟨⟨r, M1, h1, ⟨h2, rfl⟩, h3⟩, h4⟩ := q
    exact ⟨⟨r, z, h1, ⟨h2, rfl⟩, M1, hC, hG, by rw [List.append_nil]; exact h3⟩, h4⟩)
def lL_median_35 (v14 : Int32) (K35 : Int32 → (Nat → Int32) → Prop) : Nat → Int32 → (Nat → Int32) → Prop
  | 0, _, _ => False
  | n35 + 1, x6_35, f_q1_35 => (x6_35 ≤ 0 → (K35 x6_35 f_q1_35)) ∧ (¬ x6_35 ≤ 0 → (vp_in (x6_35 - (1 : Int32)) 3 ∧ (((f_q1_35 ((x6_35 - (1 : Int32))).toNatClampNeg) ≤ v14 → (K35 x6_35 f_q1_35)) ∧ (¬ (f_q1_35 ((x6_35 - (1 : Int32))).toNatClampNeg) ≤ v14 → (vp_in (x6_35 - (1 : Int32)) 3 ∧ (vp_in x6_35 3 ∧ (∀ f34 : (Nat → Int32), f34 = upd f_q1_35 (x6_35).toNatClampNeg ((f_q1_35 ((x6_35 - (1 : Int32))).toNatClampNeg)) → (∀ v35 : Int32, v35 = x6_35 + (-1 : Int32) → ((fun x6_35 f_q1_35 => lL_median_35 v14 K35 n35 x6_35 f_q1_35) v35 f34)))))))))
def lL_median_9 (a2 : Int32) (z : zG) (K9 : Int32 → (Nat → Int32) → Prop) : Nat → Int32 → Int32 → (Nat → Int32) → Prop
  | 0, _, _, _ => False
  | n9 + 1, x3_9, x4_9, f_q1_9 => ((nI (z.1 1)) ≤ x4_9 → (K9 x3_9 f_q1_9)) ∧ (¬ (nI (z.1 1)) ≤ x4_9 → (∀ v14 : Int32, v14 = (zv (s_gradeBy z x4_9 a2) [(-11), (-13)]) → ((v14 < 0 → (∀ v16 : Int32, v16 = x4_9 + (1 : Int32) → ((fun x3_9 x4_9 f_q1_9 => lL_median_9 a2 z K9 n9 x3_9 x4_9 f_q1_9) x3_9 v16 f_q1_9))) ∧ (¬ v14 < 0 → (lL_median_35 v14 (fun x6_35k f_q1_35k => vp_in x6_35k 3 ∧ (∀ f22 : (Nat → Int32), f22 = upd f_q1_35k (x6_35k).toNatClampNeg v14 → (∀ v23 : Int32, v23 = x3_9 + (1 : Int32) → (∀ v24 : Int32, v24 = x4_9 + (1 : Int32) → ((fun x3_9 x4_9 f_q1_9 => lL_median_9 a2 z K9 n9 x3_9 x4_9 f_q1_9) v23 v24 f22))))) 4 x3_9 f_q1_9)))))
def wL_median (a2 : Int32) (z : zG) (Q : Int32 → Prop) : Prop :=
  lL_median_9 a2 z (fun x3_9k f_q1_9k => ((2 : Int32) ≤ x3_9k → ((x3_9k = (2 : Int32) → (vp_in (0 : Int32) 3 ∧ (vp_in (1 : Int32) 3 ∧ (Q (((f_q1_9k ((0 : Int32)).toNatClampNeg) + (f_q1_9k ((1 : Int32)).toNatClampNeg)) / (2 : Int32)))))) ∧ (¬ x3_9k = (2 : Int32) → (vp_in (1 : Int32) 3 ∧ (Q (f_q1_9k ((1 : Int32)).toNatClampNeg)))))) ∧ (¬ (2 : Int32) ≤ x3_9k → (Q (-13 : Int32)))) 7 (0 : Int32) (0 : Int32) (fun _ => 0)
theorem cs_L_median : sw_cS yL_median cL_median 7 (some .int) 2 := ⟨q_524, q_1, q_525, by decide +kernel⟩
set_option maxRecDepth 20000 in
set_option maxHeartbeats 4000000 in
theorem kL_median (l : Launch) (hst : l.stackTraces = false) (g : sG) (a2 : Int32) (z : zG) (Q : Int32 → Prop) (h : wL_median a2 z Q) : Met l yL_median (sw_ws yL_median cL_median 7 (some .int)) { frames := 10, cells := 22, slots := 135, locals := 183 } (va_Pc [.ref (sw_ad g 0), .int a2] (zl_Pr g z)) (va_Qi (fun r z' => Q r ∧ z' = z) (zl_Po g) (sw_A g)) 22 135 (sw_A g) := by
  refine zl_met (by decide) (Nat.le_of_ble_eq_true rfl) ?_
  intro p e s m args below meth c ls hx hb hr hts hown hml hlocks hW hl
  have hown : s.vm.findClass RL = some m.cls := hown
  have hl : lv_has ls 7 [(0, .ref (sw_ad g 0)), (1, .int a2)] := hl
  obtain ⟨R, hRe⟩ : ∃ R : Room, R = { frames := 10, cells := 22, slots := 135, locals := 183 } := ⟨_, rfl⟩
  rw [← hRe]
  have hRf : R.frames = 10 := by rw [hRe]
  have hRc : R.cells = 22 := by rw [hRe]
  have hRs : R.slots = 135 := by rw [hRe]
  have hRl : R.locals = 183 := by rw [hRe]
  clear hRe
  have gc0 : 0 + 22 ≤ R.cells := by rw [hRc]; exact (Nat.le_of_ble_eq_true rfl)
  have gs0 : 0 + 135 ≤ R.slots := by rw [hRs]; exact (Nat.le_of_ble_eq_true rfl)
  obtain ⟨Q0, hQ0⟩ : ∃ Q0 : State → Prop, Q0 = MQ below (va_Qi (fun r z' => Q r ∧ z' = z) (zl_Po g) (sw_A g)) args s 22 135 (sw_A g) := ⟨_, rfl⟩
  rw [← hQ0]
  generalize hHs : s.heap = H at hW ⊢
  generalize hLo : ([] : List Loc) = locs at hW ⊢
  unfold wL_median at h
  refine lv_iconst (v := 3) hx hb dL_median_0 (by decide) ?_
  refine zl_newa (g := g) hx hb hts (atype := .int) qa_int 1 rfl rfl hW (a0 := (3, .inl (fun _ => 0))) (fun _ => rfl) (by decide) (by decide) (by decide) (zc1 (D := 1) gc0 (Nat.le_of_ble_eq_true rfl)) (zc1 (D := 3) gs0 (Nat.le_of_ble_eq_true rfl)) dL_median_1 (fun q1 H hW => ?_)
  have hW : zl_Wd g [(q1, .inl (sw_ac g 1, 3, .inl (fun _ => 0)))] z s H locs := hW
  refine lv_astore_n (lv' := [(2, .ref q1), (0, .ref (sw_ad g 0)), (1, .int a2)]) hx hb dL_median_3 rfl hl (Nat.le_of_ble_eq_true rfl) rfl (fun ls hl => ?_)
  refine lv_iconst (v := 0) hx hb dL_median_4 (by decide) ?_
  refine lv_istore_n (lv' := [(3, .int (0 : Int32)), (2, .ref q1), (0, .ref (sw_ad g 0)), (1, .int a2)]) hx hb dL_median_5 rfl hl (Nat.le_of_ble_eq_true rfl) rfl (fun ls hl => ?_)
  refine lv_iconst (v := 0) hx hb dL_median_6 (by decide) ?_
  refine lv_istore (lv' := [(4, .int (0 : Int32)), (3, .int (0 : Int32)), (2, .ref q1), (0, .ref (sw_ad g 0)), (1, .int a2)]) hx hb dL_median_7 hl (Nat.le_of_ble_eq_true rfl) rfl (fun ls hl => ?_)
  obtain ⟨CL9, hCL9⟩ : ∃ n : Nat, n = 0 + 1 + 21 := ⟨_, rfl⟩
  obtain ⟨SL9, hSL9⟩ : ∃ n : Nat, n = 0 + 3 + 126 := ⟨_, rfl⟩
  have hX9 : ∀ (x3_9k : Int32) (f_q1_9k : (Nat → Int32))  (H : Heap) (locs : List Loc) (ls : Array Slot) (cx9 sx9 : Nat), (((2 : Int32) ≤ x3_9k → ((x3_9k = (2 : Int32) → (vp_in (0 : Int32) 3 ∧ (vp_in (1 : Int32) 3 ∧ (Q (((f_q1_9k ((0 : Int32)).toNatClampNeg) + (f_q1_9k ((1 : Int32)).toNatClampNeg)) / (2 : Int32)))))) ∧ (¬ x3_9k = (2 : Int32) → (vp_in (1 : Int32) 3 ∧ (Q (f_q1_9k ((1 : Int32)).toNatClampNeg)))))) ∧ (¬ (2 : Int32) ≤ x3_9k → (Q (-13 : Int32)))) → cx9 ≤ CL9 → sx9 ≤ SL9 → zl_Wd g [(q1, .inl (sw_ac g 1, 3, .inl f_q1_9k))] z s H locs → lv_has ls 7 [(2, .ref q1), (3, .int x3_9k)] → W p l e R s m args below meth c H locs cx9 sx9 Q0 (F0 m 82 ls []) := by
    intro x3_9k f_q1_9k  H locs ls cx9 sx9 h hcx9 hsx9 hW hl
    have g2 : cx9 + 0 ≤ R.cells := zc8 (x := 0) (D := 22) (s := 22) (s' := 0) hcx9 hCL9 gc0 (Nat.le_of_ble_eq_true rfl)
    have g3 : sx9 + 6 ≤ R.slots := zc8 (x := 0) (D := 129) (s := 135) (s' := 6) hsx9 hSL9 gs0 (Nat.le_of_ble_eq_true rfl)
    refine lv_iload_n hx hb dL_median_82 rfl (lv_at hl 1 rfl) ?_
    refine lv_iconst (v := 2) hx hb dL_median_83 (by decide) ?_
    refine lv_icmp_ge (tgt := 92) hx hb dL_median_84 (by decide) (fun k4 => ?_) (fun k4 => ?_)
    · replace h := h.1 k4
      refine lv_iload_n hx hb dL_median_92 rfl (lv_at hl 1 rfl) ?_
      refine lv_iconst (v := 2) hx hb dL_median_93 (by decide) ?_
      refine lv_icmp_ne (tgt := 109) hx hb dL_median_94 (by decide) (fun k5 => ?_) (fun k5 => ?_)
      · replace h := h.2 k5
        refine lv_aload_n hx hb dL_median_109 rfl (lv_at hl 0 rfl) ?_
        refine lv_iconst (v := 1) hx hb dL_median_110 (by decide) ?_
        have b6 := h.1
        replace h := h.2
        refine zl_ia (N := 3) hx hb hW 0 rfl b6 dL_median_111 ?_
        subst hQ0
        refine W.widen (k := 22) (n := 135) (Nat.le_trans (zc1 (D := 0) g2 (Nat.le_of_ble_eq_true rfl)) (Nat.le_of_eq hRc)) (Nat.le_trans (zc1 (D := 0) g3 (Nat.le_of_ble_eq_true rfl)) (Nat.le_of_eq hRs)) ?_
        exact zl_ri hx hb hr hlocks hW rfl ⟨h, rfl⟩ dL_median_112
      · replace h := h.1 k5
        refine lv_aload_n hx hb dL_median_97 rfl (lv_at hl 0 rfl) ?_
        refine lv_iconst (v := 0) hx hb dL_median_98 (by decide) ?_
        have b7 := h.1
        replace h := h.2
        refine zl_ia (N := 3) hx hb hW 0 rfl b7 dL_median_99 ?_
        refine lv_aload_n hx hb dL_median_100 rfl (lv_at hl 0 rfl) ?_
        refine lv_iconst (v := 1) hx hb dL_median_101 (by decide) ?_
        have b8 := h.1
        replace h := h.2
        refine zl_ia (N := 3) hx hb hW 0 rfl b8 dL_median_102 ?_
        refine lv_iadd hx hb dL_median_103 ?_
        refine lv_iconst (v := 2) hx hb dL_median_104 (by decide) ?_
        refine lv_idiv hx hb dL_median_105 (by decide) ?_
        refine lv_goto (tgt := 112) hx hb dL_median_106 (by decide) ?_
        subst hQ0
        refine W.widen (k := 22) (n := 135) (Nat.le_trans (zc1 (D := 0) g2 (Nat.le_of_ble_eq_true rfl)) (Nat.le_of_eq hRc)) (Nat.le_trans (zc1 (D := 0) g3 (Nat.le_of_ble_eq_true rfl)) (Nat.le_of_eq hRs)) ?_
        exact zl_ri hx hb hr hlocks hW rfl ⟨h, rfl⟩ dL_median_112
    · replace h := h.2 k4
      refine lv_bipush (v := -13) hx hb dL_median_87 (by decide) ?_
      refine lv_goto (tgt := 112) hx hb dL_median_89 (by decide) ?_
      subst hQ0
      refine W.widen (k := 22) (n := 135) (Nat.le_trans (zc1 (D := 0) g2 (Nat.le_of_ble_eq_true rfl)) (Nat.le_of_eq hRc)) (Nat.le_trans (zc1 (D := 0) g3 (Nat.le_of_ble_eq_true rfl)) (Nat.le_of_eq hRs)) ?_
      exact zl_ri hx hb hr hlocks hW rfl ⟨h, rfl⟩ dL_median_112
  have key9 : ∀ (n9 : Nat) (x3_9 : Int32) (x4_9 : Int32) (f_q1_9 : (Nat → Int32))  (H : Heap) (locs : List Loc) (ls : Array Slot) (cn9 sn9 : Nat), lL_median_9 a2 z (fun x3_9k f_q1_9k => ((2 : Int32) ≤ x3_9k → ((x3_9k = (2 : Int32) → (vp_in (0 : Int32) 3 ∧ (vp_in (1 : Int32) 3 ∧ (Q (((f_q1_9k ((0 : Int32)).toNatClampNeg) + (f_q1_9k ((1 : Int32)).toNatClampNeg)) / (2 : Int32)))))) ∧ (¬ x3_9k = (2 : Int32) → (vp_in (1 : Int32) 3 ∧ (Q (f_q1_9k ((1 : Int32)).toNatClampNeg)))))) ∧ (¬ (2 : Int32) ≤ x3_9k → (Q (-13 : Int32)))) n9 x3_9 x4_9 f_q1_9 → cn9 + n9 * 3 ≤ CL9 → sn9 + n9 * 18 ≤ SL9 → zl_Wd g [(q1, .inl (sw_ac g 1, 3, .inl f_q1_9))] z s H locs → lv_has ls 7 [(0, .ref (sw_ad g 0)), (1, .int a2), (2, .ref q1), (3, .int x3_9), (4, .int x4_9)] → W p l e R s m args below meth c H locs cn9 sn9 Q0 (F0 m 9 ls []) := by
    intro n9
    induction n9 with
    | zero =>
      intro x3_9 x4_9 f_q1_9  H locs ls cn9 sn9 h
      exact False.elim h
    | succ n9 ih9 =>
      intro x3_9 x4_9 f_q1_9  H locs ls cn9 sn9 h hcn9 hsn9 hW hl
      rw [lL_median_9.eq_2] at h
      obtain ⟨Tcn9, hTcn9⟩ : ∃ n : Nat, n = cn9 + 3 := ⟨_, rfl⟩
      obtain ⟨Tsn9, hTsn9⟩ : ∃ n : Nat, n = sn9 + 18 := ⟨_, rfl⟩
      have g9 : cn9 + 3 ≤ Tcn9 := Nat.le_of_eq hTcn9.symm
      have g10 : sn9 + 18 ≤ Tsn9 := Nat.le_of_eq hTsn9.symm
      have g11 : cn9 + 3 ≤ R.cells := zc9 (x := 0) (D := 22) (s := 22) (t := 3) hcn9 hCL9 gc0 (Nat.le_of_ble_eq_true rfl)
      have g12 : sn9 + 24 ≤ R.slots := zc9 (x := 0) (D := 129) (s := 135) (t := 24) hsn9 hSL9 gs0 (Nat.le_of_ble_eq_true rfl)
      refine lv_iload hx hb dL_median_9 (lv_at hl 4 rfl) ?_
      refine lv_aload_n hx hb dL_median_11 rfl (lv_at hl 0 rfl) ?_
      refine zl_ki (g := g) (rest := [.int x4_9]) (zl_runV (g := g) (As := []) (rest := [.int x4_9]) hx hb hml hown hts (zD_examinerCount l (zl_re g H.size) z) cv_X6_examinerCount q_491 rfl rfl ⟨by rw [hRf]; exact (Nat.le_of_ble_eq_true rfl), by rw [hRl]; exact (Nat.le_of_ble_eq_true rfl)⟩ hW (Or.inl (Nat.le_of_ble_eq_true rfl)) sl_0 rfl rfl hl.1 rfl (Nat.le_of_ble_eq_true rfl) dL_median_12 ⟨(zc1 (D := 0) g11 (Nat.le_of_ble_eq_true rfl)), (zc1 (D := 0) g12 (Nat.le_of_ble_eq_true rfl))⟩) hW (fun r9 z9 H locs h9 hW => ?_)
      obtain ⟨rfl, e9⟩ := h9
      rw [e9] at hW
      refine lv_icmp_ge (tgt := 82) hx hb dL_median_15 (by decide) (fun k13 => ?_) (fun k13 => ?_)
      · replace h := h.1 k13
        exact hX9 x3_9 f_q1_9 _ _ _ _ _ h (zc11 (zc1 (D := 0) g9 (Nat.le_of_ble_eq_true rfl)) hTcn9 hcn9) (zc11 (zc1 (D := 0) g10 (Nat.le_of_ble_eq_true rfl)) hTsn9 hsn9) hW (lv_sub hl [2, 3] rfl)
      · replace h := h.2 k13
        refine lv_aload_n hx hb dL_median_18 rfl (lv_at hl 0 rfl) ?_
        refine lv_iload hx hb dL_median_19 (lv_at hl 4 rfl) ?_
        refine lv_iload_n hx hb dL_median_21 rfl (lv_at hl 1 rfl) ?_
        refine zl_ki (g := g) (rest := []) (zl_runH (g := g) (As := [.ref (sw_ad g 0), .int x4_9, .int a2]) (rest := []) hx hb hml hown hts (kL_gradeBy l hst (zl_re g H.size) z x4_9 a2) ch_L_gradeBy q_513 rfl rfl ⟨by rw [hRf]; exact (Nat.le_of_ble_eq_true rfl), by rw [hRl]; exact (Nat.le_of_ble_eq_true rfl)⟩ hW rfl hl.1 rfl (Nat.le_of_ble_eq_true rfl) dL_median_22 ⟨(zc1 (D := 3) g11 (Nat.le_of_ble_eq_true rfl)), (zc1 (D := 18) g12 (Nat.le_of_ble_eq_true rfl))⟩) hW (fun r9 z9 H locs h9 hW => ?_)
        obtain ⟨rfl, e9⟩ := h9
        rw [e9, s_gradeBy_z] at hW
        refine lv_topi (fun v14 ev14 => ?_)
        replace h := h v14 ev14
        refine lv_istore (lv' := [(5, .int v14), (0, .ref (sw_ad g 0)), (1, .int a2), (2, .ref q1), (3, .int x3_9), (4, .int x4_9)]) hx hb dL_median_25 hl (Nat.le_of_ble_eq_true rfl) rfl (fun ls hl => ?_)
        refine lv_iload hx hb dL_median_27 (lv_at hl 0 rfl) ?_
        refine lv_if_lt (tgt := 76) hx hb dL_median_29 (by decide) (fun k15 => ?_) (fun k15 => ?_)
        · replace h := h.1 k15
          obtain ⟨v16, ev16⟩ : ∃ z : Int32, z = x4_9 + (1 : Int32) := ⟨_, rfl⟩
          replace h := h v16 ev16
          refine lv_iinc (v := v16) (lv' := [(4, .int v16), (5, .int v14), (0, .ref (sw_ad g 0)), (1, .int a2), (2, .ref q1), (3, .int x3_9)]) hx hb dL_median_76 hl (k := 5) rfl (by rw [ev16]; rfl) (Nat.le_of_ble_eq_true rfl) rfl (fun ls hl => ?_)
          refine lv_goto (tgt := 9) hx hb dL_median_79 (by decide) ?_
          exact ih9 x3_9 v16 f_q1_9 _ _ _ _ _ h (zc10 (zc1 (D := 3) g9 (Nat.le_of_ble_eq_true rfl)) hTcn9 hcn9) (zc10 (zc1 (D := 18) g10 (Nat.le_of_ble_eq_true rfl)) hTsn9 hsn9) hW (lv_sub hl [2, 3, 4, 5, 0] rfl)
        · replace h := h.2 k15
          refine lv_iload_n hx hb dL_median_32 rfl (lv_at hl 4 rfl) ?_
          refine lv_istore (lv' := [(6, .int x3_9), (5, .int v14), (0, .ref (sw_ad g 0)), (1, .int a2), (2, .ref q1), (3, .int x3_9), (4, .int x4_9)]) hx hb dL_median_33 hl (Nat.le_of_ble_eq_true rfl) rfl (fun ls hl => ?_)
          obtain ⟨CL35, hCL35⟩ : ∃ n : Nat, n = cn9 + 0 + 3 + 0 := ⟨_, rfl⟩
          obtain ⟨SL35, hSL35⟩ : ∃ n : Nat, n = sn9 + 0 + 18 + 0 := ⟨_, rfl⟩
          have hX35 : ∀ (x6_35k : Int32) (f_q1_35k : (Nat → Int32))  (H : Heap) (locs : List Loc) (ls : Array Slot) (cx35 sx35 : Nat), (vp_in x6_35k 3 ∧ (∀ f22 : (Nat → Int32), f22 = upd f_q1_35k (x6_35k).toNatClampNeg v14 → (∀ v23 : Int32, v23 = x3_9 + (1 : Int32) → (∀ v24 : Int32, v24 = x4_9 + (1 : Int32) → ((fun x3_9 x4_9 f_q1_9 => lL_median_9 a2 z (fun x3_9k f_q1_9k => ((2 : Int32) ≤ x3_9k → ((x3_9k = (2 : Int32) → (vp_in (0 : Int32) 3 ∧ (vp_in (1 : Int32) 3 ∧ (Q (((f_q1_9k ((0 : Int32)).toNatClampNeg) + (f_q1_9k ((1 : Int32)).toNatClampNeg)) / (2 : Int32)))))) ∧ (¬ x3_9k = (2 : Int32) → (vp_in (1 : Int32) 3 ∧ (Q (f_q1_9k ((1 : Int32)).toNatClampNeg)))))) ∧ (¬ (2 : Int32) ≤ x3_9k → (Q (-13 : Int32)))) n9 x3_9 x4_9 f_q1_9) v23 v24 f22))))) → cx35 ≤ CL35 → sx35 ≤ SL35 → zl_Wd g [(q1, .inl (sw_ac g 1, 3, .inl f_q1_35k))] z s H locs → lv_has ls 7 [(0, .ref (sw_ad g 0)), (1, .int a2), (2, .ref q1), (3, .int x3_9), (4, .int x4_9), (5, .int v14), (6, .int x6_35k)] → W p l e R s m args below meth c H locs cx35 sx35 Q0 (F0 m 67 ls []) := by
            intro x6_35k f_q1_35k  H locs ls cx35 sx35 h hcx35 hsx35 hW hl
            have g17 : cx35 + 0 ≤ R.cells := zc8 (x := cn9) (D := 3) (s := 3) (s' := 0) hcx35 hCL35 g11 (Nat.le_of_ble_eq_true rfl)
            have g18 : cx35 + 0 ≤ Tcn9 := zc8 (x := cn9) (D := 3) (s := 3) (s' := 0) hcx35 hCL35 g9 (Nat.le_of_ble_eq_true rfl)
            have g19 : sx35 + 6 ≤ R.slots := zc8 (x := sn9) (D := 18) (s := 24) (s' := 6) hsx35 hSL35 g12 (Nat.le_of_ble_eq_true rfl)
            have g20 : sx35 + 0 ≤ Tsn9 := zc8 (x := sn9) (D := 18) (s := 18) (s' := 0) hsx35 hSL35 g10 (Nat.le_of_ble_eq_true rfl)
            refine lv_aload_n hx hb dL_median_67 rfl (lv_at hl 2 rfl) ?_
            refine lv_iload hx hb dL_median_68 (lv_at hl 6 rfl) ?_
            refine lv_iload hx hb dL_median_70 (lv_at hl 5 rfl) ?_
            have b21 := h.1
            replace h := h.2
            obtain ⟨f22, ef22⟩ : ∃ z : (Nat → Int32), z = upd f_q1_35k (x6_35k).toNatClampNeg v14 := ⟨_, rfl⟩
            replace h := h f22 ef22
            refine zl_is (N := 3) hx hb hW 0 rfl b21 dL_median_72 (fun H locs hW => ?_)
            rw [← ef22] at hW
            have hW : zl_Wd g [(q1, .inl (sw_ac g 1, 3, .inl f22))] z s H locs := hW
            obtain ⟨v23, ev23⟩ : ∃ z : Int32, z = x3_9 + (1 : Int32) := ⟨_, rfl⟩
            replace h := h v23 ev23
            refine lv_iinc (v := v23) (lv' := [(3, .int v23), (0, .ref (sw_ad g 0)), (1, .int a2), (2, .ref q1), (4, .int x4_9), (5, .int v14), (6, .int x6_35k)]) hx hb dL_median_73 hl (k := 3) rfl (by rw [ev23]; rfl) (Nat.le_of_ble_eq_true rfl) rfl (fun ls hl => ?_)
            obtain ⟨v24, ev24⟩ : ∃ z : Int32, z = x4_9 + (1 : Int32) := ⟨_, rfl⟩
            replace h := h v24 ev24
            refine lv_iinc (v := v24) (lv' := [(4, .int v24), (3, .int v23), (0, .ref (sw_ad g 0)), (1, .int a2), (2, .ref q1), (5, .int v14), (6, .int x6_35k)]) hx hb dL_median_76 hl (k := 4) rfl (by rw [ev24]; rfl) (Nat.le_of_ble_eq_true rfl) rfl (fun ls hl => ?_)
            refine lv_goto (tgt := 9) hx hb dL_median_79 (by decide) ?_
            exact ih9 v23 v24 f22 _ _ _ _ _ h (zc10 (zc1 (D := 0) g18 (Nat.le_of_ble_eq_true rfl)) hTcn9 hcn9) (zc10 (zc1 (D := 0) g20 (Nat.le_of_ble_eq_true rfl)) hTsn9 hsn9) hW (lv_sub hl [2, 3, 4, 1, 0] rfl)
          have key35 : ∀ (n35 : Nat) (x6_35 : Int32) (f_q1_35 : (Nat → Int32))  (H : Heap) (locs : List Loc) (ls : Array Slot) (cn35 sn35 : Nat), lL_median_35 v14 (fun x6_35k f_q1_35k => vp_in x6_35k 3 ∧ (∀ f22 : (Nat → Int32), f22 = upd f_q1_35k (x6_35k).toNatClampNeg v14 → (∀ v23 : Int32, v23 = x3_9 + (1 : Int32) → (∀ v24 : Int32, v24 = x4_9 + (1 : Int32) → ((fun x3_9 x4_9 f_q1_9 => lL_median_9 a2 z (fun x3_9k f_q1_9k => ((2 : Int32) ≤ x3_9k → ((x3_9k = (2 : Int32) → (vp_in (0 : Int32) 3 ∧ (vp_in (1 : Int32) 3 ∧ (Q (((f_q1_9k ((0 : Int32)).toNatClampNeg) + (f_q1_9k ((1 : Int32)).toNatClampNeg)) / (2 : Int32)))))) ∧ (¬ x3_9k = (2 : Int32) → (vp_in (1 : Int32) 3 ∧ (Q (f_q1_9k ((1 : Int32)).toNatClampNeg)))))) ∧ (¬ (2 : Int32) ≤ x3_9k → (Q (-13 : Int32)))) n9 x3_9 x4_9 f_q1_9) v23 v24 f22))))) n35 x6_35 f_q1_35 → cn35 + n35 * 0 ≤ CL35 → sn35 + n35 * 0 ≤ SL35 → zl_Wd g [(q1, .inl (sw_ac g 1, 3, .inl f_q1_35))] z s H locs → lv_has ls 7 [(0, .ref (sw_ad g 0)), (1, .int a2), (2, .ref q1), (3, .int x3_9), (4, .int x4_9), (5, .int v14), (6, .int x6_35)] → W p l e R s m args below meth c H locs cn35 sn35 Q0 (F0 m 35 ls []) := by
            intro n35
            induction n35 with
            | zero =>
              intro x6_35 f_q1_35  H locs ls cn35 sn35 h
              exact False.elim h
            | succ n35 ih35 =>
              intro x6_35 f_q1_35  H locs ls cn35 sn35 h hcn35 hsn35 hW hl
              rw [lL_median_35.eq_2] at h
              obtain ⟨Tcn35, hTcn35⟩ : ∃ n : Nat, n = cn35 + 0 := ⟨_, rfl⟩
              obtain ⟨Tsn35, hTsn35⟩ : ∃ n : Nat, n = sn35 + 0 := ⟨_, rfl⟩
              have g25 : cn35 + 0 ≤ Tcn35 := Nat.le_of_eq hTcn35.symm
              have g26 : sn35 + 0 ≤ Tsn35 := Nat.le_of_eq hTsn35.symm
              have g27 : cn35 + 0 ≤ R.cells := zc9 (x := cn9) (D := 3) (s := 3) (t := 0) hcn35 hCL35 g11 (Nat.le_of_ble_eq_true rfl)
              have g28 : sn35 + 6 ≤ R.slots := zc9 (x := sn9) (D := 18) (s := 24) (t := 6) hsn35 hSL35 g12 (Nat.le_of_ble_eq_true rfl)
              refine lv_iload hx hb dL_median_35 (lv_at hl 6 rfl) ?_
              refine lv_if_le (tgt := 67) hx hb dL_median_37 (by decide) (fun k29 => ?_) (fun k29 => ?_)
              · replace h := h.1 k29
                exact hX35 x6_35 f_q1_35 _ _ _ _ _ h (zc11 (zc1 (D := 0) g25 (Nat.le_of_ble_eq_true rfl)) hTcn35 hcn35) (zc11 (zc1 (D := 0) g26 (Nat.le_of_ble_eq_true rfl)) hTsn35 hsn35) hW (lv_sub hl [0, 1, 2, 3, 4, 5, 6] rfl)
              · replace h := h.2 k29
                refine lv_aload_n hx hb dL_median_40 rfl (lv_at hl 2 rfl) ?_
                refine lv_iload hx hb dL_median_41 (lv_at hl 6 rfl) ?_
                refine lv_iconst (v := 1) hx hb dL_median_43 (by decide) ?_
                refine lv_isub hx hb dL_median_44 ?_
                have b30 := h.1
                replace h := h.2
                refine zl_ia (N := 3) hx hb hW 0 rfl b30 dL_median_45 ?_
                refine lv_iload hx hb dL_median_46 (lv_at hl 5 rfl) ?_
                refine lv_icmp_le (tgt := 67) hx hb dL_median_48 (by decide) (fun k31 => ?_) (fun k31 => ?_)
                · replace h := h.1 k31
                  exact hX35 x6_35 f_q1_35 _ _ _ _ _ h (zc11 (zc1 (D := 0) g25 (Nat.le_of_ble_eq_true rfl)) hTcn35 hcn35) (zc11 (zc1 (D := 0) g26 (Nat.le_of_ble_eq_true rfl)) hTsn35 hsn35) hW (lv_sub hl [0, 1, 2, 3, 4, 5, 6] rfl)
                · replace h := h.2 k31
                  refine lv_aload_n hx hb dL_median_51 rfl (lv_at hl 2 rfl) ?_
                  refine lv_iload hx hb dL_median_52 (lv_at hl 6 rfl) ?_
                  refine lv_aload_n hx hb dL_median_54 rfl (lv_at hl 2 rfl) ?_
                  refine lv_iload hx hb dL_median_55 (lv_at hl 6 rfl) ?_
                  refine lv_iconst (v := 1) hx hb dL_median_57 (by decide) ?_
                  refine lv_isub hx hb dL_median_58 ?_
                  have b32 := h.1
                  replace h := h.2
                  refine zl_ia (N := 3) hx hb hW 0 rfl b32 dL_median_59 ?_
                  have b33 := h.1
                  replace h := h.2
                  obtain ⟨f34, ef34⟩ : ∃ z : (Nat → Int32), z = upd f_q1_35 (x6_35).toNatClampNeg ((f_q1_35 ((x6_35 - (1 : Int32))).toNatClampNeg)) := ⟨_, rfl⟩
                  replace h := h f34 ef34
                  refine zl_is (N := 3) hx hb hW 0 rfl b33 dL_median_60 (fun H locs hW => ?_)
                  rw [← ef34] at hW
                  have hW : zl_Wd g [(q1, .inl (sw_ac g 1, 3, .inl f34))] z s H locs := hW
                  obtain ⟨v35, ev35⟩ : ∃ z : Int32, z = x6_35 + (-1 : Int32) := ⟨_, rfl⟩
                  replace h := h v35 ev35
                  refine lv_iinc (v := v35) (lv' := [(6, .int v35), (0, .ref (sw_ad g 0)), (1, .int a2), (2, .ref q1), (3, .int x3_9), (4, .int x4_9), (5, .int v14)]) hx hb dL_median_61 hl (k := 6) rfl (by rw [ev35]; rfl) (Nat.le_of_ble_eq_true rfl) rfl (fun ls hl => ?_)
                  refine lv_goto (tgt := 35) hx hb dL_median_64 (by decide) ?_
                  exact ih35 v35 f34 _ _ _ _ _ h (zc10 (zc1 (D := 0) g25 (Nat.le_of_ble_eq_true rfl)) hTcn35 hcn35) (zc10 (zc1 (D := 0) g26 (Nat.le_of_ble_eq_true rfl)) hTsn35 hsn35) hW (lv_sub hl [1, 2, 3, 4, 5, 6, 0] rfl)
          exact key35 4 x3_9 f_q1_9 _ _ _ _ _ h (Nat.le_of_eq hCL35.symm) (Nat.le_of_eq hSL35.symm) hW (lv_sub hl [2, 3, 4, 5, 6, 1, 0] rfl)
  exact key9 7 (0 : Int32) (0 : Int32) (fun _ => 0) _ _ _ _ _ h (Nat.le_of_eq hCL9.symm) (Nat.le_of_eq hSL9.symm) hW (lv_sub hl [3, 4, 2, 1, 0] rfl)

def wL_canSit (a2 : Int32) (a3 : Int32) (z : zG) (Q : Int32 → Prop) : Prop :=
  (s_isNeutral z a2 a3).1 = 0 ∧ (((nI (s_isNeutral z a2 a3).2.1) = 0 → (Q (0 : Int32))) ∧ (¬ (nI (s_isNeutral z a2 a3).2.1) = 0 → ((s_isAssigned z a2 a3).1 = 0 ∧ (((nI (s_isAssigned z a2 a3).2.1) = 0 → (Q (1 : Int32))) ∧ (¬ (nI (s_isAssigned z a2 a3).2.1) = 0 → (Q (0 : Int32)))))))
theorem cs_L_canSit : sw_cS yL_canSit cL_canSit 3 (some .boolean) 3 := ⟨q_664, q_1, q_665, by decide +kernel⟩
set_option maxRecDepth 20000 in
set_option maxHeartbeats 4000000 in
theorem kL_canSit (l : Launch) (hst : l.stackTraces = false) (g : sG) (a2 : Int32) (a3 : Int32) (z : zG) (Q : Int32 → Prop) (h : wL_canSit a2 a3 z Q) : Met l yL_canSit (sw_ws yL_canSit cL_canSit 3 (some .boolean)) { frames := 9, cells := 4, slots := 24, locals := 160 } (va_Pc [.ref (sw_ad g 0), .int a2, .int a3] (zl_Pr g z)) (va_Qi (fun r z' => Q r ∧ z' = z) (zl_Po g) (sw_A g)) 4 24 (sw_A g) := by
  refine zl_met (by decide) (Nat.le_of_ble_eq_true rfl) ?_
  intro p e s m args below meth c ls hx hb hr hts hown hml hlocks hW hl
  have hown : s.vm.findClass RL = some m.cls := hown
  have hl : lv_has ls 3 [(0, .ref (sw_ad g 0)), (1, .int a2), (2, .int a3)] := hl
  obtain ⟨R, hRe⟩ : ∃ R : Room, R = { frames := 9, cells := 4, slots := 24, locals := 160 } := ⟨_, rfl⟩
  rw [← hRe]
  have hRf : R.frames = 9 := by rw [hRe]
  have hRc : R.cells = 4 := by rw [hRe]
  have hRs : R.slots = 24 := by rw [hRe]
  have hRl : R.locals = 160 := by rw [hRe]
  clear hRe
  have gc0 : 0 + 4 ≤ R.cells := by rw [hRc]; exact (Nat.le_of_ble_eq_true rfl)
  have gs0 : 0 + 24 ≤ R.slots := by rw [hRs]; exact (Nat.le_of_ble_eq_true rfl)
  obtain ⟨Q0, hQ0⟩ : ∃ Q0 : State → Prop, Q0 = MQ below (va_Qi (fun r z' => Q r ∧ z' = z) (zl_Po g) (sw_A g)) args s 4 24 (sw_A g) := ⟨_, rfl⟩
  rw [← hQ0]
  generalize hHs : s.heap = H at hW ⊢
  generalize hLo : ([] : List Loc) = locs at hW ⊢
  unfold wL_canSit at h
  refine lv_aload_n hx hb dL_canSit_0 rfl (lv_at hl 0 rfl) ?_
  refine lv_iload_n hx hb dL_canSit_1 rfl (lv_at hl 1 rfl) ?_
  refine lv_iload_n hx hb dL_canSit_2 rfl (lv_at hl 2 rfl) ?_
  have y1 := h.1
  replace h := h.2
  refine zl_ki (g := g) (rest := []) (zl_runV (g := g) (As := [.int a2, .int a3]) (rest := []) hx hb hml hown hts (zD_isNeutral l hst (zl_re g H.size) z a2 a3 y1) cv_X6_isNeutral q_619 rfl rfl ⟨by rw [hRf]; exact (Nat.le_of_ble_eq_true rfl), by rw [hRl]; exact (Nat.le_of_ble_eq_true rfl)⟩ hW (Or.inl (Nat.le_of_ble_eq_true rfl)) sl_0 rfl rfl hl.1 rfl (Nat.le_of_ble_eq_true rfl) dL_canSit_3 ⟨(zc1 (D := 2) gc0 (Nat.le_of_ble_eq_true rfl)), (zc1 (D := 12) gs0 (Nat.le_of_ble_eq_true rfl))⟩) hW (fun r9 z9 H locs h9 hW => ?_)
  clear y1
  obtain ⟨rfl, e9⟩ := h9
  rw [e9, s_isNeutral_z] at hW
  refine lv_if_eq (tgt := 22) hx hb dL_canSit_6 (by decide) (fun k2 => ?_) (fun k2 => ?_)
  · replace h := h.1 k2
    refine lv_iconst (v := 0) hx hb dL_canSit_22 (by decide) ?_
    subst hQ0
    refine W.widen (k := 4) (n := 24) (Nat.le_trans (zc1 (D := 2) gc0 (Nat.le_of_ble_eq_true rfl)) (Nat.le_of_eq hRc)) (Nat.le_trans (zc1 (D := 12) gs0 (Nat.le_of_ble_eq_true rfl)) (Nat.le_of_eq hRs)) ?_
    exact zl_ri hx hb hr hlocks hW (by decide) ⟨h, rfl⟩ dL_canSit_23
  · replace h := h.2 k2
    refine lv_aload_n hx hb dL_canSit_9 rfl (lv_at hl 0 rfl) ?_
    refine lv_iload_n hx hb dL_canSit_10 rfl (lv_at hl 1 rfl) ?_
    refine lv_iload_n hx hb dL_canSit_11 rfl (lv_at hl 2 rfl) ?_
    have y3 := h.1
    replace h := h.2
    refine zl_ki (g := g) (rest := []) (zl_runV (g := g) (As := [.int a2, .int a3]) (rest := []) hx hb hml hown hts (zD_isAssigned l hst (zl_re g H.size) z a2 a3 y3) cv_X6_isAssigned q_497 rfl rfl ⟨by rw [hRf]; exact (Nat.le_of_ble_eq_true rfl), by rw [hRl]; exact (Nat.le_of_ble_eq_true rfl)⟩ hW (Or.inl (Nat.le_of_ble_eq_true rfl)) sl_0 rfl rfl hl.1 rfl (Nat.le_of_ble_eq_true rfl) dL_canSit_12 ⟨(zc1 (D := 4) gc0 (Nat.le_of_ble_eq_true rfl)), (zc1 (D := 24) gs0 (Nat.le_of_ble_eq_true rfl))⟩) hW (fun r9 z9 H locs h9 hW => ?_)
    clear y3
    obtain ⟨rfl, e9⟩ := h9
    rw [e9, s_isAssigned_z] at hW
    refine lv_if_ne (tgt := 22) hx hb dL_canSit_15 (by decide) (fun k4 => ?_) (fun k4 => ?_)
    · replace h := h.2 k4
      refine lv_iconst (v := 0) hx hb dL_canSit_22 (by decide) ?_
      subst hQ0
      refine W.widen (k := 4) (n := 24) (Nat.le_trans (zc1 (D := 4) gc0 (Nat.le_of_ble_eq_true rfl)) (Nat.le_of_eq hRc)) (Nat.le_trans (zc1 (D := 24) gs0 (Nat.le_of_ble_eq_true rfl)) (Nat.le_of_eq hRs)) ?_
      exact zl_ri hx hb hr hlocks hW (by decide) ⟨h, rfl⟩ dL_canSit_23
    · replace h := h.1 k4
      refine lv_iconst (v := 1) hx hb dL_canSit_18 (by decide) ?_
      refine lv_goto (tgt := 23) hx hb dL_canSit_19 (by decide) ?_
      subst hQ0
      refine W.widen (k := 4) (n := 24) (Nat.le_trans (zc1 (D := 4) gc0 (Nat.le_of_ble_eq_true rfl)) (Nat.le_of_eq hRc)) (Nat.le_trans (zc1 (D := 24) gs0 (Nat.le_of_ble_eq_true rfl)) (Nat.le_of_eq hRs)) ?_
      exact zl_ri hx hb hr hlocks hW (by decide) ⟨h, rfl⟩ dL_canSit_23

def jL_sum_183 (z : zG) (x1_148 : Int64) (x3_148 : Int32) (N148 : Int64 → Int32 → Prop) (t0_183 : Int32) : Prop :=
  ∀ v17 : Int64, v17 = ((((41 : Int64) * x1_148) + (((2 : Int32) * (nI (s_doorOf z x3_148).2.1))).toInt64) + (t0_183).toInt64) → (∀ v18 : Int32, v18 = x3_148 + (1 : Int32) → (N148 v17 v18))
def lL_sum_148 (z : zG) (K148 : Int64 → Prop) : Nat → Int64 → Int32 → Prop
  | 0, _, _ => False
  | n148 + 1, x1_148, x3_148 => ((nI (z.1 3)) < x3_148 → (K148 x1_148)) ∧ (¬ (nI (z.1 3)) < x3_148 → ((s_doorOf z x3_148).1 = 0 ∧ ((s_isRevoked z x3_148).1 = 0 ∧ (((nI (s_isRevoked z x3_148).2.1) = 0 → (jL_sum_183 z x1_148 x3_148 (fun x1_148 x3_148 => lL_sum_148 z K148 n148 x1_148 x3_148) (0 : Int32))) ∧ (¬ (nI (s_isRevoked z x3_148).2.1) = 0 → (jL_sum_183 z x1_148 x3_148 (fun x1_148 x3_148 => lL_sum_148 z K148 n148 x1_148 x3_148) (1 : Int32)))))))
def jL_sum_131 (z : zG) (x3_21 : Int32) (x1_73 : Int64) (x4_73 : Int32) (t0_114 : Int32) (N73 : Int64 → Int32 → Prop) (t0_131 : Int32) : Prop :=
  ∀ v55 : Int64, v55 = (((((37 : Int64) * x1_73) + (((40 : Int32) * (zv (s_gradeBy z x4_73 x3_21) [(-11), (-13)]))).toInt64) + (t0_114).toInt64) + (t0_131).toInt64) → (∀ v56 : Int32, v56 = x4_73 + (1 : Int32) → (N73 v55 v56))
def jL_sum_114 (z : zG) (x3_21 : Int32) (x1_73 : Int64) (x4_73 : Int32) (N73 : Int64 → Int32 → Prop) (t0_114 : Int32) : Prop :=
  (s_isNeutral z x4_73 x3_21).1 = 0 ∧ (((nI (s_isNeutral z x4_73 x3_21).2.1) = 0 → (jL_sum_131 z x3_21 x1_73 x4_73 t0_114 N73 (0 : Int32))) ∧ (¬ (nI (s_isNeutral z x4_73 x3_21).2.1) = 0 → (jL_sum_131 z x3_21 x1_73 x4_73 t0_114 N73 (1 : Int32))))
def lL_sum_73 (z : zG) (x3_21 : Int32) (K73 : Int64 → Prop) : Nat → Int64 → Int32 → Prop
  | 0, _, _ => False
  | n73 + 1, x1_73, x4_73 => ((nI (z.1 1)) ≤ x4_73 → (K73 x1_73)) ∧ (¬ (nI (z.1 1)) ≤ x4_73 → ((s_isAssigned z x4_73 x3_21).1 = 0 ∧ (((nI (s_isAssigned z x4_73 x3_21).2.1) = 0 → (jL_sum_114 z x3_21 x1_73 x4_73 (fun x1_73 x4_73 => lL_sum_73 z x3_21 K73 n73 x1_73 x4_73) (0 : Int32))) ∧ (¬ (nI (s_isAssigned z x4_73 x3_21).2.1) = 0 → (jL_sum_114 z x3_21 x1_73 x4_73 (fun x1_73 x4_73 => lL_sum_73 z x3_21 K73 n73 x1_73 x4_73) (2 : Int32))))))
def jL_sum_67 (z : zG) (x1_21 : Int64) (x3_21 : Int32) (N21 : Int64 → Int32 → Prop) (t0_67 : Int32) : Prop :=
  ∀ v34 : Int64, v34 = (((((31 : Int64) * x1_21) + (((100 : Int32) * (nI (s_frameOfDoor z x3_21).2.1))).toInt64) + (((10 : Int32) * (nI (s_topic z x3_21).2.1))).toInt64) + (t0_67).toInt64) → (lL_sum_73 z x3_21 (fun x1_73k => ∀ v39 : Int32, v39 = x3_21 + (1 : Int32) → (N21 x1_73k v39)) 7 v34 (0 : Int32))
def lL_sum_21 (z : zG) (K21 : Int64 → Prop) : Nat → Int64 → Int32 → Prop
  | 0, _, _ => False
  | n21 + 1, x1_21, x3_21 => ((nI (z.1 0)) ≤ x3_21 → (K21 x1_21)) ∧ (¬ (nI (z.1 0)) ≤ x3_21 → ((s_frameOfDoor z x3_21).1 = 0 ∧ ((s_topic z x3_21).1 = 0 ∧ ((s_wasGranted z x3_21).1 = 0 ∧ (((nI (s_wasGranted z x3_21).2.1) = 0 → (jL_sum_67 z x1_21 x3_21 (fun x1_21 x3_21 => lL_sum_21 z K21 n21 x1_21 x3_21) (0 : Int32))) ∧ (¬ (nI (s_wasGranted z x3_21).2.1) = 0 → (jL_sum_67 z x1_21 x3_21 (fun x1_21 x3_21 => lL_sum_21 z K21 n21 x1_21 x3_21) (1 : Int32))))))))
def wL_sum  (z : zG) (Q : Int64 → Prop) : Prop :=
  ∀ v1 : Int64, v1 = (((7 : Int64) + (((100 : Int32) * (nI (z.1 2)))).toInt64) + ((nI (z.1 3))).toInt64) → (lL_sum_21 z (fun x1_21k => lL_sum_148 z (fun x1_148k => Q ((((43 : Int64) * x1_148k) + (((10 : Int32) * (nI (z.1 0)))).toInt64) + ((nI (z.1 1))).toInt64)) 9 x1_21k (1 : Int32)) 9 v1 (0 : Int32))
theorem cs_L_sum : sw_cS yL_sum cL_sum 5 (some .long) 1 := ⟨q_1065, q_1, q_1066, by decide +kernel⟩
set_option maxRecDepth 20000 in
set_option maxHeartbeats 4000000 in
theorem kL_sum (l : Launch) (hst : l.stackTraces = false) (g : sG)  (z : zG) (Q : Int64 → Prop) (h : wL_sum  z Q) : Met l yL_sum (sw_ws yL_sum cL_sum 5 (some .long)) { frames := 10, cells := 486, slots := 2916, locals := 183 } (va_Pc [.ref (sw_ad g 0)] (zl_Pr g z)) (va_Ql (fun r z' => Q r ∧ z' = z) (zl_Po g) (sw_A g)) 486 2916 (sw_A g) := by
  refine zl_met (by decide) (Nat.le_of_ble_eq_true rfl) ?_
  intro p e s m args below meth c ls hx hb hr hts hown hml hlocks hW hl
  have hown : s.vm.findClass RL = some m.cls := hown
  have hl : lv_has ls 5 [(0, .ref (sw_ad g 0))] := hl
  obtain ⟨R, hRe⟩ : ∃ R : Room, R = { frames := 10, cells := 486, slots := 2916, locals := 183 } := ⟨_, rfl⟩
  rw [← hRe]
  have hRf : R.frames = 10 := by rw [hRe]
  have hRc : R.cells = 486 := by rw [hRe]
  have hRs : R.slots = 2916 := by rw [hRe]
  have hRl : R.locals = 183 := by rw [hRe]
  clear hRe
  have gc0 : 0 + 486 ≤ R.cells := by rw [hRc]; exact (Nat.le_of_ble_eq_true rfl)
  have gs0 : 0 + 2916 ≤ R.slots := by rw [hRs]; exact (Nat.le_of_ble_eq_true rfl)
  obtain ⟨Q0, hQ0⟩ : ∃ Q0 : State → Prop, Q0 = MQ below (va_Ql (fun r z' => Q r ∧ z' = z) (zl_Po g) (sw_A g)) args s 486 2916 (sw_A g) := ⟨_, rfl⟩
  rw [← hQ0]
  generalize hHs : s.heap = H at hW ⊢
  generalize hLo : ([] : List Loc) = locs at hW ⊢
  unfold wL_sum at h
  refine lv_ldc2 hx hb hown (sw_w hts ql_356) dL_sum_0 ?_
  refine lv_bipush (v := 100) hx hb dL_sum_3 (by decide) ?_
  refine lv_aload_n hx hb dL_sum_5 rfl (lv_at hl 0 rfl) ?_
  refine zl_ki (g := g) (rest := [.int (100 : Int32), .long (7 : Int64)]) (zl_runV (g := g) (As := []) (rest := [.int (100 : Int32), .long (7 : Int64)]) hx hb hml hown hts (zD_threshold l (zl_re g H.size) z) cv_X6_threshold q_526 rfl rfl ⟨by rw [hRf]; exact (Nat.le_of_ble_eq_true rfl), by rw [hRl]; exact (Nat.le_of_ble_eq_true rfl)⟩ hW (Or.inl (Nat.le_of_ble_eq_true rfl)) sl_0 rfl rfl hl.1 rfl (Nat.le_of_ble_eq_true rfl) dL_sum_6 ⟨(zc1 (D := 0) gc0 (Nat.le_of_ble_eq_true rfl)), (zc1 (D := 0) gs0 (Nat.le_of_ble_eq_true rfl))⟩) hW (fun r9 z9 H locs h9 hW => ?_)
  obtain ⟨rfl, e9⟩ := h9
  rw [e9] at hW
  refine lv_imul hx hb dL_sum_9 ?_
  refine lv_i2l hx hb dL_sum_10 rfl ?_
  refine lv_ladd hx hb dL_sum_11 ?_
  refine lv_aload_n hx hb dL_sum_12 rfl (lv_at hl 0 rfl) ?_
  refine zl_ki (g := g) (rest := [.long ((7 : Int64) + (((100 : Int32) * (nI (z.1 2)))).toInt64)]) (zl_runV (g := g) (As := []) (rest := [.long ((7 : Int64) + (((100 : Int32) * (nI (z.1 2)))).toInt64)]) hx hb hml hown hts (zD_entryCount l (zl_re g H.size) z) cv_X6_entryCount q_706 rfl rfl ⟨by rw [hRf]; exact (Nat.le_of_ble_eq_true rfl), by rw [hRl]; exact (Nat.le_of_ble_eq_true rfl)⟩ hW (Or.inl (Nat.le_of_ble_eq_true rfl)) sl_0 rfl rfl hl.1 rfl (Nat.le_of_ble_eq_true rfl) dL_sum_13 ⟨(zc1 (D := 0) gc0 (Nat.le_of_ble_eq_true rfl)), (zc1 (D := 0) gs0 (Nat.le_of_ble_eq_true rfl))⟩) hW (fun r9 z9 H locs h9 hW => ?_)
  obtain ⟨rfl, e9⟩ := h9
  rw [e9] at hW
  refine lv_i2l hx hb dL_sum_16 rfl ?_
  refine lv_ladd hx hb dL_sum_17 ?_
  refine lv_topl (fun v1 ev1 => ?_)
  replace h := h v1 ev1
  refine lv_lstore_n (lv' := [(1, .long v1), (0, .ref (sw_ad g 0))]) hx hb dL_sum_18 rfl hl (Nat.le_of_ble_eq_true rfl) rfl (fun ls hl => ?_)
  refine lv_iconst (v := 0) hx hb dL_sum_19 (by decide) ?_
  refine lv_istore_n (lv' := [(3, .int (0 : Int32)), (1, .long v1), (0, .ref (sw_ad g 0))]) hx hb dL_sum_20 rfl hl (Nat.le_of_ble_eq_true rfl) rfl (fun ls hl => ?_)
  obtain ⟨CL21, hCL21⟩ : ∃ n : Nat, n = 0 + 0 + 0 + 468 := ⟨_, rfl⟩
  obtain ⟨SL21, hSL21⟩ : ∃ n : Nat, n = 0 + 0 + 0 + 2808 := ⟨_, rfl⟩
  have hX21 : ∀ (x1_21k : Int64)  (H : Heap) (locs : List Loc) (ls : Array Slot) (cx21 sx21 : Nat), (lL_sum_148 z (fun x1_148k => Q ((((43 : Int64) * x1_148k) + (((10 : Int32) * (nI (z.1 0)))).toInt64) + ((nI (z.1 1))).toInt64)) 9 x1_21k (1 : Int32)) → cx21 ≤ CL21 → sx21 ≤ SL21 → zl_Wd g [] z s H locs → lv_has ls 5 [(0, .ref (sw_ad g 0)), (1, .long x1_21k)] → W p l e R s m args below meth c H locs cx21 sx21 Q0 (F0 m 146 ls []) := by
    intro x1_21k  H locs ls cx21 sx21 h hcx21 hsx21 hW hl
    have g2 : cx21 + 18 ≤ R.cells := zc8 (x := 0) (D := 468) (s := 486) (s' := 18) hcx21 hCL21 gc0 (Nat.le_of_ble_eq_true rfl)
    have g3 : sx21 + 108 ≤ R.slots := zc8 (x := 0) (D := 2808) (s := 2916) (s' := 108) hsx21 hSL21 gs0 (Nat.le_of_ble_eq_true rfl)
    refine lv_iconst (v := 1) hx hb dL_sum_146 (by decide) ?_
    refine lv_istore_n (lv' := [(3, .int (1 : Int32)), (0, .ref (sw_ad g 0)), (1, .long x1_21k)]) hx hb dL_sum_147 rfl hl (Nat.le_of_ble_eq_true rfl) rfl (fun ls hl => ?_)
    obtain ⟨CL148, hCL148⟩ : ∃ n : Nat, n = cx21 + 18 := ⟨_, rfl⟩
    obtain ⟨SL148, hSL148⟩ : ∃ n : Nat, n = sx21 + 108 := ⟨_, rfl⟩
    have hX148 : ∀ (x1_148k : Int64)  (H : Heap) (locs : List Loc) (ls : Array Slot) (cx148 sx148 : Nat), (Q ((((43 : Int64) * x1_148k) + (((10 : Int32) * (nI (z.1 0)))).toInt64) + ((nI (z.1 1))).toInt64)) → cx148 ≤ CL148 → sx148 ≤ SL148 → zl_Wd g [] z s H locs → lv_has ls 5 [(0, .ref (sw_ad g 0)), (1, .long x1_148k)] → W p l e R s m args below meth c H locs cx148 sx148 Q0 (F0 m 192 ls []) := by
      intro x1_148k  H locs ls cx148 sx148 h hcx148 hsx148 hW hl
      have g4 : cx148 + 0 ≤ R.cells := zc8 (x := cx21) (D := 18) (s := 18) (s' := 0) hcx148 hCL148 g2 (Nat.le_of_ble_eq_true rfl)
      have g5 : sx148 + 0 ≤ R.slots := zc8 (x := sx21) (D := 108) (s := 108) (s' := 0) hsx148 hSL148 g3 (Nat.le_of_ble_eq_true rfl)
      refine lv_ldc2 hx hb hown (sw_w hts ql_364) dL_sum_192 ?_
      refine lv_lload_n hx hb dL_sum_195 rfl (lv_at hl 1 rfl) ?_
      refine lv_lmul hx hb dL_sum_196 ?_
      refine lv_bipush (v := 10) hx hb dL_sum_197 (by decide) ?_
      refine lv_aload_n hx hb dL_sum_199 rfl (lv_at hl 0 rfl) ?_
      refine zl_ki (g := g) (rest := [.int (10 : Int32), .long ((43 : Int64) * x1_148k)]) (zl_runV (g := g) (As := []) (rest := [.int (10 : Int32), .long ((43 : Int64) * x1_148k)]) hx hb hml hown hts (zD_doorCount l (zl_re g H.size) z) cv_X6_doorCount q_487 rfl rfl ⟨by rw [hRf]; exact (Nat.le_of_ble_eq_true rfl), by rw [hRl]; exact (Nat.le_of_ble_eq_true rfl)⟩ hW (Or.inl (Nat.le_of_ble_eq_true rfl)) sl_0 rfl rfl hl.1 rfl (Nat.le_of_ble_eq_true rfl) dL_sum_200 ⟨(zc1 (D := 0) g4 (Nat.le_of_ble_eq_true rfl)), (zc1 (D := 0) g5 (Nat.le_of_ble_eq_true rfl))⟩) hW (fun r9 z9 H locs h9 hW => ?_)
      obtain ⟨rfl, e9⟩ := h9
      rw [e9] at hW
      refine lv_imul hx hb dL_sum_203 ?_
      refine lv_i2l hx hb dL_sum_204 rfl ?_
      refine lv_ladd hx hb dL_sum_205 ?_
      refine lv_aload_n hx hb dL_sum_206 rfl (lv_at hl 0 rfl) ?_
      refine zl_ki (g := g) (rest := [.long (((43 : Int64) * x1_148k) + (((10 : Int32) * (nI (z.1 0)))).toInt64)]) (zl_runV (g := g) (As := []) (rest := [.long (((43 : Int64) * x1_148k) + (((10 : Int32) * (nI (z.1 0)))).toInt64)]) hx hb hml hown hts (zD_examinerCount l (zl_re g H.size) z) cv_X6_examinerCount q_491 rfl rfl ⟨by rw [hRf]; exact (Nat.le_of_ble_eq_true rfl), by rw [hRl]; exact (Nat.le_of_ble_eq_true rfl)⟩ hW (Or.inl (Nat.le_of_ble_eq_true rfl)) sl_0 rfl rfl hl.1 rfl (Nat.le_of_ble_eq_true rfl) dL_sum_207 ⟨(zc1 (D := 0) g4 (Nat.le_of_ble_eq_true rfl)), (zc1 (D := 0) g5 (Nat.le_of_ble_eq_true rfl))⟩) hW (fun r9 z9 H locs h9 hW => ?_)
      obtain ⟨rfl, e9⟩ := h9
      rw [e9] at hW
      refine lv_i2l hx hb dL_sum_210 rfl ?_
      refine lv_ladd hx hb dL_sum_211 ?_
      subst hQ0
      refine W.widen (k := 486) (n := 2916) (Nat.le_trans (zc1 (D := 0) g4 (Nat.le_of_ble_eq_true rfl)) (Nat.le_of_eq hRc)) (Nat.le_trans (zc1 (D := 0) g5 (Nat.le_of_ble_eq_true rfl)) (Nat.le_of_eq hRs)) ?_
      exact zl_rl hx hb hr hlocks hW ⟨h, rfl⟩ dL_sum_212
    have key148 : ∀ (n148 : Nat) (x1_148 : Int64) (x3_148 : Int32)  (H : Heap) (locs : List Loc) (ls : Array Slot) (cn148 sn148 : Nat), lL_sum_148 z (fun x1_148k => Q ((((43 : Int64) * x1_148k) + (((10 : Int32) * (nI (z.1 0)))).toInt64) + ((nI (z.1 1))).toInt64)) n148 x1_148 x3_148 → cn148 + n148 * 2 ≤ CL148 → sn148 + n148 * 12 ≤ SL148 → zl_Wd g [] z s H locs → lv_has ls 5 [(0, .ref (sw_ad g 0)), (1, .long x1_148), (3, .int x3_148)] → W p l e R s m args below meth c H locs cn148 sn148 Q0 (F0 m 148 ls []) := by
      intro n148
      induction n148 with
      | zero =>
        intro x1_148 x3_148  H locs ls cn148 sn148 h
        exact False.elim h
      | succ n148 ih148 =>
        intro x1_148 x3_148  H locs ls cn148 sn148 h hcn148 hsn148 hW hl
        rw [lL_sum_148.eq_2] at h
        obtain ⟨Tcn148, hTcn148⟩ : ∃ n : Nat, n = cn148 + 2 := ⟨_, rfl⟩
        obtain ⟨Tsn148, hTsn148⟩ : ∃ n : Nat, n = sn148 + 12 := ⟨_, rfl⟩
        have g6 : cn148 + 2 ≤ Tcn148 := Nat.le_of_eq hTcn148.symm
        have g7 : sn148 + 12 ≤ Tsn148 := Nat.le_of_eq hTsn148.symm
        have g8 : cn148 + 2 ≤ R.cells := zc9 (x := cx21) (D := 18) (s := 18) (t := 2) hcn148 hCL148 g2 (Nat.le_of_ble_eq_true rfl)
        have g9 : sn148 + 12 ≤ R.slots := zc9 (x := sx21) (D := 108) (s := 108) (t := 12) hsn148 hSL148 g3 (Nat.le_of_ble_eq_true rfl)
        refine lv_iload_n hx hb dL_sum_148 rfl (lv_at hl 2 rfl) ?_
        refine lv_aload_n hx hb dL_sum_149 rfl (lv_at hl 0 rfl) ?_
        refine zl_ki (g := g) (rest := [.int x3_148]) (zl_runV (g := g) (As := []) (rest := [.int x3_148]) hx hb hml hown hts (zD_entryCount l (zl_re g H.size) z) cv_X6_entryCount q_706 rfl rfl ⟨by rw [hRf]; exact (Nat.le_of_ble_eq_true rfl), by rw [hRl]; exact (Nat.le_of_ble_eq_true rfl)⟩ hW (Or.inl (Nat.le_of_ble_eq_true rfl)) sl_0 rfl rfl hl.1 rfl (Nat.le_of_ble_eq_true rfl) dL_sum_150 ⟨(zc1 (D := 0) g8 (Nat.le_of_ble_eq_true rfl)), (zc1 (D := 0) g9 (Nat.le_of_ble_eq_true rfl))⟩) hW (fun r9 z9 H locs h9 hW => ?_)
        obtain ⟨rfl, e9⟩ := h9
        rw [e9] at hW
        refine lv_icmp_gt (tgt := 192) hx hb dL_sum_153 (by decide) (fun k10 => ?_) (fun k10 => ?_)
        · replace h := h.1 k10
          exact hX148 x1_148 _ _ _ _ _ h (zc11 (zc1 (D := 0) g6 (Nat.le_of_ble_eq_true rfl)) hTcn148 hcn148) (zc11 (zc1 (D := 0) g7 (Nat.le_of_ble_eq_true rfl)) hTsn148 hsn148) hW (lv_sub hl [0, 1] rfl)
        · replace h := h.2 k10
          refine lv_ldc2 hx hb hown (sw_w hts ql_362) dL_sum_156 ?_
          refine lv_lload_n hx hb dL_sum_159 rfl (lv_at hl 1 rfl) ?_
          refine lv_lmul hx hb dL_sum_160 ?_
          refine lv_iconst (v := 2) hx hb dL_sum_161 (by decide) ?_
          refine lv_aload_n hx hb dL_sum_162 rfl (lv_at hl 0 rfl) ?_
          refine lv_iload_n hx hb dL_sum_163 rfl (lv_at hl 2 rfl) ?_
          have y11 := h.1
          replace h := h.2
          refine zl_ki (g := g) (rest := [.int (2 : Int32), .long ((41 : Int64) * x1_148)]) (zl_runV (g := g) (As := [.int x3_148]) (rest := [.int (2 : Int32), .long ((41 : Int64) * x1_148)]) hx hb hml hown hts (zD_doorOf l hst (zl_re g H.size) z x3_148 y11) cv_X6_doorOf q_712 rfl rfl ⟨by rw [hRf]; exact (Nat.le_of_ble_eq_true rfl), by rw [hRl]; exact (Nat.le_of_ble_eq_true rfl)⟩ hW (Or.inl (Nat.le_of_ble_eq_true rfl)) sl_0 rfl rfl hl.1 rfl (Nat.le_of_ble_eq_true rfl) dL_sum_164 ⟨(zc1 (D := 1) g8 (Nat.le_of_ble_eq_true rfl)), (zc1 (D := 6) g9 (Nat.le_of_ble_eq_true rfl))⟩) hW (fun r9 z9 H locs h9 hW => ?_)
          clear y11
          obtain ⟨rfl, e9⟩ := h9
          rw [e9, s_doorOf_z] at hW
          refine lv_imul hx hb dL_sum_167 ?_
          refine lv_i2l hx hb dL_sum_168 rfl ?_
          refine lv_ladd hx hb dL_sum_169 ?_
          refine lv_aload_n hx hb dL_sum_170 rfl (lv_at hl 0 rfl) ?_
          refine lv_iload_n hx hb dL_sum_171 rfl (lv_at hl 2 rfl) ?_
          have y12 := h.1
          replace h := h.2
          refine zl_ki (g := g) (rest := [.long (((41 : Int64) * x1_148) + (((2 : Int32) * (nI (s_doorOf z x3_148).2.1))).toInt64)]) (zl_runV (g := g) (As := [.int x3_148]) (rest := [.long (((41 : Int64) * x1_148) + (((2 : Int32) * (nI (s_doorOf z x3_148).2.1))).toInt64)]) hx hb hml hown hts (zD_isRevoked l hst (zl_re g H.size) z x3_148 y12) cv_X6_isRevoked q_725 rfl rfl ⟨by rw [hRf]; exact (Nat.le_of_ble_eq_true rfl), by rw [hRl]; exact (Nat.le_of_ble_eq_true rfl)⟩ hW (Or.inl (Nat.le_of_ble_eq_true rfl)) sl_0 rfl rfl hl.1 rfl (Nat.le_of_ble_eq_true rfl) dL_sum_172 ⟨(zc1 (D := 2) g8 (Nat.le_of_ble_eq_true rfl)), (zc1 (D := 12) g9 (Nat.le_of_ble_eq_true rfl))⟩) hW (fun r9 z9 H locs h9 hW => ?_)
          clear y12
          obtain ⟨rfl, e9⟩ := h9
          rw [e9, s_isRevoked_z] at hW
          obtain ⟨CJ183, hCJ183⟩ : ∃ n : Nat, n = cn148 + 0 + 1 + 1 + 0 := ⟨_, rfl⟩
          obtain ⟨SJ183, hSJ183⟩ : ∃ n : Nat, n = sn148 + 0 + 6 + 6 + 0 := ⟨_, rfl⟩
          have hJ183 : ∀ (t0_183 : Int32) (H : Heap) (locs : List Loc) (ls : Array Slot) (cj183 sj183 : Nat), jL_sum_183 z x1_148 x3_148 (fun x1_148 x3_148 => lL_sum_148 z (fun x1_148k => Q ((((43 : Int64) * x1_148k) + (((10 : Int32) * (nI (z.1 0)))).toInt64) + ((nI (z.1 1))).toInt64)) n148 x1_148 x3_148) t0_183 → cj183 ≤ CJ183 → sj183 ≤ SJ183 → zl_Wd g [] z s H locs → lv_has ls 5 [(0, .ref (sw_ad g 0)), (3, .int x3_148)] → W p l e R s m args below meth c H locs cj183 sj183 Q0 (F0 m 183 ls [.int t0_183, .long (((41 : Int64) * x1_148) + (((2 : Int32) * (nI (s_doorOf z x3_148).2.1))).toInt64)]) := by
            intro t0_183 H locs ls cj183 sj183 h hcj183 hsj183 hW hl
            unfold jL_sum_183 at h
            have g13 : cj183 + 0 ≤ R.cells := zc8 (x := cn148) (D := 2) (s := 2) (s' := 0) hcj183 hCJ183 g8 (Nat.le_of_ble_eq_true rfl)
            have g14 : cj183 + 0 ≤ Tcn148 := zc8 (x := cn148) (D := 2) (s := 2) (s' := 0) hcj183 hCJ183 g6 (Nat.le_of_ble_eq_true rfl)
            have g15 : sj183 + 0 ≤ R.slots := zc8 (x := sn148) (D := 12) (s := 12) (s' := 0) hsj183 hSJ183 g9 (Nat.le_of_ble_eq_true rfl)
            have g16 : sj183 + 0 ≤ Tsn148 := zc8 (x := sn148) (D := 12) (s := 12) (s' := 0) hsj183 hSJ183 g7 (Nat.le_of_ble_eq_true rfl)
            refine lv_i2l hx hb dL_sum_183 rfl ?_
            refine lv_ladd hx hb dL_sum_184 ?_
            refine lv_topl (fun v17 ev17 => ?_)
            replace h := h v17 ev17
            refine lv_lstore_n (lv' := [(1, .long v17), (0, .ref (sw_ad g 0)), (3, .int x3_148)]) hx hb dL_sum_185 rfl hl (Nat.le_of_ble_eq_true rfl) rfl (fun ls hl => ?_)
            obtain ⟨v18, ev18⟩ : ∃ z : Int32, z = x3_148 + (1 : Int32) := ⟨_, rfl⟩
            replace h := h v18 ev18
            refine lv_iinc (v := v18) (lv' := [(3, .int v18), (1, .long v17), (0, .ref (sw_ad g 0))]) hx hb dL_sum_186 hl (k := 2) rfl (by rw [ev18]; rfl) (Nat.le_of_ble_eq_true rfl) rfl (fun ls hl => ?_)
            refine lv_goto (tgt := 148) hx hb dL_sum_189 (by decide) ?_
            exact ih148 v17 v18 _ _ _ _ _ h (zc10 (zc1 (D := 0) g14 (Nat.le_of_ble_eq_true rfl)) hTcn148 hcn148) (zc10 (zc1 (D := 0) g16 (Nat.le_of_ble_eq_true rfl)) hTsn148 hsn148) hW (lv_sub hl [2, 1, 0] rfl)
          have g19 : cn148 + 2 ≤ CJ183 := Nat.le_of_eq hCJ183.symm
          have g20 : sn148 + 12 ≤ SJ183 := Nat.le_of_eq hSJ183.symm
          refine lv_if_eq (tgt := 182) hx hb dL_sum_175 (by decide) (fun k21 => ?_) (fun k21 => ?_)
          · replace h := h.1 k21
            refine lv_iconst (v := 0) hx hb dL_sum_182 (by decide) ?_
            exact hJ183 (0 : Int32) _ _ _ _ _ h (zc1 (D := 2) g19 (Nat.le_of_ble_eq_true rfl)) (zc1 (D := 12) g20 (Nat.le_of_ble_eq_true rfl)) hW (lv_sub hl [0, 2] rfl)
          · replace h := h.2 k21
            refine lv_iconst (v := 1) hx hb dL_sum_178 (by decide) ?_
            refine lv_goto (tgt := 183) hx hb dL_sum_179 (by decide) ?_
            exact hJ183 (1 : Int32) _ _ _ _ _ h (zc1 (D := 2) g19 (Nat.le_of_ble_eq_true rfl)) (zc1 (D := 12) g20 (Nat.le_of_ble_eq_true rfl)) hW (lv_sub hl [0, 2] rfl)
    exact key148 9 x1_21k (1 : Int32) _ _ _ _ _ h (Nat.le_of_eq hCL148.symm) (Nat.le_of_eq hSL148.symm) hW (lv_sub hl [1, 2, 0] rfl)
  have key21 : ∀ (n21 : Nat) (x1_21 : Int64) (x3_21 : Int32)  (H : Heap) (locs : List Loc) (ls : Array Slot) (cn21 sn21 : Nat), lL_sum_21 z (fun x1_21k => lL_sum_148 z (fun x1_148k => Q ((((43 : Int64) * x1_148k) + (((10 : Int32) * (nI (z.1 0)))).toInt64) + ((nI (z.1 1))).toInt64)) 9 x1_21k (1 : Int32)) n21 x1_21 x3_21 → cn21 + n21 * 52 ≤ CL21 → sn21 + n21 * 312 ≤ SL21 → zl_Wd g [] z s H locs → lv_has ls 5 [(0, .ref (sw_ad g 0)), (1, .long x1_21), (3, .int x3_21)] → W p l e R s m args below meth c H locs cn21 sn21 Q0 (F0 m 21 ls []) := by
    intro n21
    induction n21 with
    | zero =>
      intro x1_21 x3_21  H locs ls cn21 sn21 h
      exact False.elim h
    | succ n21 ih21 =>
      intro x1_21 x3_21  H locs ls cn21 sn21 h hcn21 hsn21 hW hl
      rw [lL_sum_21.eq_2] at h
      obtain ⟨Tcn21, hTcn21⟩ : ∃ n : Nat, n = cn21 + 52 := ⟨_, rfl⟩
      obtain ⟨Tsn21, hTsn21⟩ : ∃ n : Nat, n = sn21 + 312 := ⟨_, rfl⟩
      have g22 : cn21 + 52 ≤ Tcn21 := Nat.le_of_eq hTcn21.symm
      have g23 : sn21 + 312 ≤ Tsn21 := Nat.le_of_eq hTsn21.symm
      have g24 : cn21 + 70 ≤ R.cells := zc9 (x := 0) (D := 468) (s := 486) (t := 70) hcn21 hCL21 gc0 (Nat.le_of_ble_eq_true rfl)
      have g25 : sn21 + 420 ≤ R.slots := zc9 (x := 0) (D := 2808) (s := 2916) (t := 420) hsn21 hSL21 gs0 (Nat.le_of_ble_eq_true rfl)
      refine lv_iload_n hx hb dL_sum_21 rfl (lv_at hl 2 rfl) ?_
      refine lv_aload_n hx hb dL_sum_22 rfl (lv_at hl 0 rfl) ?_
      refine zl_ki (g := g) (rest := [.int x3_21]) (zl_runV (g := g) (As := []) (rest := [.int x3_21]) hx hb hml hown hts (zD_doorCount l (zl_re g H.size) z) cv_X6_doorCount q_487 rfl rfl ⟨by rw [hRf]; exact (Nat.le_of_ble_eq_true rfl), by rw [hRl]; exact (Nat.le_of_ble_eq_true rfl)⟩ hW (Or.inl (Nat.le_of_ble_eq_true rfl)) sl_0 rfl rfl hl.1 rfl (Nat.le_of_ble_eq_true rfl) dL_sum_23 ⟨(zc1 (D := 0) g24 (Nat.le_of_ble_eq_true rfl)), (zc1 (D := 0) g25 (Nat.le_of_ble_eq_true rfl))⟩) hW (fun r9 z9 H locs h9 hW => ?_)
      obtain ⟨rfl, e9⟩ := h9
      rw [e9] at hW
      refine lv_icmp_ge (tgt := 146) hx hb dL_sum_26 (by decide) (fun k26 => ?_) (fun k26 => ?_)
      · replace h := h.1 k26
        exact hX21 x1_21 _ _ _ _ _ h (zc11 (zc1 (D := 0) g22 (Nat.le_of_ble_eq_true rfl)) hTcn21 hcn21) (zc11 (zc1 (D := 0) g23 (Nat.le_of_ble_eq_true rfl)) hTsn21 hsn21) hW (lv_sub hl [0, 1] rfl)
      · replace h := h.2 k26
        refine lv_ldc2 hx hb hown (sw_w hts ql_358) dL_sum_29 ?_
        refine lv_lload_n hx hb dL_sum_32 rfl (lv_at hl 1 rfl) ?_
        refine lv_lmul hx hb dL_sum_33 ?_
        refine lv_bipush (v := 100) hx hb dL_sum_34 (by decide) ?_
        refine lv_aload_n hx hb dL_sum_36 rfl (lv_at hl 0 rfl) ?_
        refine lv_iload_n hx hb dL_sum_37 rfl (lv_at hl 2 rfl) ?_
        have y27 := h.1
        replace h := h.2
        refine zl_ki (g := g) (rest := [.int (100 : Int32), .long ((31 : Int64) * x1_21)]) (zl_runV (g := g) (As := [.int x3_21]) (rest := [.int (100 : Int32), .long ((31 : Int64) * x1_21)]) hx hb hml hown hts (zD_frameOfDoor l hst (zl_re g H.size) z x3_21 y27) cv_X6_frameOfDoor q_590 rfl rfl ⟨by rw [hRf]; exact (Nat.le_of_ble_eq_true rfl), by rw [hRl]; exact (Nat.le_of_ble_eq_true rfl)⟩ hW (Or.inl (Nat.le_of_ble_eq_true rfl)) sl_0 rfl rfl hl.1 rfl (Nat.le_of_ble_eq_true rfl) dL_sum_38 ⟨(zc1 (D := 1) g24 (Nat.le_of_ble_eq_true rfl)), (zc1 (D := 6) g25 (Nat.le_of_ble_eq_true rfl))⟩) hW (fun r9 z9 H locs h9 hW => ?_)
        clear y27
        obtain ⟨rfl, e9⟩ := h9
        rw [e9, s_frameOfDoor_z] at hW
        refine lv_imul hx hb dL_sum_41 ?_
        refine lv_i2l hx hb dL_sum_42 rfl ?_
        refine lv_ladd hx hb dL_sum_43 ?_
        refine lv_bipush (v := 10) hx hb dL_sum_44 (by decide) ?_
        refine lv_aload_n hx hb dL_sum_46 rfl (lv_at hl 0 rfl) ?_
        refine lv_iload_n hx hb dL_sum_47 rfl (lv_at hl 2 rfl) ?_
        have y28 := h.1
        replace h := h.2
        refine zl_ki (g := g) (rest := [.int (10 : Int32), .long (((31 : Int64) * x1_21) + (((100 : Int32) * (nI (s_frameOfDoor z x3_21).2.1))).toInt64)]) (zl_runV (g := g) (As := [.int x3_21]) (rest := [.int (10 : Int32), .long (((31 : Int64) * x1_21) + (((100 : Int32) * (nI (s_frameOfDoor z x3_21).2.1))).toInt64)]) hx hb hml hown hts (zD_topic l hst (zl_re g H.size) z x3_21 y28) cv_X6_topic q_596 rfl rfl ⟨by rw [hRf]; exact (Nat.le_of_ble_eq_true rfl), by rw [hRl]; exact (Nat.le_of_ble_eq_true rfl)⟩ hW (Or.inl (Nat.le_of_ble_eq_true rfl)) sl_0 rfl rfl hl.1 rfl (Nat.le_of_ble_eq_true rfl) dL_sum_48 ⟨(zc1 (D := 2) g24 (Nat.le_of_ble_eq_true rfl)), (zc1 (D := 12) g25 (Nat.le_of_ble_eq_true rfl))⟩) hW (fun r9 z9 H locs h9 hW => ?_)
        clear y28
        obtain ⟨rfl, e9⟩ := h9
        rw [e9, s_topic_z] at hW
        refine lv_imul hx hb dL_sum_51 ?_
        refine lv_i2l hx hb dL_sum_52 rfl ?_
        refine lv_ladd hx hb dL_sum_53 ?_
        refine lv_aload_n hx hb dL_sum_54 rfl (lv_at hl 0 rfl) ?_
        refine lv_iload_n hx hb dL_sum_55 rfl (lv_at hl 2 rfl) ?_
        have y29 := h.1
        replace h := h.2
        refine zl_ki (g := g) (rest := [.long ((((31 : Int64) * x1_21) + (((100 : Int32) * (nI (s_frameOfDoor z x3_21).2.1))).toInt64) + (((10 : Int32) * (nI (s_topic z x3_21).2.1))).toInt64)]) (zl_runV (g := g) (As := [.int x3_21]) (rest := [.long ((((31 : Int64) * x1_21) + (((100 : Int32) * (nI (s_frameOfDoor z x3_21).2.1))).toInt64) + (((10 : Int32) * (nI (s_topic z x3_21).2.1))).toInt64)]) hx hb hml hown hts (zD_wasGranted l hst (zl_re g H.size) z x3_21 y29) cv_X6_wasGranted q_565 rfl rfl ⟨by rw [hRf]; exact (Nat.le_of_ble_eq_true rfl), by rw [hRl]; exact (Nat.le_of_ble_eq_true rfl)⟩ hW (Or.inl (Nat.le_of_ble_eq_true rfl)) sl_0 rfl rfl hl.1 rfl (Nat.le_of_ble_eq_true rfl) dL_sum_56 ⟨(zc1 (D := 3) g24 (Nat.le_of_ble_eq_true rfl)), (zc1 (D := 18) g25 (Nat.le_of_ble_eq_true rfl))⟩) hW (fun r9 z9 H locs h9 hW => ?_)
        clear y29
        obtain ⟨rfl, e9⟩ := h9
        rw [e9, s_wasGranted_z] at hW
        obtain ⟨CJ67, hCJ67⟩ : ∃ n : Nat, n = cn21 + 0 + 1 + 1 + 1 + 0 := ⟨_, rfl⟩
        obtain ⟨SJ67, hSJ67⟩ : ∃ n : Nat, n = sn21 + 0 + 6 + 6 + 6 + 0 := ⟨_, rfl⟩
        have hJ67 : ∀ (t0_67 : Int32) (H : Heap) (locs : List Loc) (ls : Array Slot) (cj67 sj67 : Nat), jL_sum_67 z x1_21 x3_21 (fun x1_21 x3_21 => lL_sum_21 z (fun x1_21k => lL_sum_148 z (fun x1_148k => Q ((((43 : Int64) * x1_148k) + (((10 : Int32) * (nI (z.1 0)))).toInt64) + ((nI (z.1 1))).toInt64)) 9 x1_21k (1 : Int32)) n21 x1_21 x3_21) t0_67 → cj67 ≤ CJ67 → sj67 ≤ SJ67 → zl_Wd g [] z s H locs → lv_has ls 5 [(0, .ref (sw_ad g 0)), (3, .int x3_21)] → W p l e R s m args below meth c H locs cj67 sj67 Q0 (F0 m 67 ls [.int t0_67, .long ((((31 : Int64) * x1_21) + (((100 : Int32) * (nI (s_frameOfDoor z x3_21).2.1))).toInt64) + (((10 : Int32) * (nI (s_topic z x3_21).2.1))).toInt64)]) := by
          intro t0_67 H locs ls cj67 sj67 h hcj67 hsj67 hW hl
          unfold jL_sum_67 at h
          have g30 : cj67 + 67 ≤ R.cells := zc8 (x := cn21) (D := 3) (s := 70) (s' := 67) hcj67 hCJ67 g24 (Nat.le_of_ble_eq_true rfl)
          have g31 : cj67 + 49 ≤ Tcn21 := zc8 (x := cn21) (D := 3) (s := 52) (s' := 49) hcj67 hCJ67 g22 (Nat.le_of_ble_eq_true rfl)
          have g32 : sj67 + 402 ≤ R.slots := zc8 (x := sn21) (D := 18) (s := 420) (s' := 402) hsj67 hSJ67 g25 (Nat.le_of_ble_eq_true rfl)
          have g33 : sj67 + 294 ≤ Tsn21 := zc8 (x := sn21) (D := 18) (s := 312) (s' := 294) hsj67 hSJ67 g23 (Nat.le_of_ble_eq_true rfl)
          refine lv_i2l hx hb dL_sum_67 rfl ?_
          refine lv_ladd hx hb dL_sum_68 ?_
          refine lv_topl (fun v34 ev34 => ?_)
          replace h := h v34 ev34
          refine lv_lstore_n (lv' := [(1, .long v34), (0, .ref (sw_ad g 0)), (3, .int x3_21)]) hx hb dL_sum_69 rfl hl (Nat.le_of_ble_eq_true rfl) rfl (fun ls hl => ?_)
          refine lv_iconst (v := 0) hx hb dL_sum_70 (by decide) ?_
          refine lv_istore (lv' := [(4, .int (0 : Int32)), (1, .long v34), (0, .ref (sw_ad g 0)), (3, .int x3_21)]) hx hb dL_sum_71 hl (Nat.le_of_ble_eq_true rfl) rfl (fun ls hl => ?_)
          obtain ⟨CL73, hCL73⟩ : ∃ n : Nat, n = cj67 + 49 := ⟨_, rfl⟩
          obtain ⟨SL73, hSL73⟩ : ∃ n : Nat, n = sj67 + 294 := ⟨_, rfl⟩
          have hX73 : ∀ (x1_73k : Int64)  (H : Heap) (locs : List Loc) (ls : Array Slot) (cx73 sx73 : Nat), (∀ v39 : Int32, v39 = x3_21 + (1 : Int32) → ((fun x1_21 x3_21 => lL_sum_21 z (fun x1_21k => lL_sum_148 z (fun x1_148k => Q ((((43 : Int64) * x1_148k) + (((10 : Int32) * (nI (z.1 0)))).toInt64) + ((nI (z.1 1))).toInt64)) 9 x1_21k (1 : Int32)) n21 x1_21 x3_21) x1_73k v39)) → cx73 ≤ CL73 → sx73 ≤ SL73 → zl_Wd g [] z s H locs → lv_has ls 5 [(0, .ref (sw_ad g 0)), (1, .long x1_73k), (3, .int x3_21)] → W p l e R s m args below meth c H locs cx73 sx73 Q0 (F0 m 140 ls []) := by
            intro x1_73k  H locs ls cx73 sx73 h hcx73 hsx73 hW hl
            have g35 : cx73 + 18 ≤ R.cells := zc8 (x := cj67) (D := 49) (s := 67) (s' := 18) hcx73 hCL73 g30 (Nat.le_of_ble_eq_true rfl)
            have g36 : cx73 + 0 ≤ Tcn21 := zc8 (x := cj67) (D := 49) (s := 49) (s' := 0) hcx73 hCL73 g31 (Nat.le_of_ble_eq_true rfl)
            have g37 : sx73 + 108 ≤ R.slots := zc8 (x := sj67) (D := 294) (s := 402) (s' := 108) hsx73 hSL73 g32 (Nat.le_of_ble_eq_true rfl)
            have g38 : sx73 + 0 ≤ Tsn21 := zc8 (x := sj67) (D := 294) (s := 294) (s' := 0) hsx73 hSL73 g33 (Nat.le_of_ble_eq_true rfl)
            obtain ⟨v39, ev39⟩ : ∃ z : Int32, z = x3_21 + (1 : Int32) := ⟨_, rfl⟩
            replace h := h v39 ev39
            refine lv_iinc (v := v39) (lv' := [(3, .int v39), (0, .ref (sw_ad g 0)), (1, .long x1_73k)]) hx hb dL_sum_140 hl (k := 2) rfl (by rw [ev39]; rfl) (Nat.le_of_ble_eq_true rfl) rfl (fun ls hl => ?_)
            refine lv_goto (tgt := 21) hx hb dL_sum_143 (by decide) ?_
            exact ih21 x1_73k v39 _ _ _ _ _ h (zc10 (zc1 (D := 0) g36 (Nat.le_of_ble_eq_true rfl)) hTcn21 hcn21) (zc10 (zc1 (D := 0) g38 (Nat.le_of_ble_eq_true rfl)) hTsn21 hsn21) hW (lv_sub hl [1, 2, 0] rfl)
          have key73 : ∀ (n73 : Nat) (x1_73 : Int64) (x4_73 : Int32)  (H : Heap) (locs : List Loc) (ls : Array Slot) (cn73 sn73 : Nat), lL_sum_73 z x3_21 (fun x1_73k => ∀ v39 : Int32, v39 = x3_21 + (1 : Int32) → ((fun x1_21 x3_21 => lL_sum_21 z (fun x1_21k => lL_sum_148 z (fun x1_148k => Q ((((43 : Int64) * x1_148k) + (((10 : Int32) * (nI (z.1 0)))).toInt64) + ((nI (z.1 1))).toInt64)) 9 x1_21k (1 : Int32)) n21 x1_21 x3_21) x1_73k v39)) n73 x1_73 x4_73 → cn73 + n73 * 7 ≤ CL73 → sn73 + n73 * 42 ≤ SL73 → zl_Wd g [] z s H locs → lv_has ls 5 [(0, .ref (sw_ad g 0)), (1, .long x1_73), (3, .int x3_21), (4, .int x4_73)] → W p l e R s m args below meth c H locs cn73 sn73 Q0 (F0 m 73 ls []) := by
            intro n73
            induction n73 with
            | zero =>
              intro x1_73 x4_73  H locs ls cn73 sn73 h
              exact False.elim h
            | succ n73 ih73 =>
              intro x1_73 x4_73  H locs ls cn73 sn73 h hcn73 hsn73 hW hl
              rw [lL_sum_73.eq_2] at h
              obtain ⟨Tcn73, hTcn73⟩ : ∃ n : Nat, n = cn73 + 7 := ⟨_, rfl⟩
              obtain ⟨Tsn73, hTsn73⟩ : ∃ n : Nat, n = sn73 + 42 := ⟨_, rfl⟩
              have g40 : cn73 + 7 ≤ Tcn73 := Nat.le_of_eq hTcn73.symm
              have g41 : sn73 + 42 ≤ Tsn73 := Nat.le_of_eq hTsn73.symm
              have g42 : cn73 + 25 ≤ R.cells := zc9 (x := cj67) (D := 49) (s := 67) (t := 25) hcn73 hCL73 g30 (Nat.le_of_ble_eq_true rfl)
              have g43 : sn73 + 150 ≤ R.slots := zc9 (x := sj67) (D := 294) (s := 402) (t := 150) hsn73 hSL73 g32 (Nat.le_of_ble_eq_true rfl)
              refine lv_iload hx hb dL_sum_73 (lv_at hl 3 rfl) ?_
              refine lv_aload_n hx hb dL_sum_75 rfl (lv_at hl 0 rfl) ?_
              refine zl_ki (g := g) (rest := [.int x4_73]) (zl_runV (g := g) (As := []) (rest := [.int x4_73]) hx hb hml hown hts (zD_examinerCount l (zl_re g H.size) z) cv_X6_examinerCount q_491 rfl rfl ⟨by rw [hRf]; exact (Nat.le_of_ble_eq_true rfl), by rw [hRl]; exact (Nat.le_of_ble_eq_true rfl)⟩ hW (Or.inl (Nat.le_of_ble_eq_true rfl)) sl_0 rfl rfl hl.1 rfl (Nat.le_of_ble_eq_true rfl) dL_sum_76 ⟨(zc1 (D := 0) g42 (Nat.le_of_ble_eq_true rfl)), (zc1 (D := 0) g43 (Nat.le_of_ble_eq_true rfl))⟩) hW (fun r9 z9 H locs h9 hW => ?_)
              obtain ⟨rfl, e9⟩ := h9
              rw [e9] at hW
              refine lv_icmp_ge (tgt := 140) hx hb dL_sum_79 (by decide) (fun k44 => ?_) (fun k44 => ?_)
              · replace h := h.1 k44
                exact hX73 x1_73 _ _ _ _ _ h (zc11 (zc1 (D := 0) g40 (Nat.le_of_ble_eq_true rfl)) hTcn73 hcn73) (zc11 (zc1 (D := 0) g41 (Nat.le_of_ble_eq_true rfl)) hTsn73 hsn73) hW (lv_sub hl [0, 1, 2] rfl)
              · replace h := h.2 k44
                refine lv_ldc2 hx hb hown (sw_w hts ql_360) dL_sum_82 ?_
                refine lv_lload_n hx hb dL_sum_85 rfl (lv_at hl 1 rfl) ?_
                refine lv_lmul hx hb dL_sum_86 ?_
                refine lv_bipush (v := 40) hx hb dL_sum_87 (by decide) ?_
                refine lv_aload_n hx hb dL_sum_89 rfl (lv_at hl 0 rfl) ?_
                refine lv_iload hx hb dL_sum_90 (lv_at hl 3 rfl) ?_
                refine lv_iload_n hx hb dL_sum_92 rfl (lv_at hl 2 rfl) ?_
                refine zl_ki (g := g) (rest := [.int (40 : Int32), .long ((37 : Int64) * x1_73)]) (zl_runH (g := g) (As := [.ref (sw_ad g 0), .int x4_73, .int x3_21]) (rest := [.int (40 : Int32), .long ((37 : Int64) * x1_73)]) hx hb hml hown hts (kL_gradeBy l hst (zl_re g H.size) z x4_73 x3_21) ch_L_gradeBy q_513 rfl rfl ⟨by rw [hRf]; exact (Nat.le_of_ble_eq_true rfl), by rw [hRl]; exact (Nat.le_of_ble_eq_true rfl)⟩ hW rfl hl.1 rfl (Nat.le_of_ble_eq_true rfl) dL_sum_93 ⟨(zc1 (D := 3) g42 (Nat.le_of_ble_eq_true rfl)), (zc1 (D := 18) g43 (Nat.le_of_ble_eq_true rfl))⟩) hW (fun r9 z9 H locs h9 hW => ?_)
                obtain ⟨rfl, e9⟩ := h9
                rw [e9, s_gradeBy_z] at hW
                refine lv_imul hx hb dL_sum_96 ?_
                refine lv_i2l hx hb dL_sum_97 rfl ?_
                refine lv_ladd hx hb dL_sum_98 ?_
                refine lv_aload_n hx hb dL_sum_99 rfl (lv_at hl 0 rfl) ?_
                refine lv_iload hx hb dL_sum_100 (lv_at hl 3 rfl) ?_
                refine lv_iload_n hx hb dL_sum_102 rfl (lv_at hl 2 rfl) ?_
                have y45 := h.1
                replace h := h.2
                refine zl_ki (g := g) (rest := [.long (((37 : Int64) * x1_73) + (((40 : Int32) * (zv (s_gradeBy z x4_73 x3_21) [(-11), (-13)]))).toInt64)]) (zl_runV (g := g) (As := [.int x4_73, .int x3_21]) (rest := [.long (((37 : Int64) * x1_73) + (((40 : Int32) * (zv (s_gradeBy z x4_73 x3_21) [(-11), (-13)]))).toInt64)]) hx hb hml hown hts (zD_isAssigned l hst (zl_re g H.size) z x4_73 x3_21 y45) cv_X6_isAssigned q_497 rfl rfl ⟨by rw [hRf]; exact (Nat.le_of_ble_eq_true rfl), by rw [hRl]; exact (Nat.le_of_ble_eq_true rfl)⟩ hW (Or.inl (Nat.le_of_ble_eq_true rfl)) sl_0 rfl rfl hl.1 rfl (Nat.le_of_ble_eq_true rfl) dL_sum_103 ⟨(zc1 (D := 5) g42 (Nat.le_of_ble_eq_true rfl)), (zc1 (D := 30) g43 (Nat.le_of_ble_eq_true rfl))⟩) hW (fun r9 z9 H locs h9 hW => ?_)
                clear y45
                obtain ⟨rfl, e9⟩ := h9
                rw [e9, s_isAssigned_z] at hW
                obtain ⟨CJ114, hCJ114⟩ : ∃ n : Nat, n = cn73 + 0 + 3 + 2 + 0 := ⟨_, rfl⟩
                obtain ⟨SJ114, hSJ114⟩ : ∃ n : Nat, n = sn73 + 0 + 18 + 12 + 0 := ⟨_, rfl⟩
                have hJ114 : ∀ (t0_114 : Int32) (H : Heap) (locs : List Loc) (ls : Array Slot) (cj114 sj114 : Nat), jL_sum_114 z x3_21 x1_73 x4_73 (fun x1_73 x4_73 => lL_sum_73 z x3_21 (fun x1_73k => ∀ v39 : Int32, v39 = x3_21 + (1 : Int32) → ((fun x1_21 x3_21 => lL_sum_21 z (fun x1_21k => lL_sum_148 z (fun x1_148k => Q ((((43 : Int64) * x1_148k) + (((10 : Int32) * (nI (z.1 0)))).toInt64) + ((nI (z.1 1))).toInt64)) 9 x1_21k (1 : Int32)) n21 x1_21 x3_21) x1_73k v39)) n73 x1_73 x4_73) t0_114 → cj114 ≤ CJ114 → sj114 ≤ SJ114 → zl_Wd g [] z s H locs → lv_has ls 5 [(0, .ref (sw_ad g 0)), (3, .int x3_21), (4, .int x4_73)] → W p l e R s m args below meth c H locs cj114 sj114 Q0 (F0 m 114 ls [.int t0_114, .long (((37 : Int64) * x1_73) + (((40 : Int32) * (zv (s_gradeBy z x4_73 x3_21) [(-11), (-13)]))).toInt64)]) := by
                  intro t0_114 H locs ls cj114 sj114 h hcj114 hsj114 hW hl
                  unfold jL_sum_114 at h
                  have g46 : cj114 + 20 ≤ R.cells := zc8 (x := cn73) (D := 5) (s := 25) (s' := 20) hcj114 hCJ114 g42 (Nat.le_of_ble_eq_true rfl)
                  have g47 : cj114 + 2 ≤ Tcn73 := zc8 (x := cn73) (D := 5) (s := 7) (s' := 2) hcj114 hCJ114 g40 (Nat.le_of_ble_eq_true rfl)
                  have g48 : sj114 + 120 ≤ R.slots := zc8 (x := sn73) (D := 30) (s := 150) (s' := 120) hsj114 hSJ114 g43 (Nat.le_of_ble_eq_true rfl)
                  have g49 : sj114 + 12 ≤ Tsn73 := zc8 (x := sn73) (D := 30) (s := 42) (s' := 12) hsj114 hSJ114 g41 (Nat.le_of_ble_eq_true rfl)
                  refine lv_i2l hx hb dL_sum_114 rfl ?_
                  refine lv_ladd hx hb dL_sum_115 ?_
                  refine lv_aload_n hx hb dL_sum_116 rfl (lv_at hl 0 rfl) ?_
                  refine lv_iload hx hb dL_sum_117 (lv_at hl 2 rfl) ?_
                  refine lv_iload_n hx hb dL_sum_119 rfl (lv_at hl 1 rfl) ?_
                  have y50 := h.1
                  replace h := h.2
                  refine zl_ki (g := g) (rest := [.long ((((37 : Int64) * x1_73) + (((40 : Int32) * (zv (s_gradeBy z x4_73 x3_21) [(-11), (-13)]))).toInt64) + (t0_114).toInt64)]) (zl_runV (g := g) (As := [.int x4_73, .int x3_21]) (rest := [.long ((((37 : Int64) * x1_73) + (((40 : Int32) * (zv (s_gradeBy z x4_73 x3_21) [(-11), (-13)]))).toInt64) + (t0_114).toInt64)]) hx hb hml hown hts (zD_isNeutral l hst (zl_re g H.size) z x4_73 x3_21 y50) cv_X6_isNeutral q_619 rfl rfl ⟨by rw [hRf]; exact (Nat.le_of_ble_eq_true rfl), by rw [hRl]; exact (Nat.le_of_ble_eq_true rfl)⟩ hW (Or.inl (Nat.le_of_ble_eq_true rfl)) sl_0 rfl rfl hl.1 rfl (Nat.le_of_ble_eq_true rfl) dL_sum_120 ⟨(zc1 (D := 2) g46 (Nat.le_of_ble_eq_true rfl)), (zc1 (D := 12) g48 (Nat.le_of_ble_eq_true rfl))⟩) hW (fun r9 z9 H locs h9 hW => ?_)
                  clear y50
                  obtain ⟨rfl, e9⟩ := h9
                  rw [e9, s_isNeutral_z] at hW
                  obtain ⟨CJ131, hCJ131⟩ : ∃ n : Nat, n = cj114 + 2 + 0 := ⟨_, rfl⟩
                  obtain ⟨SJ131, hSJ131⟩ : ∃ n : Nat, n = sj114 + 12 + 0 := ⟨_, rfl⟩
                  have hJ131 : ∀ (t0_131 : Int32) (H : Heap) (locs : List Loc) (ls : Array Slot) (cj131 sj131 : Nat), jL_sum_131 z x3_21 x1_73 x4_73 t0_114 (fun x1_73 x4_73 => lL_sum_73 z x3_21 (fun x1_73k => ∀ v39 : Int32, v39 = x3_21 + (1 : Int32) → ((fun x1_21 x3_21 => lL_sum_21 z (fun x1_21k => lL_sum_148 z (fun x1_148k => Q ((((43 : Int64) * x1_148k) + (((10 : Int32) * (nI (z.1 0)))).toInt64) + ((nI (z.1 1))).toInt64)) 9 x1_21k (1 : Int32)) n21 x1_21 x3_21) x1_73k v39)) n73 x1_73 x4_73) t0_131 → cj131 ≤ CJ131 → sj131 ≤ SJ131 → zl_Wd g [] z s H locs → lv_has ls 5 [(0, .ref (sw_ad g 0)), (3, .int x3_21), (4, .int x4_73)] → W p l e R s m args below meth c H locs cj131 sj131 Q0 (F0 m 131 ls [.int t0_131, .long ((((37 : Int64) * x1_73) + (((40 : Int32) * (zv (s_gradeBy z x4_73 x3_21) [(-11), (-13)]))).toInt64) + (t0_114).toInt64)]) := by
                    intro t0_131 H locs ls cj131 sj131 h hcj131 hsj131 hW hl
                    unfold jL_sum_131 at h
                    have g51 : cj131 + 18 ≤ R.cells := zc8 (x := cj114) (D := 2) (s := 20) (s' := 18) hcj131 hCJ131 g46 (Nat.le_of_ble_eq_true rfl)
                    have g52 : cj131 + 0 ≤ Tcn73 := zc8 (x := cj114) (D := 2) (s := 2) (s' := 0) hcj131 hCJ131 g47 (Nat.le_of_ble_eq_true rfl)
                    have g53 : sj131 + 108 ≤ R.slots := zc8 (x := sj114) (D := 12) (s := 120) (s' := 108) hsj131 hSJ131 g48 (Nat.le_of_ble_eq_true rfl)
                    have g54 : sj131 + 0 ≤ Tsn73 := zc8 (x := sj114) (D := 12) (s := 12) (s' := 0) hsj131 hSJ131 g49 (Nat.le_of_ble_eq_true rfl)
                    refine lv_i2l hx hb dL_sum_131 rfl ?_
                    refine lv_ladd hx hb dL_sum_132 ?_
                    refine lv_topl (fun v55 ev55 => ?_)
                    replace h := h v55 ev55
                    refine lv_lstore_n (lv' := [(1, .long v55), (0, .ref (sw_ad g 0)), (3, .int x3_21), (4, .int x4_73)]) hx hb dL_sum_133 rfl hl (Nat.le_of_ble_eq_true rfl) rfl (fun ls hl => ?_)
                    obtain ⟨v56, ev56⟩ : ∃ z : Int32, z = x4_73 + (1 : Int32) := ⟨_, rfl⟩
                    replace h := h v56 ev56
                    refine lv_iinc (v := v56) (lv' := [(4, .int v56), (1, .long v55), (0, .ref (sw_ad g 0)), (3, .int x3_21)]) hx hb dL_sum_134 hl (k := 3) rfl (by rw [ev56]; rfl) (Nat.le_of_ble_eq_true rfl) rfl (fun ls hl => ?_)
                    refine lv_goto (tgt := 73) hx hb dL_sum_137 (by decide) ?_
                    exact ih73 v55 v56 _ _ _ _ _ h (zc10 (zc1 (D := 0) g52 (Nat.le_of_ble_eq_true rfl)) hTcn73 hcn73) (zc10 (zc1 (D := 0) g54 (Nat.le_of_ble_eq_true rfl)) hTsn73 hsn73) hW (lv_sub hl [2, 1, 3, 0] rfl)
                  have g57 : cj114 + 2 ≤ CJ131 := Nat.le_of_eq hCJ131.symm
                  have g58 : sj114 + 12 ≤ SJ131 := Nat.le_of_eq hSJ131.symm
                  refine lv_if_eq (tgt := 130) hx hb dL_sum_123 (by decide) (fun k59 => ?_) (fun k59 => ?_)
                  · replace h := h.1 k59
                    refine lv_iconst (v := 0) hx hb dL_sum_130 (by decide) ?_
                    exact hJ131 (0 : Int32) _ _ _ _ _ h (zc1 (D := 2) g57 (Nat.le_of_ble_eq_true rfl)) (zc1 (D := 12) g58 (Nat.le_of_ble_eq_true rfl)) hW (lv_sub hl [0, 1, 2] rfl)
                  · replace h := h.2 k59
                    refine lv_iconst (v := 1) hx hb dL_sum_126 (by decide) ?_
                    refine lv_goto (tgt := 131) hx hb dL_sum_127 (by decide) ?_
                    exact hJ131 (1 : Int32) _ _ _ _ _ h (zc1 (D := 2) g57 (Nat.le_of_ble_eq_true rfl)) (zc1 (D := 12) g58 (Nat.le_of_ble_eq_true rfl)) hW (lv_sub hl [0, 1, 2] rfl)
                have g60 : cn73 + 5 ≤ CJ114 := Nat.le_of_eq hCJ114.symm
                have g61 : sn73 + 30 ≤ SJ114 := Nat.le_of_eq hSJ114.symm
                refine lv_if_eq (tgt := 113) hx hb dL_sum_106 (by decide) (fun k62 => ?_) (fun k62 => ?_)
                · replace h := h.1 k62
                  refine lv_iconst (v := 0) hx hb dL_sum_113 (by decide) ?_
                  exact hJ114 (0 : Int32) _ _ _ _ _ h (zc1 (D := 5) g60 (Nat.le_of_ble_eq_true rfl)) (zc1 (D := 30) g61 (Nat.le_of_ble_eq_true rfl)) hW (lv_sub hl [0, 2, 3] rfl)
                · replace h := h.2 k62
                  refine lv_iconst (v := 2) hx hb dL_sum_109 (by decide) ?_
                  refine lv_goto (tgt := 114) hx hb dL_sum_110 (by decide) ?_
                  exact hJ114 (2 : Int32) _ _ _ _ _ h (zc1 (D := 5) g60 (Nat.le_of_ble_eq_true rfl)) (zc1 (D := 30) g61 (Nat.le_of_ble_eq_true rfl)) hW (lv_sub hl [0, 2, 3] rfl)
          exact key73 7 v34 (0 : Int32) _ _ _ _ _ h (Nat.le_of_eq hCL73.symm) (Nat.le_of_eq hSL73.symm) hW (lv_sub hl [2, 1, 3, 0] rfl)
        have g63 : cn21 + 3 ≤ CJ67 := Nat.le_of_eq hCJ67.symm
        have g64 : sn21 + 18 ≤ SJ67 := Nat.le_of_eq hSJ67.symm
        refine lv_if_eq (tgt := 66) hx hb dL_sum_59 (by decide) (fun k65 => ?_) (fun k65 => ?_)
        · replace h := h.1 k65
          refine lv_iconst (v := 0) hx hb dL_sum_66 (by decide) ?_
          exact hJ67 (0 : Int32) _ _ _ _ _ h (zc1 (D := 3) g63 (Nat.le_of_ble_eq_true rfl)) (zc1 (D := 18) g64 (Nat.le_of_ble_eq_true rfl)) hW (lv_sub hl [0, 2] rfl)
        · replace h := h.2 k65
          refine lv_iconst (v := 1) hx hb dL_sum_62 (by decide) ?_
          refine lv_goto (tgt := 67) hx hb dL_sum_63 (by decide) ?_
          exact hJ67 (1 : Int32) _ _ _ _ _ h (zc1 (D := 3) g63 (Nat.le_of_ble_eq_true rfl)) (zc1 (D := 18) g64 (Nat.le_of_ble_eq_true rfl)) hW (lv_sub hl [0, 2] rfl)
  exact key21 9 v1 (0 : Int32) _ _ _ _ _ h (Nat.le_of_eq hCL21.symm) (Nat.le_of_eq hSL21.symm) hW (lv_sub hl [2, 1, 0] rfl)
