/-! Each case of the law: the class and the reference answer alike, and stay together. -/
def zEo : sM → sO → sE → Prop := fun M _ _ => ∃ z : zG, CI M z ∧ MI M z ∧ GI z
theorem p_tail {s : Nat × Nat × zG} (hv : vOK s) {M5 M12 : sM} {o1 : sO} {d : sE} {r : Int32} (hC5 : CI M5 s.2.2) (ho : s.1 = 0 → o1 0 = lN s.2.1) (f : fM M5 M12) (hM : MI M12 s.2.2) (ht : M12 33 6 = nI s.1) (hr : s.1 = 0 → r = nI s.2.1) :
    wX7_thrown M12 (fun r13 => (r13 = nI s.1 → ((nI s.1 = 0 → (((lg_cmp (o1 ((0 : Int32)).toNatClampNeg) (r).toInt64) = 0 → (zEo M12 o1 d)) ∧ (¬ (lg_cmp (o1 ((0 : Int32)).toNatClampNeg) (r).toInt64) = 0 → (False)))) ∧ (¬ nI s.1 = 0 → (zEo M12 o1 d)))) ∧ (¬ r13 = nI s.1 → (False))) := by
  have hN : zEo M12 o1 d := ⟨s.2.2, CI_M hC5 f, hM, hv.2.2⟩
  refine ⟨fun _ => ⟨fun z => ⟨fun _ => hN, fun hn => hn ?_⟩, fun _ => hN⟩, fun hn => hn ht⟩
  have z0 : s.1 = 0 := (nI_eq (by have := hv.1; omega) (by decide)).mp z
  rw [hr z0, nI_l hv.2.1, show o1 ((0 : Int32)).toNatClampNeg = o1 0 from rfl, ho z0]
  exact (lg_cmp_eq _ _).mpr rfl
theorem p_tailb {s : Nat × Nat × zG} (hv : vOK s) (h01 : s.2.1 ≤ 1) {M5 M12 : sM} {o1 : sO} {d : sE} {r : Int32} (hC5 : CI M5 s.2.2) (ho : s.1 = 0 → o1 0 = lN s.2.1) (f : fM M5 M12) (hM : MI M12 s.2.2) (ht : M12 33 6 = nI s.1) (hr : s.1 = 0 → r = nI s.2.1) :
    wX7_thrown M12 (fun r13 => (r13 = nI s.1 → ((nI s.1 = 0 → ((r = 0 → (((lg_cmp (o1 ((0 : Int32)).toNatClampNeg) (0 : Int64)) = 0 → (zEo M12 o1 d)) ∧ (¬ (lg_cmp (o1 ((0 : Int32)).toNatClampNeg) (0 : Int64)) = 0 → (False)))) ∧ (¬ r = 0 → (((lg_cmp (o1 ((0 : Int32)).toNatClampNeg) (1 : Int64)) = 0 → (zEo M12 o1 d)) ∧ (¬ (lg_cmp (o1 ((0 : Int32)).toNatClampNeg) (1 : Int64)) = 0 → (False)))))) ∧ (¬ nI s.1 = 0 → (zEo M12 o1 d)))) ∧ (¬ r13 = nI s.1 → (False))) := by
  have hN : zEo M12 o1 d := ⟨s.2.2, CI_M hC5 f, hM, hv.2.2⟩
  refine ⟨fun _ => ⟨fun z => ⟨fun q => ⟨fun _ => hN, fun hn => hn ?_⟩, fun q => ⟨fun _ => hN, fun hn => hn ?_⟩⟩, fun _ => hN⟩, fun hn => hn ht⟩
  · have z0 : s.1 = 0 := (nI_eq (by have := hv.1; omega) (by decide)).mp z
    rw [hr z0] at q
    have e : s.2.1 = 0 := (nI_eq (by omega) (by decide)).mp q
    rw [show o1 ((0 : Int32)).toNatClampNeg = o1 0 from rfl, ho z0, e]
    exact (lg_cmp_eq _ _).mpr rfl
  · have z0 : s.1 = 0 := (nI_eq (by have := hv.1; omega) (by decide)).mp z
    rw [hr z0] at q
    have e : s.2.1 = 1 := by
      have : s.2.1 ≠ 0 := fun w => q (by rw [w]; rfl)
      omega
    rw [show o1 ((0 : Int32)).toNatClampNeg = o1 0 from rfl, ho z0, e]
    exact (lg_cmp_eq _ _).mpr rfl
theorem p_i2c (x : Int32) : ∃ c : Nat, c < 65536 ∧ (x.toUInt32 % 65536).toInt32 = nI c := ⟨_, Nat.mod_lt _ (by decide), pk_char x⟩
theorem v_01 {p q : Prop} [Decidable p] [Decidable q] {g : zG} : (if q then ((0, (if p then 1 else 0), g) : Nat × Nat × zG) else (1, 0, g)).2.1 ≤ 1 := by
  split
  · show (if p then 1 else 0) ≤ 1; split <;> omega
  · exact Nat.zero_le _
theorem zf_cmp : ∀ c, c < 9 → 0 < c → ∀ s, s < 9 → Op.cmpValue (FP.dcmp (FP.f2d (FP.fdiv (FP.i2f (nI s)) (FP.i2f (nI c)))) (FP.f2d (FP.fdiv (FP.i2f (nI s)) (FP.i2f (nI c))))) CmpOp.l = 0 := by decide +kernel
section PC
variable {L : Nat} {xs : Nat → Int32} {i : Int32} {M : sM} {o : sO} {d : sE} {z : zG}

theorem pcase_0 (hC : CI M z) (hM : MI M z) (hG : GI z) (b1 : vp_in (i + (1 : Int32)) L) (b2 : vp_in (i + (2 : Int32)) L) (b3 : vp_in (i + (3 : Int32)) L) (b4 : vp_in (i + (4 : Int32)) L) : wcase_0 L xs i M o d zEo := by
  unfold wcase_0
  refine ⟨b1, ?_⟩
  intro v2 ev2
  refine ⟨b2, ?_⟩
  refine L_addDoor hC hG _ _ ?_
  intro M5 o5 f5 hC5 ho
  refine ⟨b1, ?_⟩
  intro v9 ev9
  refine ⟨b2, ?_⟩
  rw [ev9, ← ev2]
  refine m_addDoor (MI_C hM f5) hG _ _ ?_
  intro M12 r f12 hM12 ht hr
  exact p_tail (v_S hG (oDoor_c _ _ _) (by decide) (oDoor_v hG.1 _ _) (oDoor_B hG.1 _ _)) hC5 ho f12 hM12 ht hr
theorem pcase_1 (hC : CI M z) (hM : MI M z) (hG : GI z) (b1 : vp_in (i + (1 : Int32)) L) (b2 : vp_in (i + (2 : Int32)) L) (b3 : vp_in (i + (3 : Int32)) L) (b4 : vp_in (i + (4 : Int32)) L) : wcase_1 L xs i M o d zEo := by
  unfold wcase_1
  refine ⟨b1, ?_⟩
  intro v2 ev2
  refine ⟨b2, ?_⟩
  refine ⟨b3, ?_⟩
  refine ⟨b4, ?_⟩
  refine L_addExaminer hC hG _ _ _ _ ?_
  intro M5 o5 f5 hC5 ho
  refine ⟨b1, ?_⟩
  intro v11 ev11
  refine ⟨b2, ?_⟩
  refine ⟨b3, ?_⟩
  refine ⟨b4, ?_⟩
  rw [ev11, ← ev2]
  refine m_addExaminer (MI_C hM f5) hG _ _ _ _ ?_
  intro M12 r f12 hM12 ht hr
  exact p_tail (v_S hG (oExam_c _ _ _ _ _) (by decide) (oExam_v hG.1 _ _ _ _) (oExam_B hG.1 _ _ _ _)) hC5 ho f12 hM12 ht hr
theorem pcase_2 (hC : CI M z) (hM : MI M z) (hG : GI z) (b1 : vp_in (i + (1 : Int32)) L) (b2 : vp_in (i + (2 : Int32)) L) (b3 : vp_in (i + (3 : Int32)) L) (b4 : vp_in (i + (4 : Int32)) L) : wcase_2 L xs i M o d zEo := by
  unfold wcase_2
  refine ⟨b1, ?_⟩
  refine ⟨b2, ?_⟩
  refine L_declareConflict hC hG _ _ ?_
  intro M5 o5 f5 hC5 ho
  refine ⟨b1, ?_⟩
  refine ⟨b2, ?_⟩
  refine m_declareConflict (MI_C hM f5) hG _ _ ?_
  intro M12 r f12 hM12 ht hr
  exact p_tail (v_S hG (oConf_c _ _ _) (by decide) (oConf_v hG.1 _ _) (oConf_B hG.1 _ _)) hC5 ho f12 hM12 ht hr
theorem pcase_3 (hC : CI M z) (hM : MI M z) (hG : GI z) (b1 : vp_in (i + (1 : Int32)) L) (b2 : vp_in (i + (2 : Int32)) L) (b3 : vp_in (i + (3 : Int32)) L) (b4 : vp_in (i + (4 : Int32)) L) : wcase_3 L xs i M o d zEo := by
  unfold wcase_3
  refine ⟨b1, ?_⟩
  refine ⟨b2, ?_⟩
  refine L_assign hC hG _ _ ?_
  intro M5 o5 f5 hC5 ho
  refine ⟨b1, ?_⟩
  refine ⟨b2, ?_⟩
  refine m_assign (MI_C hM f5) hG _ _ ?_
  intro M12 r f12 hM12 ht hr
  exact p_tail (v_S hG (oAss_c _ _ _) (by decide) (oAss_v hG.1 _ _) (oAss_B hG.1 _ _)) hC5 ho f12 hM12 ht hr
theorem pcase_4 (hC : CI M z) (hM : MI M z) (hG : GI z) (b1 : vp_in (i + (1 : Int32)) L) (b2 : vp_in (i + (2 : Int32)) L) (b3 : vp_in (i + (3 : Int32)) L) (b4 : vp_in (i + (4 : Int32)) L) : wcase_4 L xs i M o d zEo := by
  unfold wcase_4
  refine L_carryOutPlan hC hG (fun M1 f1 h1 => ?_)
  refine m_carryOutPlan (MI_C hM f1) hG ?_
  intro M3 r f3 h3 ht hr
  exact ⟨fun _ => ⟨_, CI_M h1 f3, h3, GI_chg hG (oPlan_B hG.1)⟩, fun hn => hn (hr rfl).symm⟩
theorem pcase_5 (hC : CI M z) (hM : MI M z) (hG : GI z) (b1 : vp_in (i + (1 : Int32)) L) (b2 : vp_in (i + (2 : Int32)) L) (b3 : vp_in (i + (3 : Int32)) L) (b4 : vp_in (i + (4 : Int32)) L) : wcase_5 L xs i M o d zEo := by
  unfold wcase_5
  refine ⟨b1, ?_⟩
  refine ⟨b2, ?_⟩
  refine ⟨b3, ?_⟩
  refine L_grade hC hG _ _ _ ?_
  intro M5 o5 f5 hC5 ho
  refine ⟨b1, ?_⟩
  refine ⟨b2, ?_⟩
  refine ⟨b3, ?_⟩
  refine m_grade (MI_C hM f5) hG _ _ _ ?_
  intro M12 r f12 hM12 ht hr
  exact p_tail (v_S hG (oGrad_c _ _ _ _) (by decide) (oGrad_v hG.1 _ _ _) (oGrad_B hG.1 _ _ _)) hC5 ho f12 hM12 ht hr
theorem pcase_6 (hC : CI M z) (hM : MI M z) (hG : GI z) (b1 : vp_in (i + (1 : Int32)) L) (b2 : vp_in (i + (2 : Int32)) L) (b3 : vp_in (i + (3 : Int32)) L) (b4 : vp_in (i + (4 : Int32)) L) : wcase_6 L xs i M o d zEo := by
  unfold wcase_6
  refine ⟨b1, ?_⟩
  refine L_setThreshold hC hG _ ?_
  intro M5 o5 f5 hC5 ho
  refine ⟨b1, ?_⟩
  refine m_setThreshold (MI_C hM f5) hG _ ?_
  intro M12 r f12 hM12 ht hr
  exact p_tail (v_S hG (oThr_c _ _) (by decide) (oThr_v hG.1 _) (oThr_B hG.1 _)) hC5 ho f12 hM12 ht hr
theorem pcase_7 (hC : CI M z) (hM : MI M z) (hG : GI z) (b1 : vp_in (i + (1 : Int32)) L) (b2 : vp_in (i + (2 : Int32)) L) (b3 : vp_in (i + (3 : Int32)) L) (b4 : vp_in (i + (4 : Int32)) L) : wcase_7 L xs i M o d zEo := by
  unfold wcase_7
  refine ⟨b1, ?_⟩
  refine L_appeal hC hG _ ?_
  intro M5 o5 f5 hC5 ho
  refine ⟨b1, ?_⟩
  refine m_appeal (MI_C hM f5) hG _ ?_
  intro M12 r f12 hM12 ht hr
  exact p_tail (v_S hG (oApp_c _ _) (by decide) (oApp_v _) (oApp_B hG.1 _)) hC5 ho f12 hM12 ht hr
theorem pcase_8 (hC : CI M z) (hM : MI M z) (hG : GI z) (b1 : vp_in (i + (1 : Int32)) L) (b2 : vp_in (i + (2 : Int32)) L) (b3 : vp_in (i + (3 : Int32)) L) (b4 : vp_in (i + (4 : Int32)) L) : wcase_8 L xs i M o d zEo := by
  unfold wcase_8
  refine ⟨b1, ?_⟩
  refine L_award hC hG _ ?_
  intro M5 o5 f5 hC5 ho
  refine ⟨b1, ?_⟩
  refine m_award (MI_C hM f5) hG _ ?_
  intro M12 r f12 hM12 ht hr
  exact p_tail (v_S hG (oAw_c _ _) (by decide) (oAw_v hG.1 _) (oAw_B hG.1 _)) hC5 ho f12 hM12 ht hr
theorem pcase_9 (hC : CI M z) (hM : MI M z) (hG : GI z) (b1 : vp_in (i + (1 : Int32)) L) (b2 : vp_in (i + (2 : Int32)) L) (b3 : vp_in (i + (3 : Int32)) L) (b4 : vp_in (i + (4 : Int32)) L) : wcase_9 L xs i M o d zEo := by
  unfold wcase_9
  refine ⟨b1, ?_⟩
  refine L_revoke hC hG _ ?_
  intro M5 o5 f5 hC5 ho
  refine ⟨b1, ?_⟩
  refine m_revoke (MI_C hM f5) hG _ ?_
  intro M12 r f12 hM12 ht hr
  exact p_tail (v_S hG (oRev_c _ _) (by decide) (oRev_v hG.1 _) (oRev_B hG.1 _)) hC5 ho f12 hM12 ht hr
theorem pcase_10 (hC : CI M z) (hM : MI M z) (hG : GI z) (b1 : vp_in (i + (1 : Int32)) L) (b2 : vp_in (i + (2 : Int32)) L) (b3 : vp_in (i + (3 : Int32)) L) (b4 : vp_in (i + (4 : Int32)) L) : wcase_10 L xs i M o d zEo := by
  unfold wcase_10
  refine L_doorCount hC ?_
  refine m_doorCount hM ?_
  intro M3 r f3 h3 ht hr
  exact ⟨fun _ => ⟨_, CI_M hC f3, h3, hG⟩, fun hn => hn (hr rfl).symm⟩
theorem pcase_11 (hC : CI M z) (hM : MI M z) (hG : GI z) (b1 : vp_in (i + (1 : Int32)) L) (b2 : vp_in (i + (2 : Int32)) L) (b3 : vp_in (i + (3 : Int32)) L) (b4 : vp_in (i + (4 : Int32)) L) : wcase_11 L xs i M o d zEo := by
  unfold wcase_11
  refine ⟨b1, ?_⟩
  refine L_frameOfDoor hC hG _ ?_
  intro M5 o5 f5 hC5 ho
  refine ⟨b1, ?_⟩
  refine m_frameOfDoor (MI_C hM f5) hG _ ?_
  intro M12 r f12 hM12 ht hr
  exact p_tail (v_frameOfDoor hG _) hC5 ho f12 hM12 ht hr
theorem pcase_12 (hC : CI M z) (hM : MI M z) (hG : GI z) (b1 : vp_in (i + (1 : Int32)) L) (b2 : vp_in (i + (2 : Int32)) L) (b3 : vp_in (i + (3 : Int32)) L) (b4 : vp_in (i + (4 : Int32)) L) : wcase_12 L xs i M o d zEo := by
  unfold wcase_12
  refine ⟨b1, ?_⟩
  refine L_topic hC hG _ ?_
  intro M5 o5 f5 hC5 ho
  refine ⟨b1, ?_⟩
  refine m_topic (MI_C hM f5) hG _ ?_
  intro M12 r f12 hM12 ht hr
  exact p_tail (v_topic hG _) hC5 ho f12 hM12 ht hr
theorem pcase_13 (hC : CI M z) (hM : MI M z) (hG : GI z) (b1 : vp_in (i + (1 : Int32)) L) (b2 : vp_in (i + (2 : Int32)) L) (b3 : vp_in (i + (3 : Int32)) L) (b4 : vp_in (i + (4 : Int32)) L) : wcase_13 L xs i M o d zEo := by
  unfold wcase_13
  refine ⟨b1, ?_⟩
  refine L_examinersOf hC hG _ ?_
  intro M5 o5 f5 hC5 ho
  refine ⟨b1, ?_⟩
  refine m_examinersOf (MI_C hM f5) hG _ ?_
  intro M12 r f12 hM12 ht hr
  exact p_tail (v_examinersOf hG _) hC5 ho f12 hM12 ht hr
theorem pcase_14 (hC : CI M z) (hM : MI M z) (hG : GI z) (b1 : vp_in (i + (1 : Int32)) L) (b2 : vp_in (i + (2 : Int32)) L) (b3 : vp_in (i + (3 : Int32)) L) (b4 : vp_in (i + (4 : Int32)) L) : wcase_14 L xs i M o d zEo := by
  unfold wcase_14
  refine ⟨b1, ?_⟩
  refine L_gradesOf hC hG _ ?_
  intro M5 o5 f5 hC5 ho
  refine ⟨b1, ?_⟩
  refine m_gradesOf (MI_C hM f5) hG _ ?_
  intro M12 r f12 hM12 ht hr
  exact p_tail (v_gradesOf hG _) hC5 ho f12 hM12 ht hr
theorem pcase_15 (hC : CI M z) (hM : MI M z) (hG : GI z) (b1 : vp_in (i + (1 : Int32)) L) (b2 : vp_in (i + (2 : Int32)) L) (b3 : vp_in (i + (3 : Int32)) L) (b4 : vp_in (i + (4 : Int32)) L) : wcase_15 L xs i M o d zEo := by
  unfold wcase_15
  refine ⟨b1, ?_⟩
  refine L_result hC hG _ ?_
  intro M5 o5 f5 hC5 ho
  refine ⟨b1, ?_⟩
  refine m_result (MI_C hM f5) hG _ ?_
  intro M12 r f12 hM12 ht hr
  exact p_tail (v_result hG _) hC5 ho f12 hM12 ht hr
theorem pcase_16 (hC : CI M z) (hM : MI M z) (hG : GI z) (b1 : vp_in (i + (1 : Int32)) L) (b2 : vp_in (i + (2 : Int32)) L) (b3 : vp_in (i + (3 : Int32)) L) (b4 : vp_in (i + (4 : Int32)) L) : wcase_16 L xs i M o d zEo := by
  unfold wcase_16
  refine ⟨b1, ?_⟩
  refine L_passes hC hG _ ?_
  intro M5 o5 f5 hC5 ho
  refine ⟨b1, ?_⟩
  refine m_passes (MI_C hM f5) hG _ ?_
  intro M12 r f12 hM12 ht hr
  exact p_tailb (v_passes hG _) v_01 hC5 ho f12 hM12 ht hr
theorem pcase_17 (hC : CI M z) (hM : MI M z) (hG : GI z) (b1 : vp_in (i + (1 : Int32)) L) (b2 : vp_in (i + (2 : Int32)) L) (b3 : vp_in (i + (3 : Int32)) L) (b4 : vp_in (i + (4 : Int32)) L) : wcase_17 L xs i M o d zEo := by
  unfold wcase_17
  refine ⟨b1, ?_⟩
  refine L_wasGranted hC hG _ ?_
  intro M5 o5 f5 hC5 ho
  refine ⟨b1, ?_⟩
  refine m_wasGranted (MI_C hM f5) hG _ ?_
  intro M12 r f12 hM12 ht hr
  exact p_tailb (v_wasGranted hG _) v_01 hC5 ho f12 hM12 ht hr
theorem pcase_18 (hC : CI M z) (hM : MI M z) (hG : GI z) (b1 : vp_in (i + (1 : Int32)) L) (b2 : vp_in (i + (2 : Int32)) L) (b3 : vp_in (i + (3 : Int32)) L) (b4 : vp_in (i + (4 : Int32)) L) : wcase_18 L xs i M o d zEo := by
  unfold wcase_18
  refine ⟨b1, ?_⟩
  refine L_isEntitled hC hG _ ?_
  intro M5 o5 f5 hC5 ho
  refine ⟨b1, ?_⟩
  refine m_isEntitled (MI_C hM f5) hG _ ?_
  intro M12 r f12 hM12 ht hr
  exact p_tailb (v_isEntitled hG _) v_01 hC5 ho f12 hM12 ht hr
theorem pcase_19 (hC : CI M z) (hM : MI M z) (hG : GI z) (b1 : vp_in (i + (1 : Int32)) L) (b2 : vp_in (i + (2 : Int32)) L) (b3 : vp_in (i + (3 : Int32)) L) (b4 : vp_in (i + (4 : Int32)) L) : wcase_19 L xs i M o d zEo := by
  unfold wcase_19
  refine ⟨b1, ?_⟩
  refine L_doorAtRank hC hG _ ?_
  intro M5 o5 f5 hC5 ho
  refine ⟨b1, ?_⟩
  refine m_doorAtRank (MI_C hM f5) hG _ ?_
  intro M12 r f12 hM12 ht hr
  exact p_tail (v_doorAtRank hG _) hC5 ho f12 hM12 ht hr
theorem pcase_20 (hC : CI M z) (hM : MI M z) (hG : GI z) (b1 : vp_in (i + (1 : Int32)) L) (b2 : vp_in (i + (2 : Int32)) L) (b3 : vp_in (i + (3 : Int32)) L) (b4 : vp_in (i + (4 : Int32)) L) : wcase_20 L xs i M o d zEo := by
  unfold wcase_20
  refine L_examinerCount hC ?_
  refine m_examinerCount hM ?_
  intro M3 r f3 h3 ht hr
  exact ⟨fun _ => ⟨_, CI_M hC f3, h3, hG⟩, fun hn => hn (hr rfl).symm⟩
theorem pcase_21 (hC : CI M z) (hM : MI M z) (hG : GI z) (b1 : vp_in (i + (1 : Int32)) L) (b2 : vp_in (i + (2 : Int32)) L) (b3 : vp_in (i + (3 : Int32)) L) (b4 : vp_in (i + (4 : Int32)) L) : wcase_21 L xs i M o d zEo := by
  unfold wcase_21
  refine ⟨b1, ?_⟩
  refine L_frameOfExaminer hC hG _ ?_
  intro M5 o5 f5 hC5 ho
  refine ⟨b1, ?_⟩
  refine m_frameOfExaminer (MI_C hM f5) hG _ ?_
  intro M12 r f12 hM12 ht hr
  exact p_tail (v_frameOfExaminer hG _) hC5 ho f12 hM12 ht hr
theorem pcase_22 (hC : CI M z) (hM : MI M z) (hG : GI z) (b1 : vp_in (i + (1 : Int32)) L) (b2 : vp_in (i + (2 : Int32)) L) (b3 : vp_in (i + (3 : Int32)) L) (b4 : vp_in (i + (4 : Int32)) L) : wcase_22 L xs i M o d zEo := by
  unfold wcase_22
  refine ⟨b1, ?_⟩
  refine L_load hC hG _ ?_
  intro M5 o5 f5 hC5 ho
  refine ⟨b1, ?_⟩
  refine m_load (MI_C hM f5) hG _ ?_
  intro M12 r f12 hM12 ht hr
  exact p_tail (v_load hG _) hC5 ho f12 hM12 ht hr
theorem pcase_23 (hC : CI M z) (hM : MI M z) (hG : GI z) (b1 : vp_in (i + (1 : Int32)) L) (b2 : vp_in (i + (2 : Int32)) L) (b3 : vp_in (i + (3 : Int32)) L) (b4 : vp_in (i + (4 : Int32)) L) : wcase_23 L xs i M o d zEo := by
  unfold wcase_23
  refine ⟨b1, ?_⟩
  refine ⟨b2, ?_⟩
  refine L_isNeutral hC hG _ _ ?_
  intro M5 o5 f5 hC5 ho
  refine ⟨b1, ?_⟩
  refine ⟨b2, ?_⟩
  refine m_isNeutral (MI_C hM f5) hG _ _ ?_
  intro M12 r f12 hM12 ht hr
  exact p_tailb (v_isNeutral hG _ _) v_01 hC5 ho f12 hM12 ht hr
theorem pcase_24 (hC : CI M z) (hM : MI M z) (hG : GI z) (b1 : vp_in (i + (1 : Int32)) L) (b2 : vp_in (i + (2 : Int32)) L) (b3 : vp_in (i + (3 : Int32)) L) (b4 : vp_in (i + (4 : Int32)) L) : wcase_24 L xs i M o d zEo := by
  unfold wcase_24
  refine ⟨b1, ?_⟩
  refine ⟨b2, ?_⟩
  refine L_mayJudge hC hG _ _ ?_
  intro M5 o5 f5 hC5 ho
  refine ⟨b1, ?_⟩
  refine ⟨b2, ?_⟩
  refine m_mayJudge (MI_C hM f5) hG _ _ ?_
  intro M12 r f12 hM12 ht hr
  exact p_tailb (v_mayJudge hG _ _) v_01 hC5 ho f12 hM12 ht hr
theorem pcase_25 (hC : CI M z) (hM : MI M z) (hG : GI z) (b1 : vp_in (i + (1 : Int32)) L) (b2 : vp_in (i + (2 : Int32)) L) (b3 : vp_in (i + (3 : Int32)) L) (b4 : vp_in (i + (4 : Int32)) L) : wcase_25 L xs i M o d zEo := by
  unfold wcase_25
  refine ⟨b1, ?_⟩
  refine ⟨b2, ?_⟩
  refine L_isAssigned hC hG _ _ ?_
  intro M5 o5 f5 hC5 ho
  refine ⟨b1, ?_⟩
  refine ⟨b2, ?_⟩
  refine m_isAssigned (MI_C hM f5) hG _ _ ?_
  intro M12 r f12 hM12 ht hr
  exact p_tailb (v_isAssigned hG _ _) v_01 hC5 ho f12 hM12 ht hr
theorem pcase_26 (hC : CI M z) (hM : MI M z) (hG : GI z) (b1 : vp_in (i + (1 : Int32)) L) (b2 : vp_in (i + (2 : Int32)) L) (b3 : vp_in (i + (3 : Int32)) L) (b4 : vp_in (i + (4 : Int32)) L) : wcase_26 L xs i M o d zEo := by
  unfold wcase_26
  refine ⟨b1, ?_⟩
  refine ⟨b2, ?_⟩
  refine L_gradeBy hC hG _ _ ?_
  intro M5 o5 f5 hC5 ho
  refine ⟨b1, ?_⟩
  refine ⟨b2, ?_⟩
  refine m_gradeBy (MI_C hM f5) hG _ _ ?_
  intro M12 r f12 hM12 ht hr
  exact p_tail (v_gradeBy hG _ _) hC5 ho f12 hM12 ht hr
theorem pcase_27 (hC : CI M z) (hM : MI M z) (hG : GI z) (b1 : vp_in (i + (1 : Int32)) L) (b2 : vp_in (i + (2 : Int32)) L) (b3 : vp_in (i + (3 : Int32)) L) (b4 : vp_in (i + (4 : Int32)) L) : wcase_27 L xs i M o d zEo := by
  unfold wcase_27
  refine L_planSize hC hG (fun M1 f1 h1 => ?_)
  refine m_planSize (MI_C hM f1) hG ?_
  intro M3 r f3 h3 ht hr
  exact ⟨fun _ => ⟨_, CI_M h1 f3, h3, hG⟩, fun hn => hn (hr rfl).symm⟩
theorem pcase_28 (hC : CI M z) (hM : MI M z) (hG : GI z) (b1 : vp_in (i + (1 : Int32)) L) (b2 : vp_in (i + (2 : Int32)) L) (b3 : vp_in (i + (3 : Int32)) L) (b4 : vp_in (i + (4 : Int32)) L) : wcase_28 L xs i M o d zEo := by
  unfold wcase_28
  refine L_planSizeBySets hC hG (fun M1 f1 h1 => ?_)
  refine m_planSizeBySets (MI_C hM f1) hG ?_
  intro M3 r f3 h3 ht hr
  exact ⟨fun _ => ⟨_, CI_M h1 f3, h3, hG⟩, fun hn => hn (hr rfl).symm⟩
theorem pcase_29 (hC : CI M z) (hM : MI M z) (hG : GI z) (b1 : vp_in (i + (1 : Int32)) L) (b2 : vp_in (i + (2 : Int32)) L) (b3 : vp_in (i + (3 : Int32)) L) (b4 : vp_in (i + (4 : Int32)) L) : wcase_29 L xs i M o d zEo := by
  unfold wcase_29
  refine ⟨b1, ?_⟩
  refine L_plannedExaminer hC hG _ ?_
  intro M5 o5 f5 hC5 ho
  refine ⟨b1, ?_⟩
  refine m_plannedExaminer (MI_C hM f5) hG _ ?_
  intro M12 r f12 hM12 ht hr
  exact p_tail (v_planned hG _) hC5 ho f12 hM12 ht hr
theorem pcase_30 (hC : CI M z) (hM : MI M z) (hG : GI z) (b1 : vp_in (i + (1 : Int32)) L) (b2 : vp_in (i + (2 : Int32)) L) (b3 : vp_in (i + (3 : Int32)) L) (b4 : vp_in (i + (4 : Int32)) L) : wcase_30 L xs i M o d zEo := by
  unfold wcase_30
  refine ⟨b1, ?_⟩
  refine L_panelCount hC hG _ ?_
  intro M5 o5 f5 hC5 ho
  refine ⟨b1, ?_⟩
  refine m_panelCount (MI_C hM f5) hG _ ?_
  intro M12 r f12 hM12 ht hr
  exact p_tail (v_panelCount hG _) hC5 ho f12 hM12 ht hr
theorem pcase_31 (hC : CI M z) (hM : MI M z) (hG : GI z) (b1 : vp_in (i + (1 : Int32)) L) (b2 : vp_in (i + (2 : Int32)) L) (b3 : vp_in (i + (3 : Int32)) L) (b4 : vp_in (i + (4 : Int32)) L) : wcase_31 L xs i M o d zEo := by
  unfold wcase_31
  refine ⟨b1, ?_⟩
  refine L_panelCountByFrames hC hG _ ?_
  intro M5 o5 f5 hC5 ho
  refine ⟨b1, ?_⟩
  refine m_panelCountByFrames (MI_C hM f5) hG _ ?_
  intro M12 r f12 hM12 ht hr
  exact p_tail (v_panelCount hG _) hC5 ho f12 hM12 ht hr
theorem pcase_32 (hC : CI M z) (hM : MI M z) (hG : GI z) (b1 : vp_in (i + (1 : Int32)) L) (b2 : vp_in (i + (2 : Int32)) L) (b3 : vp_in (i + (3 : Int32)) L) (b4 : vp_in (i + (4 : Int32)) L) : wcase_32 L xs i M o d zEo := by
  unfold wcase_32
  refine ⟨b1, ?_⟩
  refine ⟨b2, ?_⟩
  refine L_panelMember hC hG _ _ ?_
  intro M5 o5 f5 hC5 ho
  refine ⟨b1, ?_⟩
  refine ⟨b2, ?_⟩
  refine m_panelMember (MI_C hM f5) hG _ _ ?_
  intro M12 r f12 hM12 ht hr
  exact p_tail (v_panelMember hG _ _) hC5 ho f12 hM12 ht hr
theorem pcase_33 (hC : CI M z) (hM : MI M z) (hG : GI z) (b1 : vp_in (i + (1 : Int32)) L) (b2 : vp_in (i + (2 : Int32)) L) (b3 : vp_in (i + (3 : Int32)) L) (b4 : vp_in (i + (4 : Int32)) L) : wcase_33 L xs i M o d zEo := by
  unfold wcase_33
  refine L_threshold hC ?_
  refine m_threshold hM ?_
  intro M3 r f3 h3 ht hr
  exact ⟨fun _ => ⟨_, CI_M hC f3, h3, hG⟩, fun hn => hn (hr rfl).symm⟩
theorem pcase_34 (hC : CI M z) (hM : MI M z) (hG : GI z) (b1 : vp_in (i + (1 : Int32)) L) (b2 : vp_in (i + (2 : Int32)) L) (b3 : vp_in (i + (3 : Int32)) L) (b4 : vp_in (i + (4 : Int32)) L) : wcase_34 L xs i M o d zEo := by
  unfold wcase_34
  refine L_entryCount hC ?_
  refine m_entryCount hM ?_
  intro M3 r f3 h3 ht hr
  exact ⟨fun _ => ⟨_, CI_M hC f3, h3, hG⟩, fun hn => hn (hr rfl).symm⟩
theorem pcase_35 (hC : CI M z) (hM : MI M z) (hG : GI z) (b1 : vp_in (i + (1 : Int32)) L) (b2 : vp_in (i + (2 : Int32)) L) (b3 : vp_in (i + (3 : Int32)) L) (b4 : vp_in (i + (4 : Int32)) L) : wcase_35 L xs i M o d zEo := by
  unfold wcase_35
  refine ⟨b1, ?_⟩
  refine L_doorOf hC hG _ ?_
  intro M5 o5 f5 hC5 ho
  refine ⟨b1, ?_⟩
  refine m_doorOf (MI_C hM f5) hG _ ?_
  intro M12 r f12 hM12 ht hr
  exact p_tail (v_doorOf hG _) hC5 ho f12 hM12 ht hr
theorem pcase_36 (hC : CI M z) (hM : MI M z) (hG : GI z) (b1 : vp_in (i + (1 : Int32)) L) (b2 : vp_in (i + (2 : Int32)) L) (b3 : vp_in (i + (3 : Int32)) L) (b4 : vp_in (i + (4 : Int32)) L) : wcase_36 L xs i M o d zEo := by
  unfold wcase_36
  refine ⟨b1, ?_⟩
  refine L_isRevoked hC hG _ ?_
  intro M5 o5 f5 hC5 ho
  refine ⟨b1, ?_⟩
  refine m_isRevoked (MI_C hM f5) hG _ ?_
  intro M12 r f12 hM12 ht hr
  exact p_tailb (v_isRevoked hG _) v_01 hC5 ho f12 hM12 ht hr
theorem pcase_37 (hC : CI M z) (hM : MI M z) (hG : GI z) (b1 : vp_in (i + (1 : Int32)) L) (b2 : vp_in (i + (2 : Int32)) L) (b3 : vp_in (i + (3 : Int32)) L) (b4 : vp_in (i + (4 : Int32)) L) : wcase_37 L xs i M o d zEo := by
  unfold wcase_37
  refine L_assignments hC hG ?_
  refine m_assignments hM hG ?_
  intro M3 r f3 h3 ht hr
  exact ⟨fun _ => ⟨_, CI_M hC f3, h3, hG⟩, fun hn => hn (hr rfl).symm⟩
theorem pcase_38 (hC : CI M z) (hM : MI M z) (hG : GI z) (b1 : vp_in (i + (1 : Int32)) L) (b2 : vp_in (i + (2 : Int32)) L) (b3 : vp_in (i + (3 : Int32)) L) (b4 : vp_in (i + (4 : Int32)) L) : wcase_38 L xs i M o d zEo := by
  unfold wcase_38
  refine L_assignmentsByDoors hC hG ?_
  refine m_assignmentsByDoors hM hG ?_
  intro M3 r f3 h3 ht hr
  exact ⟨fun _ => ⟨_, CI_M hC f3, h3, hG⟩, fun hn => hn (hr rfl).symm⟩
theorem pcase_39 (hC : CI M z) (hM : MI M z) (hG : GI z) (b1 : vp_in (i + (1 : Int32)) L) (b2 : vp_in (i + (2 : Int32)) L) (b3 : vp_in (i + (3 : Int32)) L) (b4 : vp_in (i + (4 : Int32)) L) : wcase_39 L xs i M o d zEo := by
  unfold wcase_39
  refine L_gradeTotal hC hG ?_
  refine m_gradeTotal hM hG (fun M3 f3 h3 ht => ?_)
  exact ⟨fun _ => ⟨_, CI_M hC f3, h3, hG⟩, fun hn => hn ((lg_cmp_eq _ _).mpr rfl)⟩
theorem pcase_40 (hC : CI M z) (hM : MI M z) (hG : GI z) (b1 : vp_in (i + (1 : Int32)) L) (b2 : vp_in (i + (2 : Int32)) L) (b3 : vp_in (i + (3 : Int32)) L) (b4 : vp_in (i + (4 : Int32)) L) : wcase_40 L xs i M o d zEo := by
  unfold wcase_40
  refine L_meanGrade hC hG (fun M5 d5 f5 hC5 ho => ?_)
  refine m_meanGrade (MI_C hM f5) hG (fun M12 r f12 hM12 ht hr => ?_)
  have hN : ∀ o d, zEo M12 o d := fun o d => ⟨z, CI_M hC5 f12, hM12, hG⟩
  refine ⟨fun _ => ⟨fun w => ?_, fun _ => hN _ _⟩, fun hn => hn ht⟩
  have w0 : zgn z.1 ≠ 0 := fun e => by rw [if_pos e] at w; exact absurd w (by decide)
  have e1 : d5 ((0 : Int32)).toNatClampNeg = zmean z.1 := ho (if_neg w0)
  rw [e1, hr w0]
  exact ⟨fun _ => hN _ _, fun n => ⟨fun q => n q, fun _ => ⟨fun q => n q, fun _ => hN _ _⟩⟩⟩
theorem pcase_41 (hC : CI M z) (hM : MI M z) (hG : GI z) (b1 : vp_in (i + (1 : Int32)) L) (b2 : vp_in (i + (2 : Int32)) L) (b3 : vp_in (i + (3 : Int32)) L) (b4 : vp_in (i + (4 : Int32)) L) : wcase_41 L xs i M o d zEo := by
  unfold wcase_41
  have b1 := zpn_le hG.1
  have b2 := zwr_le hG.1
  refine L_passShare hC hG (fun M5 d5 f5 hC5 ho => ?_)
  refine m_passShare (MI_C hM f5) hG (fun M12 r f12 hM12 ht hr => ?_)
  have hN : ∀ o d, zEo M12 o d := fun o d => ⟨z, CI_M hC5 f12, hM12, hG⟩
  refine ⟨fun _ => ⟨fun w => ?_, fun _ => hN _ _⟩, fun hn => hn ht⟩
  have w0 : zwr z.1 ≠ 0 := fun e => by rw [if_pos e] at w; exact absurd w (by decide)
  have e1 : d5 ((0 : Int32)).toNatClampNeg = FP.f2d (zshare z.1) := ho (if_neg w0)
  rw [e1, hr w0]
  have n := zf_nan (zwr z.1) (by omega) (by omega) (zpn z.1) (by omega)
  have q := zf_cmp (zwr z.1) (by omega) (by omega) (zpn z.1) (by omega)
  exact ⟨n.2, fun _ => hN _ _, fun n => absurd q n⟩
theorem pcase_42 (hC : CI M z) (hM : MI M z) (hG : GI z) (b1 : vp_in (i + (1 : Int32)) L) (b2 : vp_in (i + (2 : Int32)) L) (b3 : vp_in (i + (3 : Int32)) L) (b4 : vp_in (i + (4 : Int32)) L) : wcase_42 L xs i M o d zEo := by
  unfold wcase_42
  refine L_isConsistent hC hG (fun M1 f1 h1 => ?_)
  refine m_isConsistent (MI_C hM f1) (fun M3 f3 h3 => ?_)
  exact ⟨fun _ => ⟨_, CI_M h1 f3, h3, hG⟩, fun hn => hn rfl⟩
theorem pcase_43 (hC : CI M z) (hM : MI M z) (hG : GI z) (b1 : vp_in (i + (1 : Int32)) L) (b2 : vp_in (i + (2 : Int32)) L) (b3 : vp_in (i + (3 : Int32)) L) (b4 : vp_in (i + (4 : Int32)) L) : wcase_43 L xs i M o d zEo := by
  unfold wcase_43
  refine ⟨b1, ?_⟩
  intro v2 ev2
  obtain ⟨c, hc, ec⟩ := p_i2c (xs ((i + (1 : Int32))).toNatClampNeg)
  rw [ev2, ec]
  refine L_append hC hG hc ?_
  intro M5 o5 f5 hC5 ho
  refine ⟨b1, ?_⟩
  intro v8 ev8
  rw [ev8]
  refine m_append (MI_C hM f5) hG hc ?_
  intro M12 r f12 hM12 ht hr
  exact p_tail (v_append hG hc) hC5 ho f12 hM12 ht hr
theorem pcase_44 (hC : CI M z) (hM : MI M z) (hG : GI z) (b1 : vp_in (i + (1 : Int32)) L) (b2 : vp_in (i + (2 : Int32)) L) (b3 : vp_in (i + (3 : Int32)) L) (b4 : vp_in (i + (4 : Int32)) L) : wcase_44 L xs i M o d zEo := by
  unfold wcase_44
  refine L_run hC hG ?_
  intro M5 o5 f5 hC5 ho
  refine m_run (MI_C hM f5) hG ?_
  intro M12 r f12 hM12 ht hr
  exact p_tail (v_run hG) hC5 ho f12 hM12 ht hr
theorem pcase_45 (hC : CI M z) (hM : MI M z) (hG : GI z) (b1 : vp_in (i + (1 : Int32)) L) (b2 : vp_in (i + (2 : Int32)) L) (b3 : vp_in (i + (3 : Int32)) L) (b4 : vp_in (i + (4 : Int32)) L) : wcase_45 L xs i M o d zEo := by
  unfold wcase_45
  refine L_errorPosition hC hG ?_
  intro M5 o5 f5 hC5 ho
  refine m_errorPosition (MI_C hM f5) hG ?_
  intro M12 r f12 hM12 ht hr
  exact p_tail (v_told hG hG.2.2.2.2.1.1) hC5 ho f12 hM12 ht hr
theorem pcase_46 (hC : CI M z) (hM : MI M z) (hG : GI z) (b1 : vp_in (i + (1 : Int32)) L) (b2 : vp_in (i + (2 : Int32)) L) (b3 : vp_in (i + (3 : Int32)) L) (b4 : vp_in (i + (4 : Int32)) L) : wcase_46 L xs i M o d zEo := by
  unfold wcase_46
  refine L_failedCommand hC hG ?_
  intro M5 o5 f5 hC5 ho
  refine m_failedCommand (MI_C hM f5) hG ?_
  intro M12 r f12 hM12 ht hr
  exact p_tail (v_told hG hG.2.2.2.2.1.2) hC5 ho f12 hM12 ht hr
theorem pcase_47 (hC : CI M z) (hM : MI M z) (hG : GI z) (b1 : vp_in (i + (1 : Int32)) L) (b2 : vp_in (i + (2 : Int32)) L) (b3 : vp_in (i + (3 : Int32)) L) (b4 : vp_in (i + (4 : Int32)) L) : wcase_47 L xs i M o d zEo := by
  unfold wcase_47
  refine ⟨b1, ?_⟩
  refine L_writeDoor hC hG _ ?_
  intro M5 o5 f5 hC5 ho
  refine ⟨b1, ?_⟩
  refine m_writeDoor (MI_C hM f5) hG _ ?_
  intro M12 r f12 hM12 ht hr
  exact p_tail (v_writeDoor hG _) hC5 ho f12 hM12 ht hr
theorem pcase_48 (hC : CI M z) (hM : MI M z) (hG : GI z) (b1 : vp_in (i + (1 : Int32)) L) (b2 : vp_in (i + (2 : Int32)) L) (b3 : vp_in (i + (3 : Int32)) L) (b4 : vp_in (i + (4 : Int32)) L) : wcase_48 L xs i M o d zEo := by
  unfold wcase_48
  refine ⟨b1, ?_⟩
  refine L_writeExaminer hC hG _ ?_
  intro M5 o5 f5 hC5 ho
  refine ⟨b1, ?_⟩
  refine m_writeExaminer (MI_C hM f5) hG _ ?_
  intro M12 r f12 hM12 ht hr
  exact p_tail (v_writeExaminer hG _) hC5 ho f12 hM12 ht hr
theorem pcase_49 (hC : CI M z) (hM : MI M z) (hG : GI z) (b1 : vp_in (i + (1 : Int32)) L) (b2 : vp_in (i + (2 : Int32)) L) (b3 : vp_in (i + (3 : Int32)) L) (b4 : vp_in (i + (4 : Int32)) L) : wcase_49 L xs i M o d zEo := by
  unfold wcase_49
  refine ⟨b1, ?_⟩
  refine L_outputAt hC hG _ ?_
  intro M5 o5 f5 hC5 ho
  refine ⟨b1, ?_⟩
  refine m_outputAt (MI_C hM f5) hG _ ?_
  intro M12 r f12 hM12 ht hr
  exact p_tail (v_outputAt hG _) hC5 ho f12 hM12 ht hr
theorem pcase_50 (hC : CI M z) (hM : MI M z) (hG : GI z) (b1 : vp_in (i + (1 : Int32)) L) (b2 : vp_in (i + (2 : Int32)) L) (b3 : vp_in (i + (3 : Int32)) L) (b4 : vp_in (i + (4 : Int32)) L) : wcase_50 L xs i M o d zEo := by
  unfold wcase_50
  refine L_undo hC hG ?_
  intro M5 o5 f5 hC5 ho
  refine m_undo (MI_C hM f5) hG ?_
  intro M12 r f12 hM12 ht hr
  exact p_tail (v_undo hG) hC5 ho f12 hM12 ht hr
theorem pcase_51 (hC : CI M z) (hM : MI M z) (hG : GI z) (b1 : vp_in (i + (1 : Int32)) L) (b2 : vp_in (i + (2 : Int32)) L) (b3 : vp_in (i + (3 : Int32)) L) (b4 : vp_in (i + (4 : Int32)) L) : wcase_51 L xs i M o d zEo := by
  unfold wcase_51
  refine L_save hC hG (fun M1 f1 h1 => ?_)
  exact m_save (MI_C hM f1) (fun M2 f2 h2 => ⟨_, CI_M h1 f2, h2, zsave_G hG⟩)
theorem pcase_52 (hC : CI M z) (hM : MI M z) (hG : GI z) (b1 : vp_in (i + (1 : Int32)) L) (b2 : vp_in (i + (2 : Int32)) L) (b3 : vp_in (i + (3 : Int32)) L) (b4 : vp_in (i + (4 : Int32)) L) : wcase_52 L xs i M o d zEo := by
  unfold wcase_52
  refine L_restore hC hG (fun M1 f1 h1 => ?_)
  refine m_restore (MI_C hM f1) hG (fun M2 f2 h2 ht => ?_)
  exact ⟨fun _ => ⟨_, CI_M h1 f2, h2, s_restore_G hG⟩, fun hn => hn ht⟩
end PC
