/-! The face: each call that may be refused, its answer and its refusals. -/
def wL_addDoor (a1 : Int32) (a2 : Int32) (M : sM) (Q : Int32 → sM → Prop) (X : Nat → sM → Prop) : Prop :=
  wX6_addDoor a1 a2 M (fun r1 M2 => Q r1 M2) (fun E9 M9 => (E9 = "java/lang/IllegalArgumentException" → (X 1 M9)) ∧ (¬ E9 = "java/lang/IllegalArgumentException" → ((E9 = "java/lang/IllegalStateException" → (X 2 M9)) ∧ (¬ E9 = "java/lang/IllegalStateException" → (False)))))
def wL_addExaminer (a1 : Int32) (a2 : Int32) (a3 : Int32) (a4 : Int32) (M : sM) (Q : Int32 → sM → Prop) (X : Nat → sM → Prop) : Prop :=
  wX6_addExaminer a1 a2 a3 a4 M (fun r1 M2 => Q r1 M2) (fun E9 M9 => (E9 = "java/lang/IllegalArgumentException" → (X 1 M9)) ∧ (¬ E9 = "java/lang/IllegalArgumentException" → ((E9 = "java/lang/IllegalStateException" → (X 2 M9)) ∧ (¬ E9 = "java/lang/IllegalStateException" → (False)))))
def wL_declareConflict (a1 : Int32) (a2 : Int32) (M : sM) (Q : Int32 → sM → Prop) (X : Nat → sM → Prop) : Prop :=
  wX6_declareConflict a1 a2 M (fun r1 M2 => Q r1 M2) (fun E9 M9 => (E9 = "java/lang/IndexOutOfBoundsException" → (X 1 M9)) ∧ (¬ E9 = "java/lang/IndexOutOfBoundsException" → ((E9 = "java/lang/IllegalStateException" → (X 2 M9)) ∧ (¬ E9 = "java/lang/IllegalStateException" → (False)))))
def wL_assign (a1 : Int32) (a2 : Int32) (M : sM) (Q : Int32 → sM → Prop) (X : Nat → sM → Prop) : Prop :=
  wX6_assign a1 a2 M (fun r1 M2 => Q r1 M2) (fun E9 M9 => (E9 = "java/lang/IndexOutOfBoundsException" → (X 1 M9)) ∧ (¬ E9 = "java/lang/IndexOutOfBoundsException" → ((E9 = "java/lang/IllegalStateException" → (X 2 M9)) ∧ (¬ E9 = "java/lang/IllegalStateException" → ((E9 = "java/lang/UnsupportedOperationException" → (X 3 M9)) ∧ (¬ E9 = "java/lang/UnsupportedOperationException" → (False)))))))
def wL_grade (a1 : Int32) (a2 : Int32) (a3 : Int32) (M : sM) (Q : Int32 → sM → Prop) (X : Nat → sM → Prop) : Prop :=
  wX6_grade a1 a2 a3 M (fun r1 M2 => Q r1 M2) (fun E9 M9 => (E9 = "java/lang/IndexOutOfBoundsException" → (X 1 M9)) ∧ (¬ E9 = "java/lang/IndexOutOfBoundsException" → ((E9 = "java/lang/IllegalArgumentException" → (X 2 M9)) ∧ (¬ E9 = "java/lang/IllegalArgumentException" → ((E9 = "java/lang/IllegalStateException" → (X 3 M9)) ∧ (¬ E9 = "java/lang/IllegalStateException" → (False)))))))
def wL_setThreshold (a1 : Int32) (M : sM) (Q : Int32 → sM → Prop) (X : Nat → sM → Prop) : Prop :=
  wX6_setThreshold a1 M (fun r1 M2 => Q r1 M2) (fun E9 M9 => (E9 = "java/lang/IllegalArgumentException" → (X 1 M9)) ∧ (¬ E9 = "java/lang/IllegalArgumentException" → (False)))
def wL_appeal (a1 : Int32) (M : sM) (Q : Int32 → sM → Prop) (X : Nat → sM → Prop) : Prop :=
  wX6_appeal a1 M (fun r1 M2 => Q r1 M2) (fun E9 M9 => (E9 = "java/lang/IndexOutOfBoundsException" → (X 1 M9)) ∧ (¬ E9 = "java/lang/IndexOutOfBoundsException" → ((E9 = "java/lang/IllegalStateException" → (X 2 M9)) ∧ (¬ E9 = "java/lang/IllegalStateException" → ((E9 = "java/lang/UnsupportedOperationException" → (X 3 M9)) ∧ (¬ E9 = "java/lang/UnsupportedOperationException" → (False)))))))
def wL_award (a1 : Int32) (M : sM) (Q : Int32 → sM → Prop) (X : Nat → sM → Prop) : Prop :=
  wX6_award a1 M (fun r1 M2 => Q r1 M2) (fun E9 M9 => (E9 = "java/lang/IndexOutOfBoundsException" → (X 1 M9)) ∧ (¬ E9 = "java/lang/IndexOutOfBoundsException" → ((E9 = "java/lang/IllegalStateException" → (X 2 M9)) ∧ (¬ E9 = "java/lang/IllegalStateException" → ((E9 = "java/lang/UnsupportedOperationException" → (X 3 M9)) ∧ (¬ E9 = "java/lang/UnsupportedOperationException" → (False)))))))
def wL_revoke (a1 : Int32) (M : sM) (Q : Int32 → sM → Prop) (X : Nat → sM → Prop) : Prop :=
  wX6_revoke a1 M (fun r1 M2 => Q r1 M2) (fun E9 M9 => (E9 = "java/util/NoSuchElementException" → (X 1 M9)) ∧ (¬ E9 = "java/util/NoSuchElementException" → ((E9 = "java/lang/IllegalStateException" → (X 2 M9)) ∧ (¬ E9 = "java/lang/IllegalStateException" → (False)))))
def wL_frameOfDoor (a1 : Int32) (M : sM) (Q : Int32 → sM → Prop) (X : Nat → sM → Prop) : Prop :=
  wX6_frameOfDoor a1 M (fun r1 => Q r1 M) (fun E9 => (E9 = "java/lang/IndexOutOfBoundsException" → (X 1 M)) ∧ (¬ E9 = "java/lang/IndexOutOfBoundsException" → (False)))
def wL_topic (a1 : Int32) (M : sM) (Q : Int32 → sM → Prop) (X : Nat → sM → Prop) : Prop :=
  wX6_topic a1 M (fun r1 => Q r1 M) (fun E9 => (E9 = "java/lang/IndexOutOfBoundsException" → (X 1 M)) ∧ (¬ E9 = "java/lang/IndexOutOfBoundsException" → (False)))
def wL_examinersOf (a1 : Int32) (M : sM) (Q : Int32 → sM → Prop) (X : Nat → sM → Prop) : Prop :=
  wX6_examinersOf a1 M (fun r1 => Q r1 M) (fun E9 => (E9 = "java/lang/IndexOutOfBoundsException" → (X 1 M)) ∧ (¬ E9 = "java/lang/IndexOutOfBoundsException" → (False)))
def wL_gradesOf (a1 : Int32) (M : sM) (Q : Int32 → sM → Prop) (X : Nat → sM → Prop) : Prop :=
  wX6_gradesOf a1 M (fun r1 => Q r1 M) (fun E9 => (E9 = "java/lang/IndexOutOfBoundsException" → (X 1 M)) ∧ (¬ E9 = "java/lang/IndexOutOfBoundsException" → (False)))
def wL_result (a1 : Int32) (M : sM) (Q : Int32 → sM → Prop) (X : Nat → sM → Prop) : Prop :=
  wX6_result a1 M (fun r1 => Q r1 M) (fun E9 => (E9 = "java/lang/IndexOutOfBoundsException" → (X 1 M)) ∧ (¬ E9 = "java/lang/IndexOutOfBoundsException" → ((E9 = "java/util/NoSuchElementException" → (X 2 M)) ∧ (¬ E9 = "java/util/NoSuchElementException" → (False)))))
def wL_passes (a1 : Int32) (M : sM) (Q : Int32 → sM → Prop) (X : Nat → sM → Prop) : Prop :=
  wX6_passes a1 M (fun r1 => Q r1 M) (fun E9 => (E9 = "java/lang/IndexOutOfBoundsException" → (X 1 M)) ∧ (¬ E9 = "java/lang/IndexOutOfBoundsException" → (False)))
def wL_wasGranted (a1 : Int32) (M : sM) (Q : Int32 → sM → Prop) (X : Nat → sM → Prop) : Prop :=
  wX6_wasGranted a1 M (fun r1 => Q r1 M) (fun E9 => (E9 = "java/lang/IndexOutOfBoundsException" → (X 1 M)) ∧ (¬ E9 = "java/lang/IndexOutOfBoundsException" → (False)))
def wL_isEntitled (a1 : Int32) (M : sM) (Q : Int32 → sM → Prop) (X : Nat → sM → Prop) : Prop :=
  wX6_isEntitled a1 M (fun r1 => Q r1 M) (fun E9 => (E9 = "java/lang/IndexOutOfBoundsException" → (X 1 M)) ∧ (¬ E9 = "java/lang/IndexOutOfBoundsException" → (False)))
def wL_doorAtRank (a1 : Int32) (M : sM) (Q : Int32 → sM → Prop) (X : Nat → sM → Prop) : Prop :=
  wX6_doorAtRank a1 M (fun r1 => Q r1 M) (fun E9 => (E9 = "java/util/NoSuchElementException" → (X 1 M)) ∧ (¬ E9 = "java/util/NoSuchElementException" → (False)))
def wL_frameOfExaminer (a1 : Int32) (M : sM) (Q : Int32 → sM → Prop) (X : Nat → sM → Prop) : Prop :=
  wX6_frameOfExaminer a1 M (fun r1 => Q r1 M) (fun E9 => (E9 = "java/lang/IndexOutOfBoundsException" → (X 1 M)) ∧ (¬ E9 = "java/lang/IndexOutOfBoundsException" → (False)))
def wL_load (a1 : Int32) (M : sM) (Q : Int32 → sM → Prop) (X : Nat → sM → Prop) : Prop :=
  wX6_load a1 M (fun r1 => Q r1 M) (fun E9 => (E9 = "java/lang/IndexOutOfBoundsException" → (X 1 M)) ∧ (¬ E9 = "java/lang/IndexOutOfBoundsException" → (False)))
def wL_isNeutral (a1 : Int32) (a2 : Int32) (M : sM) (Q : Int32 → sM → Prop) (X : Nat → sM → Prop) : Prop :=
  wX6_isNeutral a1 a2 M (fun r1 => Q r1 M) (fun E9 => (E9 = "java/lang/IndexOutOfBoundsException" → (X 1 M)) ∧ (¬ E9 = "java/lang/IndexOutOfBoundsException" → (False)))
def wL_mayJudge (a1 : Int32) (a2 : Int32) (M : sM) (Q : Int32 → sM → Prop) (X : Nat → sM → Prop) : Prop :=
  wX6_mayJudge a1 a2 M (fun r1 => Q r1 M) (fun E9 => (E9 = "java/lang/IndexOutOfBoundsException" → (X 1 M)) ∧ (¬ E9 = "java/lang/IndexOutOfBoundsException" → (False)))
def wL_isAssigned (a1 : Int32) (a2 : Int32) (M : sM) (Q : Int32 → sM → Prop) (X : Nat → sM → Prop) : Prop :=
  wX6_isAssigned a1 a2 M (fun r1 => Q r1 M) (fun E9 => (E9 = "java/lang/IndexOutOfBoundsException" → (X 1 M)) ∧ (¬ E9 = "java/lang/IndexOutOfBoundsException" → (False)))
def wL_gradeBy (a1 : Int32) (a2 : Int32) (M : sM) (Q : Int32 → sM → Prop) (X : Nat → sM → Prop) : Prop :=
  wX6_gradeBy a1 a2 M (fun r1 => Q r1 M) (fun E9 => (E9 = "java/lang/IndexOutOfBoundsException" → (X 1 M)) ∧ (¬ E9 = "java/lang/IndexOutOfBoundsException" → ((E9 = "java/util/NoSuchElementException" → (X 2 M)) ∧ (¬ E9 = "java/util/NoSuchElementException" → (False)))))
def wL_plannedExaminer (a1 : Int32) (M : sM) (Q : Int32 → sM → Prop) (X : Nat → sM → Prop) : Prop :=
  wX6_plannedExaminer a1 M (fun r1 M2 => Q r1 M2) (fun E9 M9 => (E9 = "java/lang/IndexOutOfBoundsException" → (X 1 M9)) ∧ (¬ E9 = "java/lang/IndexOutOfBoundsException" → ((E9 = "java/util/NoSuchElementException" → (X 2 M9)) ∧ (¬ E9 = "java/util/NoSuchElementException" → (False)))))
def wL_panelCount (a1 : Int32) (M : sM) (Q : Int32 → sM → Prop) (X : Nat → sM → Prop) : Prop :=
  wX6_panelCount a1 M (fun r1 => Q r1 M) (fun E9 => (E9 = "java/lang/IndexOutOfBoundsException" → (X 1 M)) ∧ (¬ E9 = "java/lang/IndexOutOfBoundsException" → (False)))
def wL_panelCountByFrames (a1 : Int32) (M : sM) (Q : Int32 → sM → Prop) (X : Nat → sM → Prop) : Prop :=
  wX6_panelCountByFrames a1 M (fun r1 M2 => Q r1 M2) (fun E9 M9 => (E9 = "java/lang/IndexOutOfBoundsException" → (X 1 M9)) ∧ (¬ E9 = "java/lang/IndexOutOfBoundsException" → (False)))
def wL_panelMember (a1 : Int32) (a2 : Int32) (M : sM) (Q : Int32 → sM → Prop) (X : Nat → sM → Prop) : Prop :=
  wX6_panelMember a1 a2 M (fun r1 => Q r1 M) (fun E9 => (E9 = "java/lang/IndexOutOfBoundsException" → (X 1 M)) ∧ (¬ E9 = "java/lang/IndexOutOfBoundsException" → ((E9 = "java/lang/IllegalArgumentException" → (X 2 M)) ∧ (¬ E9 = "java/lang/IllegalArgumentException" → ((E9 = "java/util/NoSuchElementException" → (X 3 M)) ∧ (¬ E9 = "java/util/NoSuchElementException" → (False)))))))
def wL_doorOf (a1 : Int32) (M : sM) (Q : Int32 → sM → Prop) (X : Nat → sM → Prop) : Prop :=
  wX6_doorOf a1 M (fun r1 => Q r1 M) (fun E9 => (E9 = "java/util/NoSuchElementException" → (X 1 M)) ∧ (¬ E9 = "java/util/NoSuchElementException" → (False)))
def wL_isRevoked (a1 : Int32) (M : sM) (Q : Int32 → sM → Prop) (X : Nat → sM → Prop) : Prop :=
  wX6_isRevoked a1 M (fun r1 => Q r1 M) (fun E9 => (E9 = "java/util/NoSuchElementException" → (X 1 M)) ∧ (¬ E9 = "java/util/NoSuchElementException" → (False)))
def wL_meanGrade  (M : sM) (Q : UInt64 → sM → Prop) (X : Nat → sM → Prop) : Prop :=
  wX6_meanGrade M (fun r1 => Q r1 M) (fun E9 => (E9 = "java/lang/ArithmeticException" → (X 1 M)) ∧ (¬ E9 = "java/lang/ArithmeticException" → (False)))
def wL_passShare  (M : sM) (Q : UInt32 → sM → Prop) (X : Nat → sM → Prop) : Prop :=
  wX6_passShare M (fun r1 => Q r1 M) (fun E9 => (E9 = "java/lang/ArithmeticException" → (X 1 M)) ∧ (¬ E9 = "java/lang/ArithmeticException" → (False)))
def wL_append (a1 : Int32) (M : sM) (Q : Int32 → sM → Prop) (X : Nat → sM → Prop) : Prop :=
  wX6_append a1 M (fun r1 M2 => Q r1 M2) (fun E9 M9 => (E9 = "java/lang/IllegalStateException" → (X 1 M9)) ∧ (¬ E9 = "java/lang/IllegalStateException" → (False)))
def wL_run  (M : sM) (Q : Int32 → sM → Prop) (X : Nat → sM → Prop) : Prop :=
  wX6_run M (fun r1 M2 => Q r1 M2) (fun E9 M9 => (E9 = "java/lang/IllegalArgumentException" → (X 1 M9)) ∧ (¬ E9 = "java/lang/IllegalArgumentException" → ((E9 = "java/lang/UnsupportedOperationException" → (X 2 M9)) ∧ (¬ E9 = "java/lang/UnsupportedOperationException" → (False)))))
def wL_writeDoor (a1 : Int32) (M : sM) (Q : Int32 → sM → Prop) (X : Nat → sM → Prop) : Prop :=
  wX6_writeDoor a1 M (fun r1 M2 => Q r1 M2) (fun E9 M9 => (E9 = "java/lang/IndexOutOfBoundsException" → (X 1 M9)) ∧ (¬ E9 = "java/lang/IndexOutOfBoundsException" → (False)))
def wL_writeExaminer (a1 : Int32) (M : sM) (Q : Int32 → sM → Prop) (X : Nat → sM → Prop) : Prop :=
  wX6_writeExaminer a1 M (fun r1 M2 => Q r1 M2) (fun E9 M9 => (E9 = "java/lang/IndexOutOfBoundsException" → (X 1 M9)) ∧ (¬ E9 = "java/lang/IndexOutOfBoundsException" → (False)))
def wL_outputAt (a1 : Int32) (M : sM) (Q : Int32 → sM → Prop) (X : Nat → sM → Prop) : Prop :=
  wX6_outputAt a1 M (fun r1 => Q r1 M) (fun E9 => (E9 = "java/lang/IndexOutOfBoundsException" → (X 1 M)) ∧ (¬ E9 = "java/lang/IndexOutOfBoundsException" → (False)))
def wL_undo  (M : sM) (Q : Int32 → sM → Prop) (X : Nat → sM → Prop) : Prop :=
  wX6_undo M (fun r1 M2 => Q r1 M2) (fun E9 M9 => (E9 = "java/lang/IllegalStateException" → (X 1 M9)) ∧ (¬ E9 = "java/lang/IllegalStateException" → (False)))
def kC (M : sM) (s : Nat × Nat × zG) (Q : Int32 → sM → Prop) (X : Nat → sM → Prop) : Prop := ∀ M', fC M M' → CI M' s.2.2 → (s.1 = 0 → Q (nI s.2.1) M') ∧ (s.1 ≠ 0 → X s.1 M')
section KC
variable {M : sM} {g : zG} {Q : Int32 → sM → Prop} {X : Nat → sM → Prop}
theorem kC_ok {v : Nat} (h : kC M (0, v, g) Q X) (hC : CI M g) (_ : v < 2 ^ 31) : Q (nI v) M := (h M (fC_r M) hC).1 rfl
theorem kC_no {c : Nat} (h : kC M (c, 0, g) Q X) (hc : c ≠ 0) (hC : CI M g) : X c M := (h M (fC_r M) hC).2 hc
theorem kC_t {p : Prop} [Decidable p] (h : kC M (0, (if p then 1 else 0), g) Q X) (hp : p) (hC : CI M g) : Q 1 M := by
  have q := (h M (fC_r M) hC).1 rfl
  rw [show (0, (if p then 1 else 0), g).2.1 = 1 from if_pos hp] at q
  exact q
theorem kC_f {p : Prop} [Decidable p] (h : kC M (0, (if p then 1 else 0), g) Q X) (hp : ¬ p) (hC : CI M g) : Q 0 M := by
  have q := (h M (fC_r M) hC).1 rfl
  rw [show (0, (if p then 1 else 0), g).2.1 = 0 from if_neg hp] at q
  exact q
end KC
section KM
variable {M : sM} {g : zG}
theorem chr_w {n : Nat} (h : n < 65536) : ((nI n).toUInt32 % 65536).toInt32 = nI n := by
  rw [pk_char, pk_tn (by omega), Nat.mod_eq_of_lt h]
end KM
def s_topic (g : zG) (x : Int32) : Nat × Nat × zG := if zok x (g.1 0) then (0, zd g.1 x.toNatClampNeg 1, g) else (1, 0, g)
theorem s_topic_G {g : zG} (h : GI g) (x : Int32) : GI (s_topic g x).2.2 := by unfold s_topic; split <;> exact h
theorem L_topic {M : sM} {g : zG} (hC : CI M g) (hG : GI g) (x : Int32) {Q : Int32 → sM → Prop} {X : Nat → sM → Prop} (h : kC M (s_topic g x) Q X) : wL_topic x M Q X := by
  have hD := rB_D hG.1
  have hE := rB_E hG.1
  unfold wL_topic wX6_topic wX6_requireDoor
  by_cases hv : zok x (g.1 0)
  · obtain ⟨k, hk, rfl⟩ := zok_t hv (by omega)
    have hk8 : k < 8 := by omega
    rw [show s_topic g (nI k) = (0, zd g.1 k 1, g) by unfold s_topic; rw [if_pos hv, cl (by omega)]] at h
    refine u5_hasDoor_t hC.1 hG.1 hk (br1 ?_)
    have b := hG.1.2.1 k hk8
    refine ⟨vin hk8 (by decide), ?_⟩
    rw [cl (by omega), rS_dt hC.1 hk8]
    exact kC_ok h hC (by omega)
  · rw [show s_topic g x = (1, 0, g) from if_neg hv] at h
    exact u5_hasDoor_f hC.1 hG.1 (zok_f hv (by omega)) (br0 (brt rfl (kC_no h (by decide) hC)))
def s_frameOfDoor (g : zG) (x : Int32) : Nat × Nat × zG := if zok x (g.1 0) then (0, zd g.1 x.toNatClampNeg 0, g) else (1, 0, g)
theorem s_frameOfDoor_G {g : zG} (h : GI g) (x : Int32) : GI (s_frameOfDoor g x).2.2 := by unfold s_frameOfDoor; split <;> exact h
theorem L_frameOfDoor {M : sM} {g : zG} (hC : CI M g) (hG : GI g) (x : Int32) {Q : Int32 → sM → Prop} {X : Nat → sM → Prop} (h : kC M (s_frameOfDoor g x) Q X) : wL_frameOfDoor x M Q X := by
  have hD := rB_D hG.1
  have hE := rB_E hG.1
  unfold wL_frameOfDoor wX6_frameOfDoor wX6_requireDoor
  by_cases hv : zok x (g.1 0)
  · obtain ⟨k, hk, rfl⟩ := zok_t hv (by omega)
    have hk8 : k < 8 := by omega
    rw [show s_frameOfDoor g (nI k) = (0, zd g.1 k 0, g) by unfold s_frameOfDoor; rw [if_pos hv, cl (by omega)]] at h
    refine u5_hasDoor_t hC.1 hG.1 hk (br1 ?_)
    have b := hG.1.2.1 k hk8
    refine ⟨vin hk8 (by decide), ?_⟩
    rw [cl (by omega), rS_df hC.1 hk8]
    exact ⟨(pk_charN (by omega)).1, kC_ok h hC (by omega)⟩
  · rw [show s_frameOfDoor g x = (1, 0, g) from if_neg hv] at h
    exact u5_hasDoor_f hC.1 hG.1 (zok_f hv (by omega)) (br0 (brt rfl (kC_no h (by decide) hC)))
def s_examinersOf (g : zG) (x : Int32) : Nat × Nat × zG := if zok x (g.1 0) then (0, zcnt g.1 x.toNatClampNeg, g) else (1, 0, g)
theorem s_examinersOf_G {g : zG} (h : GI g) (x : Int32) : GI (s_examinersOf g x).2.2 := by unfold s_examinersOf; split <;> exact h
theorem L_examinersOf {M : sM} {g : zG} (hC : CI M g) (hG : GI g) (x : Int32) {Q : Int32 → sM → Prop} {X : Nat → sM → Prop} (h : kC M (s_examinersOf g x) Q X) : wL_examinersOf x M Q X := by
  have hD := rB_D hG.1
  have hE := rB_E hG.1
  unfold wL_examinersOf wX6_examinersOf wX6_requireDoor
  by_cases hv : zok x (g.1 0)
  · obtain ⟨k, hk, rfl⟩ := zok_t hv (by omega)
    have hk8 : k < 8 := by omega
    rw [show s_examinersOf g (nI k) = (0, zcnt g.1 k, g) by unfold s_examinersOf; rw [if_pos hv, cl (by omega)]] at h
    refine u5_hasDoor_t hC.1 hG.1 hk (br1 ?_)
    have b := zcnt_le hG.1 hk8
    exact u5_assignedCount hC.1 hG.1 hk8 (kC_ok h hC (by omega))
  · rw [show s_examinersOf g x = (1, 0, g) from if_neg hv] at h
    exact u5_hasDoor_f hC.1 hG.1 (zok_f hv (by omega)) (br0 (brt rfl (kC_no h (by decide) hC)))
def s_gradesOf (g : zG) (x : Int32) : Nat × Nat × zG := if zok x (g.1 0) then (0, zgc g.1 x.toNatClampNeg, g) else (1, 0, g)
theorem s_gradesOf_G {g : zG} (h : GI g) (x : Int32) : GI (s_gradesOf g x).2.2 := by unfold s_gradesOf; split <;> exact h
theorem L_gradesOf {M : sM} {g : zG} (hC : CI M g) (hG : GI g) (x : Int32) {Q : Int32 → sM → Prop} {X : Nat → sM → Prop} (h : kC M (s_gradesOf g x) Q X) : wL_gradesOf x M Q X := by
  have hD := rB_D hG.1
  have hE := rB_E hG.1
  unfold wL_gradesOf wX6_gradesOf wX6_requireDoor
  by_cases hv : zok x (g.1 0)
  · obtain ⟨k, hk, rfl⟩ := zok_t hv (by omega)
    have hk8 : k < 8 := by omega
    rw [show s_gradesOf g (nI k) = (0, zgc g.1 k, g) by unfold s_gradesOf; rw [if_pos hv, cl (by omega)]] at h
    refine u5_hasDoor_t hC.1 hG.1 hk (br1 ?_)
    have b := zgc_le hG.1 hk8
    exact u5_gradeCount hC.1 hG.1 hk8 (kC_ok h hC (by omega))
  · rw [show s_gradesOf g x = (1, 0, g) from if_neg hv] at h
    exact u5_hasDoor_f hC.1 hG.1 (zok_f hv (by omega)) (br0 (brt rfl (kC_no h (by decide) hC)))
def s_passes (g : zG) (x : Int32) : Nat × Nat × zG := if zok x (g.1 0) then (0, (if zpas g.1 x.toNatClampNeg then 1 else 0), g) else (1, 0, g)
theorem s_passes_G {g : zG} (h : GI g) (x : Int32) : GI (s_passes g x).2.2 := by unfold s_passes; split <;> exact h
theorem L_passes {M : sM} {g : zG} (hC : CI M g) (hG : GI g) (x : Int32) {Q : Int32 → sM → Prop} {X : Nat → sM → Prop} (h : kC M (s_passes g x) Q X) : wL_passes x M Q X := by
  have hD := rB_D hG.1
  have hE := rB_E hG.1
  unfold wL_passes wX6_passes wX6_requireDoor
  by_cases hv : zok x (g.1 0)
  · obtain ⟨k, hk, rfl⟩ := zok_t hv (by omega)
    have hk8 : k < 8 := by omega
    rw [show s_passes g (nI k) = (0, (if zpas g.1 k then 1 else 0), g) by unfold s_passes; rw [if_pos hv, cl (by omega)]] at h
    refine u5_hasDoor_t hC.1 hG.1 hk (br1 ?_)
    exact u5_hasPassed hC.1 hG.1 hk8 (fun z => ⟨nb1, (kC_t h z hC)⟩) (fun z => ⟨nb0, (kC_f h z hC)⟩)
  · rw [show s_passes g x = (1, 0, g) from if_neg hv] at h
    exact u5_hasDoor_f hC.1 hG.1 (zok_f hv (by omega)) (br0 (brt rfl (kC_no h (by decide) hC)))
def s_isEntitled (g : zG) (x : Int32) : Nat × Nat × zG := if zok x (g.1 0) then (0, (if zent g.1 x.toNatClampNeg then 1 else 0), g) else (1, 0, g)
theorem s_isEntitled_G {g : zG} (h : GI g) (x : Int32) : GI (s_isEntitled g x).2.2 := by unfold s_isEntitled; split <;> exact h
theorem L_isEntitled {M : sM} {g : zG} (hC : CI M g) (hG : GI g) (x : Int32) {Q : Int32 → sM → Prop} {X : Nat → sM → Prop} (h : kC M (s_isEntitled g x) Q X) : wL_isEntitled x M Q X := by
  have hD := rB_D hG.1
  have hE := rB_E hG.1
  unfold wL_isEntitled wX6_isEntitled wX6_requireDoor
  by_cases hv : zok x (g.1 0)
  · obtain ⟨k, hk, rfl⟩ := zok_t hv (by omega)
    have hk8 : k < 8 := by omega
    rw [show s_isEntitled g (nI k) = (0, (if zent g.1 k then 1 else 0), g) by unfold s_isEntitled; rw [if_pos hv, cl (by omega)]] at h
    refine u5_hasDoor_t hC.1 hG.1 hk (br1 ?_)
    exact u5_deservesDegree hC.1 hG.1 hk8 (fun z => ⟨nb1, (kC_t h z hC)⟩) (fun z => ⟨nb0, (kC_f h z hC)⟩)
  · rw [show s_isEntitled g x = (1, 0, g) from if_neg hv] at h
    exact u5_hasDoor_f hC.1 hG.1 (zok_f hv (by omega)) (br0 (brt rfl (kC_no h (by decide) hC)))
def s_wasGranted (g : zG) (x : Int32) : Nat × Nat × zG := if zok x (g.1 0) then (0, (if zd g.1 x.toNatClampNeg 3 = 1 then 1 else 0), g) else (1, 0, g)
theorem s_wasGranted_G {g : zG} (h : GI g) (x : Int32) : GI (s_wasGranted g x).2.2 := by unfold s_wasGranted; split <;> exact h
theorem L_wasGranted {M : sM} {g : zG} (hC : CI M g) (hG : GI g) (x : Int32) {Q : Int32 → sM → Prop} {X : Nat → sM → Prop} (h : kC M (s_wasGranted g x) Q X) : wL_wasGranted x M Q X := by
  have hD := rB_D hG.1
  have hE := rB_E hG.1
  unfold wL_wasGranted wX6_wasGranted wX6_requireDoor
  by_cases hv : zok x (g.1 0)
  · obtain ⟨k, hk, rfl⟩ := zok_t hv (by omega)
    have hk8 : k < 8 := by omega
    rw [show s_wasGranted g (nI k) = (0, (if zd g.1 k 3 = 1 then 1 else 0), g) by unfold s_wasGranted; rw [if_pos hv, cl (by omega)]] at h
    refine u5_hasDoor_t hC.1 hG.1 hk (br1 ?_)
    rw [rS_gr hC.1]
    have hl := zm_lt (zm_d3 hG.1)
    have e := zm_bit (zm_d3 hG.1) hk8
    refine u6_contains (by omega) (by omega) (fun z => ⟨nb1, (kC_t h ?_ hC)⟩) (fun z => ⟨nb0, (kC_f h ?_ hC)⟩)
    · rw [e] at z; exact z
    · rw [e] at z; exact z
  · rw [show s_wasGranted g x = (1, 0, g) from if_neg hv] at h
    exact u5_hasDoor_f hC.1 hG.1 (zok_f hv (by omega)) (br0 (brt rfl (kC_no h (by decide) hC)))
def s_load (g : zG) (x : Int32) : Nat × Nat × zG := if zok x (g.1 1) then (0, zload g.1 x.toNatClampNeg, g) else (1, 0, g)
theorem s_load_G {g : zG} (h : GI g) (x : Int32) : GI (s_load g x).2.2 := by unfold s_load; split <;> exact h
theorem L_load {M : sM} {g : zG} (hC : CI M g) (hG : GI g) (x : Int32) {Q : Int32 → sM → Prop} {X : Nat → sM → Prop} (h : kC M (s_load g x) Q X) : wL_load x M Q X := by
  have hD := rB_D hG.1
  have hE := rB_E hG.1
  unfold wL_load wX6_load wX6_requireExaminer
  by_cases hv : zok x (g.1 1)
  · obtain ⟨k, hk, rfl⟩ := zok_t hv (by omega)
    have hk8 : k < 6 := by omega
    rw [show s_load g (nI k) = (0, zload g.1 k, g) by unfold s_load; rw [if_pos hv, cl (by omega)]] at h
    refine u5_hasExaminer_t hC.1 hG.1 hk (br1 ?_)
    have b := zload_le hG.1 hk8
    have b2 := hG.1.2.2.1 k hk8
    exact u5_loadOf hC.1 hG.1 hk8 (kC_ok h hC (by omega))
  · rw [show s_load g x = (1, 0, g) from if_neg hv] at h
    exact u5_hasExaminer_f hC.1 hG.1 (zok_f hv (by omega)) (br0 (brt rfl (kC_no h (by decide) hC)))
def s_frameOfExaminer (g : zG) (x : Int32) : Nat × Nat × zG := if zok x (g.1 1) then (0, zx g.1 x.toNatClampNeg 0, g) else (1, 0, g)
theorem s_frameOfExaminer_G {g : zG} (h : GI g) (x : Int32) : GI (s_frameOfExaminer g x).2.2 := by unfold s_frameOfExaminer; split <;> exact h
theorem L_frameOfExaminer {M : sM} {g : zG} (hC : CI M g) (hG : GI g) (x : Int32) {Q : Int32 → sM → Prop} {X : Nat → sM → Prop} (h : kC M (s_frameOfExaminer g x) Q X) : wL_frameOfExaminer x M Q X := by
  have hD := rB_D hG.1
  have hE := rB_E hG.1
  unfold wL_frameOfExaminer wX6_frameOfExaminer wX6_requireExaminer
  by_cases hv : zok x (g.1 1)
  · obtain ⟨k, hk, rfl⟩ := zok_t hv (by omega)
    have hk8 : k < 6 := by omega
    rw [show s_frameOfExaminer g (nI k) = (0, zx g.1 k 0, g) by unfold s_frameOfExaminer; rw [if_pos hv, cl (by omega)]] at h
    refine u5_hasExaminer_t hC.1 hG.1 hk (br1 ?_)
    have b := hG.1.2.2.1 k hk8
    refine ⟨vin hk8 (by decide), ?_⟩
    rw [cl (by omega), rS_xf hC.1 hk8]
    exact ⟨(pk_charN (by omega)).1, kC_ok h hC (by omega)⟩
  · rw [show s_frameOfExaminer g x = (1, 0, g) from if_neg hv] at h
    exact u5_hasExaminer_f hC.1 hG.1 (zok_f hv (by omega)) (br0 (brt rfl (kC_no h (by decide) hC)))
def s_isNeutral (g : zG) (x y : Int32) : Nat × Nat × zG := if zok x (g.1 1) ∧ zok y (g.1 0) then (0, (if zneu g.1 x.toNatClampNeg y.toNatClampNeg then 1 else 0), g) else (1, 0, g)
theorem s_isNeutral_G {g : zG} (h : GI g) (x y : Int32) : GI (s_isNeutral g x y).2.2 := by unfold s_isNeutral; split <;> exact h
theorem L_isNeutral {M : sM} {g : zG} (hC : CI M g) (hG : GI g) (x y : Int32) {Q : Int32 → sM → Prop} {X : Nat → sM → Prop} (h : kC M (s_isNeutral g x y) Q X) : wL_isNeutral x y M Q X := by
  have hD := rB_D hG.1
  have hE := rB_E hG.1
  unfold wL_isNeutral wX6_isNeutral wX6_requirePair wX6_requireExaminer wX6_requireDoor
  by_cases hv : zok x (g.1 1) ∧ zok y (g.1 0)
  · obtain ⟨x, hx, rfl⟩ := zok_t hv.1 (by omega)
    obtain ⟨k, hk, rfl⟩ := zok_t hv.2 (by omega)
    have hx6 : x < 6 := by omega
    have hk8 : k < 8 := by omega
    rw [show s_isNeutral g (nI x) (nI k) = (0, (if zneu g.1 x k then 1 else 0), g) by unfold s_isNeutral; rw [if_pos hv, cl (by omega), cl (by omega)]] at h
    refine u5_hasExaminer_t hC.1 hG.1 hx (br1 (u5_hasDoor_t hC.1 hG.1 hk (br1 ?_)))
    exact u5_neutral hC.1 hG.1 hx6 hk8 (fun z => ⟨nb1, (kC_t h z hC)⟩) (fun z => ⟨nb0, (kC_f h z hC)⟩)
  · rw [show s_isNeutral g x y = (1, 0, g) from if_neg hv] at h
    rcases zI_idx x (g.1 1) (by omega) with ⟨j, hj, rfl⟩ | ⟨-, z⟩
    · refine u5_hasExaminer_t hC.1 hG.1 hj (br1 (u5_hasDoor_f hC.1 hG.1 (zok_f (fun w => hv ⟨zok_n hj (by omega), w⟩) (by omega)) (br0 (brt rfl (kC_no h (by decide) hC)))))
    · exact u5_hasExaminer_f hC.1 hG.1 z (br0 (brt rfl (kC_no h (by decide) hC)))
def s_mayJudge (g : zG) (x y : Int32) : Nat × Nat × zG := if zok x (g.1 1) ∧ zok y (g.1 0) then (0, (if zjud g.1 x.toNatClampNeg y.toNatClampNeg then 1 else 0), g) else (1, 0, g)
theorem s_mayJudge_G {g : zG} (h : GI g) (x y : Int32) : GI (s_mayJudge g x y).2.2 := by unfold s_mayJudge; split <;> exact h
theorem L_mayJudge {M : sM} {g : zG} (hC : CI M g) (hG : GI g) (x y : Int32) {Q : Int32 → sM → Prop} {X : Nat → sM → Prop} (h : kC M (s_mayJudge g x y) Q X) : wL_mayJudge x y M Q X := by
  have hD := rB_D hG.1
  have hE := rB_E hG.1
  unfold wL_mayJudge wX6_mayJudge wX6_requirePair wX6_requireExaminer wX6_requireDoor
  by_cases hv : zok x (g.1 1) ∧ zok y (g.1 0)
  · obtain ⟨x, hx, rfl⟩ := zok_t hv.1 (by omega)
    obtain ⟨k, hk, rfl⟩ := zok_t hv.2 (by omega)
    have hx6 : x < 6 := by omega
    have hk8 : k < 8 := by omega
    rw [show s_mayJudge g (nI x) (nI k) = (0, (if zjud g.1 x k then 1 else 0), g) by unfold s_mayJudge; rw [if_pos hv, cl (by omega), cl (by omega)]] at h
    refine u5_hasExaminer_t hC.1 hG.1 hx (br1 (u5_hasDoor_t hC.1 hG.1 hk (br1 ?_)))
    exact u5_canJudge hC.1 hG.1 hx6 hk8 (fun z => ⟨nb1, (kC_t h z hC)⟩) (fun z => ⟨nb0, (kC_f h z hC)⟩)
  · rw [show s_mayJudge g x y = (1, 0, g) from if_neg hv] at h
    rcases zI_idx x (g.1 1) (by omega) with ⟨j, hj, rfl⟩ | ⟨-, z⟩
    · refine u5_hasExaminer_t hC.1 hG.1 hj (br1 (u5_hasDoor_f hC.1 hG.1 (zok_f (fun w => hv ⟨zok_n hj (by omega), w⟩) (by omega)) (br0 (brt rfl (kC_no h (by decide) hC)))))
    · exact u5_hasExaminer_f hC.1 hG.1 z (br0 (brt rfl (kC_no h (by decide) hC)))
def s_isAssigned (g : zG) (x y : Int32) : Nat × Nat × zG := if zok x (g.1 1) ∧ zok y (g.1 0) then (0, (if zp g.1 x.toNatClampNeg y.toNatClampNeg 1 = 1 then 1 else 0), g) else (1, 0, g)
theorem s_isAssigned_G {g : zG} (h : GI g) (x y : Int32) : GI (s_isAssigned g x y).2.2 := by unfold s_isAssigned; split <;> exact h
theorem L_isAssigned {M : sM} {g : zG} (hC : CI M g) (hG : GI g) (x y : Int32) {Q : Int32 → sM → Prop} {X : Nat → sM → Prop} (h : kC M (s_isAssigned g x y) Q X) : wL_isAssigned x y M Q X := by
  have hD := rB_D hG.1
  have hE := rB_E hG.1
  unfold wL_isAssigned wX6_isAssigned wX6_requirePair wX6_requireExaminer wX6_requireDoor
  by_cases hv : zok x (g.1 1) ∧ zok y (g.1 0)
  · obtain ⟨x, hx, rfl⟩ := zok_t hv.1 (by omega)
    obtain ⟨k, hk, rfl⟩ := zok_t hv.2 (by omega)
    have hx6 : x < 6 := by omega
    have hk8 : k < 8 := by omega
    rw [show s_isAssigned g (nI x) (nI k) = (0, (if zp g.1 x k 1 = 1 then 1 else 0), g) by unfold s_isAssigned; rw [if_pos hv, cl (by omega), cl (by omega)]] at h
    refine u5_hasExaminer_t hC.1 hG.1 hx (br1 (u5_hasDoor_t hC.1 hG.1 hk (br1 ?_)))
    exact u5_assigned hC.1 hG.1 hx6 hk8 (fun z => ⟨nb1, (kC_t h z hC)⟩) (fun z => ⟨nb0, (kC_f h (by omega) hC)⟩)
  · rw [show s_isAssigned g x y = (1, 0, g) from if_neg hv] at h
    rcases zI_idx x (g.1 1) (by omega) with ⟨j, hj, rfl⟩ | ⟨-, z⟩
    · refine u5_hasExaminer_t hC.1 hG.1 hj (br1 (u5_hasDoor_f hC.1 hG.1 (zok_f (fun w => hv ⟨zok_n hj (by omega), w⟩) (by omega)) (br0 (brt rfl (kC_no h (by decide) hC)))))
    · exact u5_hasExaminer_f hC.1 hG.1 z (br0 (brt rfl (kC_no h (by decide) hC)))
def s_result (g : zG) (x : Int32) : Nat × Nat × zG := if zok x (g.1 0) then (if zres g.1 x.toNatClampNeg = 0 then (2, 0, g) else (0, zres g.1 x.toNatClampNeg - 1, g)) else (1, 0, g)
theorem s_result_G {g : zG} (h : GI g) (x : Int32) : GI (s_result g x).2.2 := by
  unfold s_result
  split
  · split <;> exact h
  · exact h
theorem L_result {M : sM} {g : zG} (hC : CI M g) (hG : GI g) (x : Int32) {Q : Int32 → sM → Prop} {X : Nat → sM → Prop} (h : kC M (s_result g x) Q X) : wL_result x M Q X := by
  have hD := rB_D hG.1
  unfold wL_result wX6_result wX6_requireDoor wX6_requireThere
  by_cases hv : zok x (g.1 0)
  · obtain ⟨k, hk, rfl⟩ := zok_t hv (by omega)
    have hk8 : k < 8 := by omega
    rw [show s_result g (nI k) = (if zres g.1 k = 0 then (2, 0, g) else (0, zres g.1 k - 1, g)) by unfold s_result; rw [if_pos hv, cl (by omega)]] at h
    have b := zres_le hG.1 hk8
    refine u5_hasDoor_t hC.1 hG.1 hk (br1 (u5_median hC.1 hG.1 hk8 (bri (nP_n1 (by omega)) (fun z => ?_) (fun z => ?_))))
    · rw [if_pos z] at h
      exact brf (by simp) (brt rfl (kC_no h (by decide) hC))
    · rw [if_neg z] at h
      rw [nP_of (by omega)]
      exact kC_ok h hC (by omega)
  · rw [show s_result g x = (1, 0, g) from if_neg hv] at h
    exact u5_hasDoor_f hC.1 hG.1 (zok_f hv (by omega)) (br0 (brt rfl (kC_no h (by decide) hC)))
def s_gradeBy (g : zG) (x y : Int32) : Nat × Nat × zG := if zok x (g.1 1) ∧ zok y (g.1 0) then (if zp g.1 x.toNatClampNeg y.toNatClampNeg 2 = 0 then (2, 0, g) else (0, zp g.1 x.toNatClampNeg y.toNatClampNeg 2 - 1, g)) else (1, 0, g)
theorem s_gradeBy_G {g : zG} (h : GI g) (x y : Int32) : GI (s_gradeBy g x y).2.2 := by
  unfold s_gradeBy
  split
  · split <;> exact h
  · exact h
theorem L_gradeBy {M : sM} {g : zG} (hC : CI M g) (hG : GI g) (x y : Int32) {Q : Int32 → sM → Prop} {X : Nat → sM → Prop} (h : kC M (s_gradeBy g x y) Q X) : wL_gradeBy x y M Q X := by
  have hD := rB_D hG.1
  have hE := rB_E hG.1
  unfold wL_gradeBy wX6_gradeBy wX6_requirePair wX6_requireExaminer wX6_requireDoor wX6_requireThere
  by_cases hv : zok x (g.1 1) ∧ zok y (g.1 0)
  · obtain ⟨x, hx, rfl⟩ := zok_t hv.1 (by omega)
    obtain ⟨k, hk, rfl⟩ := zok_t hv.2 (by omega)
    have hx6 : x < 6 := by omega
    have hk8 : k < 8 := by omega
    rw [show s_gradeBy g (nI x) (nI k) = (if zp g.1 x k 2 = 0 then (2, 0, g) else (0, zp g.1 x k 2 - 1, g)) by unfold s_gradeBy; rw [if_pos hv, cl (by omega), cl (by omega)]] at h
    have b := hG.1.2.2.2.1 x k hx6 hk8
    refine u5_hasExaminer_t hC.1 hG.1 hx (br1 (u5_hasDoor_t hC.1 hG.1 hk (br1 ⟨vin hx6 (by decide), vin hk8 (by decide), ?_⟩)))
    rw [cl (by omega), cl (by omega), rS_g hC.1 hx6 hk8]
    refine bri (nP_n1 (by omega)) (fun z => ?_) (fun z => ?_)
    · rw [if_pos z] at h
      exact brf (by simp) (brt rfl (kC_no h (by decide) hC))
    · rw [if_neg z] at h
      rw [nP_of (by omega)]
      exact kC_ok h hC (by omega)
  · rw [show s_gradeBy g x y = (1, 0, g) from if_neg hv] at h
    rcases zI_idx x (g.1 1) (by omega) with ⟨j, hj, rfl⟩ | ⟨-, z⟩
    · refine u5_hasExaminer_t hC.1 hG.1 hj (br1 (u5_hasDoor_f hC.1 hG.1 (zok_f (fun w => hv ⟨zok_n hj (by omega), w⟩) (by omega)) (br0 (brt rfl (kC_no h (by decide) hC)))))
    · exact u5_hasExaminer_f hC.1 hG.1 z (br0 (brt rfl (kC_no h (by decide) hC)))
abbrev zen (n : Int32) (N : Nat) : Prop := 1 ≤ n.toInt ∧ n.toInt ≤ (N : Int)
theorem zen_t {x : Int32} {N : Nat} (h : zen x N) (hN : N < 2 ^ 31 - 1) : ∃ n, n < N ∧ x = nI (n + 1) := by
  refine ⟨x.toInt.toNat - 1, by omega, ?_⟩
  rw [zI_eq, nI_toInt (by omega)]; omega
theorem zen_f {x : Int32} {N : Nat} (h : ¬ zen x N) (hN : N < 2 ^ 31 - 1) : ∀ n, n < N → x ≠ nI (n + 1) := fun n hn e => by
  subst e
  apply h
  show 1 ≤ (nI (n + 1)).toInt ∧ (nI (n + 1)).toInt ≤ (N : Int)
  rw [nI_toInt (by omega)]; omega
def s_doorOf (g : zG) (x : Int32) : Nat × Nat × zG := if zen x (g.1 3) then (0, ze g.1 (x.toNatClampNeg - 1) 0, g) else (1, 0, g)
theorem s_doorOf_G {g : zG} (h : GI g) (x : Int32) : GI (s_doorOf g x).2.2 := by unfold s_doorOf; split <;> exact h
theorem L_doorOf {M : sM} {g : zG} (hC : CI M g) (hG : GI g) (x : Int32) {Q : Int32 → sM → Prop} {X : Nat → sM → Prop} (h : kC M (s_doorOf g x) Q X) : wL_doorOf x M Q X := by
  have hN := rB_N hG.1
  unfold wL_doorOf wX6_doorOf wX6_requireEntry
  by_cases hv : zen x (g.1 3)
  · obtain ⟨n, hn, rfl⟩ := zen_t hv (by omega)
    rw [show s_doorOf g (nI (n + 1)) = (0, ze g.1 n 0, g) by unfold s_doorOf; rw [if_pos hv, cl (by omega), Nat.add_sub_cancel]] at h
    have b := hG.1.2.2.2.2.1 n (by omega)
    refine u5_hasEntry_t hC.1 hG.1 hn (br1 ?_)
    rw [show nI (n + 1) - (1 : Int32) = nI n from nI_pred n, cl (by omega), rS_en hC.1 (by omega)]
    exact ⟨vin (by omega) (by decide), kC_ok h hC (by omega)⟩
  · rw [show s_doorOf g x = (1, 0, g) from if_neg hv] at h
    exact u5_hasEntry_f hC.1 hG.1 (zen_f hv (by omega)) (br0 (brt rfl (kC_no h (by decide) hC)))
def s_isRevoked (g : zG) (x : Int32) : Nat × Nat × zG := if zen x (g.1 3) then (0, (if ze g.1 (x.toNatClampNeg - 1) 1 = 1 then 1 else 0), g) else (1, 0, g)
theorem s_isRevoked_G {g : zG} (h : GI g) (x : Int32) : GI (s_isRevoked g x).2.2 := by unfold s_isRevoked; split <;> exact h
theorem L_isRevoked {M : sM} {g : zG} (hC : CI M g) (hG : GI g) (x : Int32) {Q : Int32 → sM → Prop} {X : Nat → sM → Prop} (h : kC M (s_isRevoked g x) Q X) : wL_isRevoked x M Q X := by
  have hN := rB_N hG.1
  unfold wL_isRevoked wX6_isRevoked wX6_requireEntry
  by_cases hv : zen x (g.1 3)
  · obtain ⟨n, hn, rfl⟩ := zen_t hv (by omega)
    rw [show s_isRevoked g (nI (n + 1)) = (0, (if ze g.1 n 1 = 1 then 1 else 0), g) by unfold s_isRevoked; rw [if_pos hv, cl (by omega), Nat.add_sub_cancel]] at h
    have hl := zm_lt (zm_e1 hG.1)
    have e := zrv hG.1 (n := n) (by omega)
    refine u5_hasEntry_t hC.1 hG.1 hn (br1 ?_)
    rw [rS_rv hC.1]
    refine u6_contains (by omega) (by omega) (fun z => ⟨nb1, (kC_t h ?_ hC)⟩) (fun z => ⟨nb0, (kC_f h ?_ hC)⟩)
    · rw [e] at z; exact z
    · rw [e] at z; exact z
  · rw [show s_isRevoked g x = (1, 0, g) from if_neg hv] at h
    exact u5_hasEntry_f hC.1 hG.1 (zen_f hv (by omega)) (br0 (brt rfl (kC_no h (by decide) hC)))
theorem L_doorCount {M : sM} {g : zG} (hC : CI M g) {Q : Int32 → Prop} (h : Q (nI (g.1 0))) : wX6_doorCount M Q := by
  unfold wX6_doorCount
  rw [rS_D hC.1]; exact h
theorem L_examinerCount {M : sM} {g : zG} (hC : CI M g) {Q : Int32 → Prop} (h : Q (nI (g.1 1))) : wX6_examinerCount M Q := by
  unfold wX6_examinerCount
  rw [rS_E hC.1]; exact h
theorem L_threshold {M : sM} {g : zG} (hC : CI M g) {Q : Int32 → Prop} (h : Q (nI (g.1 2))) : wX6_threshold M Q := by
  unfold wX6_threshold
  rw [rS_T hC.1]; exact h
theorem L_entryCount {M : sM} {g : zG} (hC : CI M g) {Q : Int32 → Prop} (h : Q (nI (g.1 3))) : wX6_entryCount M Q := by
  unfold wX6_entryCount
  rw [rS_N hC.1]; exact h
