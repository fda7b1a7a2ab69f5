/-! Commands carried out. -/
noncomputable def zcm (a : Nat → Nat) (c : Nat × List Nat) : Nat × Nat × (Nat → Nat) :=
  if c.1 = 0 then oDoor a (nI (c.2.getD 0 0)) (nI (c.2.getD 1 0))
  else if c.1 = 1 then oExam a (nI (c.2.getD 0 0)) (nI (c.2.getD 1 0)) (nI (c.2.getD 2 0)) (nI (c.2.getD 3 0))
  else if c.1 = 2 then oConf a (nI (c.2.getD 0 0)) (nI (c.2.getD 1 0))
  else if c.1 = 3 then oAss a (nI (c.2.getD 0 0)) (nI (c.2.getD 1 0))
  else if c.1 = 4 then oPlan a
  else if c.1 = 5 then oGrad a (nI (c.2.getD 0 0)) (nI (c.2.getD 1 0)) (nI (c.2.getD 2 0))
  else if c.1 = 6 then oThr a (nI (c.2.getD 0 0))
  else if c.1 = 7 then oApp a (nI (c.2.getD 0 0))
  else if c.1 = 8 then oAw a (nI (c.2.getD 0 0))
  else oRev a (nI (c.2.getD 0 0))
def zvc (c : Nat × List Nat) : Prop := c.1 < 10 ∧ c.2.length = zoc (zsb c.1) ∧ ∀ j, c.2.getD j 0 < 200
theorem zcm_B {a : Nat → Nat} (hb : rB a) (c : Nat × List Nat) : rB (zcm a c).2.2 := by
  unfold zcm
  split
  · exact oDoor_B hb _ _
  · split
    · exact oExam_B hb _ _ _ _
    · split
      · exact oConf_B hb _ _
      · split
        · exact oAss_B hb _ _
        · split
          · exact oPlan_B hb
          · split
            · exact oGrad_B hb _ _ _
            · split
              · exact oThr_B hb _
              · split
                · exact oApp_B hb _
                · split
                  · exact oAw_B hb _
                  · exact oRev_B hb _
theorem zcm_c (a : Nat → Nat) (c : Nat × List Nat) : (zcm a c).1 ≤ 3 := by
  unfold zcm
  split
  · have := (oDoor_c a (nI (c.2.getD 0 0)) (nI (c.2.getD 1 0))).1; omega
  · split
    · have := (oExam_c a (nI (c.2.getD 0 0)) (nI (c.2.getD 1 0)) (nI (c.2.getD 2 0)) (nI (c.2.getD 3 0))).1; omega
    · split
      · have := (oConf_c a (nI (c.2.getD 0 0)) (nI (c.2.getD 1 0))).1; omega
      · split
        · exact (oAss_c a (nI (c.2.getD 0 0)) (nI (c.2.getD 1 0))).1
        · split
          · exact Nat.zero_le _
          · split
            · exact (oGrad_c a (nI (c.2.getD 0 0)) (nI (c.2.getD 1 0)) (nI (c.2.getD 2 0))).1
            · split
              · have := (oThr_c a (nI (c.2.getD 0 0))).1; omega
              · split
                · exact (oApp_c a (nI (c.2.getD 0 0))).1
                · split
                  · exact (oAw_c a (nI (c.2.getD 0 0))).1
                  · have := (oRev_c a (nI (c.2.getD 0 0))).1; omega
theorem zmt_v {t : Nat → Nat} {n : Nat} : ∀ {l : List Nat} {p e : Nat} {ops : List Nat}, zmt t n l p = (e, some ops) → ∀ j, ops.getD j 0 < 200
  | [], p, e, ops, h, j => by
    unfold zmt at h
    cases h
    rw [List.getD_nil]; decide
  | w :: l, p, e, ops, h, j => by
    have cs : ∀ (v q : Nat), zcs v (zmt t n l q) = (e, some ops) → v < 200 → ops.getD j 0 < 200 := fun v q hz hv => by
      rcases hm : zmt t n l q with ⟨e2, _ | ops2⟩
      · rw [hm] at hz; cases hz
      · rw [hm] at hz
        have r := fun j => zmt_v hm j
        cases hz
        rcases j with _ | j
        · exact hv
        · exact r j
    unfold zmt at h
    split at h
    · rename_i fit
      have tp : t p < 110 ∨ (w ≠ 70 ∧ w ≠ 68 ∧ w ≠ 78) := by
        rcases fit.2 with q | q | q
        · exact .inl (by omega)
        · exact .inl (by omega)
        · exact .inr ⟨q.1, q.2.1, q.2.2.1⟩
      split at h
      · rename_i e78
        have t58 : t p ≤ 57 := by
          rcases fit.2 with q | q | q
          · omega
          · exact q.2.2
          · omega
        split at h
        · rename_i dg
          have := dg.2.2
          exact cs _ _ h (by omega)
        · exact cs _ _ h (by omega)
      · split at h
        · exact cs _ _ h (by omega)
        · split at h
          · exact cs _ _ h (by omega)
          · exact zmt_v h j
    · cases h
theorem zps_v {t : Nat → Nat} {n : Nat} : ∀ (f p : Nat), ∀ c ∈ (zps t n f p).2, zvc c
  | 0, p, c, hc => by cases hc
  | f + 1, p, c, hc => by
    have one : ∀ e ops, zmt t n (zsb (zkd t n p)) p = (e, some ops) → zvc (zkd t n p, ops) := fun e ops hm => ⟨zkd_10 t n p, (zmt_ok hm).1, zmt_v hm⟩
    rcases hm : zmt t n (zsb (zkd t n p)) p with ⟨e, _ | ops⟩
    · rw [zps_n hm] at hc; cases hc
    · by_cases q : n ≤ e
      · rw [zps_e hm q] at hc
        rcases List.mem_cons.mp hc with h | h
        · rw [h]; exact one e ops hm
        · cases h
      · by_cases q2 : t e = 59
        · rw [zps_s hm q q2] at hc
          rcases List.mem_cons.mp hc with h | h
          · rw [h]; exact one e ops hm
          · exact zps_v f (e + 1) c h
        · rw [zps_x hm q q2] at hc; cases hc
theorem zans_y {r1 r2 r3 : Int32} {o : Nat × Nat × (Nat → Nat)} (h : o.1 = 0) (hv : o.2.1 < 2 ^ 31) : 0 ≤ zans r1 r2 r3 o := by
  unfold zans
  rw [if_pos h]; exact nI_pos' hv
theorem zans_n {r1 r2 r3 : Int32} {o : Nat × Nat × (Nat → Nat)} (h : o.1 ≠ 0) (h1 : ¬ 0 ≤ r1) (h2 : o.1 ≤ 1 ∨ ¬ 0 ≤ r2) (h3 : o.1 ≤ 2 ∨ ¬ 0 ≤ r3) : ¬ 0 ≤ zans r1 r2 r3 o := by
  unfold zans
  rw [if_neg h]
  by_cases e1 : o.1 = 1
  · rw [if_pos e1]; exact h1
  · rw [if_neg e1]
    by_cases e2 : o.1 = 2
    · rw [if_pos e2]
      rcases h2 with h2 | h2
      · omega
      · exact h2
    · rw [if_neg e2]
      rcases h3 with h3 | h3
      · omega
      · exact h3
theorem zar : ∀ k, k < 10 → zoc (zsb k) = [2, 4, 2, 2, 0, 3, 1, 1, 1, 1].getD k 0 := by decide +kernel
theorem u6_perform {M : sM} {r : Nat} {a : Nat → Nat} {c : Nat × List Nat} (hS : rS M 0 a) (hb : rB a) (hv : zvc c) (ho : ∀ j, j < c.2.length → M (18 + r) j = nI (c.2.getD j 0)) {R : Int32 → sM → Prop}
    (h : ∀ M' x, fP M M' → rS M' 0 (zcm a c).2.2 → ((zcm a c).1 = 0 → 0 ≤ x) → ((zcm a c).1 ≠ 0 → ¬ 0 ≤ x) → R x M') : wX6_perform (nI c.1) r M R := by
  obtain ⟨k, ops⟩ := c
  obtain ⟨v1, v2, v3⟩ := hv
  have u1 : k < 10 := v1
  have u2 : ops.length = zoc (zsb k) := v2
  have u3 : ∀ j, ops.getD j 0 < 200 := v3
  have uo : ∀ j, j < ops.length → M (18 + r) j = nI (ops.getD j 0) := ho
  rw [zar k u1] at u2
  have q : ∀ b : Nat, b < 10 → (nI k = nI b ↔ k = b) := fun b hb => nI_eq (by omega) (by omega)
  have m1 : ¬ (0 : Int32) ≤ -1 := by decide
  have m2 : ¬ (0 : Int32) ≤ -2 := by decide
  have m3 : ¬ (0 : Int32) ≤ -3 := by decide
  have m4 : ¬ (0 : Int32) ≤ -4 := by decide
  have m5 : ¬ (0 : Int32) ≤ -5 := by decide
  unfold wX6_perform
  intro w1 e1 w2 e2 w3 e3
  have e1 : w1 = M (18 + r) 0 := e1
  have e2 : w2 = M (18 + r) 1 := e2
  have e3 : w3 = M (18 + r) 2 := e3
  refine bri (q 0 (by decide)) (fun e => ?_) (fun n0 => bri (q 1 (by decide)) (fun e => ?_) (fun n1 => bri (q 2 (by decide)) (fun e => ?_) (fun n2 => bri (q 3 (by decide)) (fun e => ?_) (fun n3 => bri (q 4 (by decide)) (fun e => ?_) (fun n4 => bri (q 5 (by decide)) (fun e => ?_) (fun n5 => bri (q 6 (by decide)) (fun e => ?_) (fun n6 => bri (q 7 (by decide)) (fun e => ?_) (fun n7 => bri (q 8 (by decide)) (fun e => ?_) (fun n8 => ?_)))))))))
  · subst e
    have l : ops.length = 2 := u2
    have b0 := u3 0
    intro w25 e25
    rw [e1, uo 0 (by omega), chr_w (by omega)] at e25
    rw [uo 1 (by omega)] at e2
    subst e25 e2
    have K := oDoor_c a (nI (ops.getD 0 0)) (nI (ops.getD 1 0))
    refine u5_tryNewDoor hS hb _ _ (fun o M' eo f s => ?_)
    subst eo
    exact h M' _ (fP_fr f) s (fun z => zans_y z (oDoor_v hb _ _)) (fun z => zans_n z m2 (.inr m3) (.inl K.1))
  · subst e
    have l : ops.length = 4 := u2
    have b0 := u3 0
    intro w25 e25
    rw [e1, uo 0 (by omega), chr_w (by omega)] at e25
    rw [uo 1 (by omega)] at e2
    rw [uo 2 (by omega)] at e3
    have e4 : M (18 + r) ((3 : Int32)).toNatClampNeg = nI (ops.getD 3 0) := uo 3 (by omega)
    rw [e4]
    subst e25 e2 e3
    have K := oExam_c a (nI (ops.getD 0 0)) (nI (ops.getD 1 0)) (nI (ops.getD 2 0)) (nI (ops.getD 3 0))
    refine u5_tryNewExaminer hS hb _ _ _ _ (fun o M' eo f s => ?_)
    subst eo
    exact h M' _ (fP_fr f) s (fun z => zans_y z (oExam_v hb _ _ _ _)) (fun z => zans_n z m2 (.inr m3) (.inl K.1))
  · subst e
    have l : ops.length = 2 := u2
    rw [uo 0 (by omega)] at e1
    rw [uo 1 (by omega)] at e2
    subst e1 e2
    have K := oConf_c a (nI (ops.getD 0 0)) (nI (ops.getD 1 0))
    refine u5_tryConflict hS hb _ _ (fun o M' eo f s => ?_)
    subst eo
    exact h M' _ (fP_fr f) s (fun z => zans_y z (oConf_v hb _ _)) (fun z => zans_n z m1 (.inr m3) (.inl K.1))
  · subst e
    have l : ops.length = 2 := u2
    rw [uo 0 (by omega)] at e1
    rw [uo 1 (by omega)] at e2
    subst e1 e2
    refine u5_tryAssignment hS hb _ _ (fun o M' eo f s => ?_)
    subst eo
    exact h M' _ (fP_fr f) s (fun z => zans_y z (oAss_v hb _ _)) (fun z => zans_n z m1 (.inr m3) (.inr m4))
  · subst e
    refine u6_plan hS hb (fun M' f s => ?_)
    exact h M' _ f s (fun z => nI_pos' (oPlan_v a)) (fun z => absurd rfl z)
  · subst e
    have l : ops.length = 3 := u2
    rw [uo 0 (by omega)] at e1
    rw [uo 1 (by omega)] at e2
    rw [uo 2 (by omega)] at e3
    subst e1 e2 e3
    refine u5_tryGrade hS hb _ _ _ (fun o M' eo f s => ?_)
    subst eo
    exact h M' _ (fP_fr f) s (fun z => zans_y z (oGrad_v hb _ _ _)) (fun z => zans_n z m1 (.inr m2) (.inr m3))
  · subst e
    have l : ops.length = 1 := u2
    rw [uo 0 (by omega)] at e1
    subst e1
    have K := oThr_c a (nI (ops.getD 0 0))
    refine u5_tryThreshold hS hb _ (fun o M' eo f s => ?_)
    subst eo
    exact h M' _ (fP_fr f) s (fun z => zans_y z (oThr_v hb _)) (fun z => zans_n z m2 (.inl K.1) (.inl (by have := K.1; omega)))
  · subst e
    have l : ops.length = 1 := u2
    rw [uo 0 (by omega)] at e1
    subst e1
    refine u2_tryAppeal hS hb _ (fun o M' eo f s => ?_)
    subst eo
    exact h M' _ (fP_fr f) s (fun z => zans_y z (oApp_v _)) (fun z => zans_n z m1 (.inr m3) (.inr m4))
  · subst e
    have l : ops.length = 1 := u2
    rw [uo 0 (by omega)] at e1
    subst e1
    refine u5_tryAward hS hb _ (fun o M' eo f s => ?_)
    subst eo
    exact h M' _ (fP_fr f) s (fun z => zans_y z (oAw_v hb _)) (fun z => zans_n z m1 (.inr m3) (.inr m4))
  · have e : k = 9 := by omega
    subst e
    have l : ops.length = 1 := u2
    rw [uo 0 (by omega)] at e1
    subst e1
    have K := oRev_c a (nI (ops.getD 0 0))
    refine u5_tryRevocation hS hb _ (fun o M' eo f s => ?_)
    subst eo
    exact h M' _ (fP_fr f) s (fun z => zans_y z (oRev_v hb _)) (fun z => zans_n z m5 (.inr m3) (.inl K.1))
/-- a program carried out: 0 and the row behind it; or one more than the command that fails -/
noncomputable def zex : (Nat → Nat) → List (Nat × List Nat) → Nat → Nat × (Nat → Nat)
  | a, [], _ => (0, a)
  | a, c :: l, i => if (zcm a c).1 = 0 then zex (zcm a c).2.2 l (i + 1) else (i + 1, a)
theorem zex_B : ∀ (l : List (Nat × List Nat)) (a : Nat → Nat) (i : Nat), rB a → rB (zex a l i).2
  | [], a, i, hb => hb
  | c :: l, a, i, hb => by
    unfold zex
    split
    · exact zex_B l _ _ (zcm_B hb c)
    · exact hb
theorem zex_i : ∀ (l : List (Nat × List Nat)) (a : Nat → Nat) (i : Nat), (zex a l i).1 ≤ i + l.length
  | [], a, i => Nat.zero_le _
  | c :: l, a, i => by
    unfold zex
    split
    · have := zex_i l (zcm a c).2.2 (i + 1)
      simp only [List.length_cons]; omega
    · simp only [List.length_cons]; omega
