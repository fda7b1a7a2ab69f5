/-! The reference's changing calls but plans and appeals. -/
def fd (M M' : sM) : Prop := (∀ k, k ≠ 33 → k ≠ 34 → (k < 38 ∨ 42 < k) → M' k = M k) ∧ ∀ j, j ≠ 6 → M' 33 j = M 33 j
theorem fd_r (M : sM) : fd M M := ⟨fun _ _ _ _ => rfl, fun _ _ => rfl⟩
theorem fd_t {M M1 M2 : sM} (h : fd M M1) (h2 : fd M1 M2) : fd M M2 := ⟨fun k a b c => (h2.1 k a b c).trans (h.1 k a b c), fun j hj => (h2.2 j hj).trans (h.2 j hj)⟩
theorem fd_s (M : sM) (j : Nat) (v : Int32) : fd M (sw_ms M 34 j v) := ⟨fun k _ h _ => sw_ms_n _ _ _ h, fun j hj => congrFun (sw_ms_n _ _ _ (by decide)) j⟩
theorem fd_k (M : sM) {k : Nat} (hk : 38 ≤ k ∧ k ≤ 42) (j : Nat) (v : Int32) : fd M (sw_ms M k j v) := ⟨fun q _ h h2 => sw_ms_n _ _ _ (by omega), fun j hj => congrFun (sw_ms_n _ _ _ (by omega)) j⟩
theorem fd_6 (M : sM) (v : Int32) : fd M (sw_ms M 33 6 v) := ⟨fun k h _ _ => sw_ms_n _ _ _ h, fun j hj => ms_j _ _ _ hj⟩
theorem rM_eq {M : sM} {a a' : Nat → Nat} (h : rM M a) (e : ∀ q, q < 228 → a' q = a q) : rM M a' := fun q hq => by rw [e q hq]; exact h q hq
def zK (o : Nat × Nat × (Nat → Nat)) (M : sM) (Q : Int32 → sM → Prop) : Prop := ∀ M', fd M M' → rM M' o.2.2 → M' 33 6 = nI o.1 → Q (nI o.2.1) M'
theorem ms_33 (M : sM) (j : Nat) (v : Int32) (q : Nat) : sw_ms M 34 j v 33 q = M 33 q := congrFun (sw_ms_n _ _ _ (by decide)) q
theorem ms_34 (M : sM) (j : Nat) (v : Int32) : sw_ms M 33 j v 34 = M 34 := sw_ms_n _ _ _ (by decide)
theorem u7_fails {M : sM} {a : Nat → Nat} (hM : rM M a) {c : Nat} {Q : Int32 → sM → Prop} (h : zK (c, 0, a) M Q) : wX7_fails (nI c) M Q := by
  unfold wX7_fails
  intro M1 e1
  subst e1
  exact h _ (fd_6 M _) (rM_fr hM (ms_34 _ _ _)) (ms_e _ _ _ _)
theorem ix_d0 (k : Nat) : ((4 : Int32) + ((5 : Int32) * nI k)) = nI (4 + 5 * k) := by
  rw [show (4 : Int32) = nI 4 from rfl, show (5 : Int32) = nI 5 from rfl, pk_mul, nI_add]
theorem ix_x0 (k : Nat) : ((44 : Int32) + ((4 : Int32) * nI k)) = nI (44 + 4 * k) := by
  rw [show (44 : Int32) = nI 44 from rfl, show (4 : Int32) = nI 4 from rfl, pk_mul, nI_add]
theorem ia1 (n : Nat) : nI n + (1 : Int32) = nI (n + 1) := (nI_succ n).symm
theorem ia2 (n : Nat) : nI n + (2 : Int32) = nI (n + 2) := nI_add n 2
theorem ia3 (n : Nat) : nI n + (3 : Int32) = nI (n + 3) := nI_add n 3
theorem ia4 (n : Nat) : nI n + (4 : Int32) = nI (n + 4) := nI_add n 4
section D7
variable {M : sM} {a : Nat → Nat}
theorem u7_doAddDoor (hM : rM M a) (hb : rB a) (ht : M 33 6 = 0) (f t : Int32) {Q : Int32 → sM → Prop} (h : zK (oDoor a f t) M Q) : wX7_doAddDoor f t M Q := by
  have hD := rB_D hb
  unfold wX7_doAddDoor
  intro v1 ev
  rw [rM_0 hM] at ev
  subst ev
  by_cases hv : 97 ≤ f.toInt ∧ f.toInt ≤ 102 ∧ 0 ≤ t.toInt ∧ t.toInt ≤ 5
  · have E : oDoor a f t = _ := if_pos hv
    rw [E] at h
    refine u7_isFrame (fun f' h1 h2 e => br1 ?_) (fun z => absurd ?_ (z f.toInt.toNat (by omega) (by omega)))
    · obtain ⟨t', ht', rfl⟩ := zI_nat hv.2.2.1
      subst e
      refine u7_in (fun _ _ => br1 ?_) (fun z => absurd ⟨?_, ?_⟩ z)
      · rw [cl ht', cl (n := f') (by omega)] at h
        refine bri (nI_eq (b := 8) (by omega) (by decide)) (fun z => ?_) (fun z => ?_)
        · rw [if_pos z] at h
          exact u7_fails hM h
        · rw [if_neg z] at h
          intro v9 e9
          rw [ix_d0] at e9
          subst e9
          rw [ia1, ia2, ia3, ia4, cl (by omega), cl (by omega), cl (by omega), cl (by omega), cl (by omega)]
          refine ⟨vin (by omega) (by decide), ?_⟩
          intro M1 e1
          have R1 := rM_u hM (4 + 5 * a 0) f'
          rw [← e1] at R1
          refine ⟨vin (by omega) (by decide), ?_⟩
          intro M2 e2
          have R2 := rM_u R1 (4 + 5 * a 0 + 1) t'
          rw [← e2] at R2
          refine ⟨vin (by omega) (by decide), ?_⟩
          intro M3 e3
          have R3 := rM_u R2 (4 + 5 * a 0 + 2) 0
          rw [show nI 0 = 0 from rfl, ← e3] at R3
          refine ⟨vin (by omega) (by decide), ?_⟩
          intro M4 e4
          have R4 := rM_u R3 (4 + 5 * a 0 + 3) 0
          rw [show nI 0 = 0 from rfl, ← e4] at R4
          refine ⟨vin (by omega) (by decide), ?_⟩
          intro M5 e5
          have R5 := rM_u R4 (4 + 5 * a 0 + 4) 0
          rw [show nI 0 = 0 from rfl, ← e5] at R5
          intro M6 e6
          rw [rM_0 R5, zu_f _ _ (by omega), zu_f _ _ (by omega), zu_f _ _ (by omega), zu_f _ _ (by omega), zu_f _ _ (by omega), ia1, c0] at e6
          have R6 := rM_u R5 0 (a 0 + 1)
          rw [← e6] at R6
          refine h M6 (e6 ▸ fd_t (e5 ▸ fd_t (e4 ▸ fd_t (e3 ▸ fd_t (e2 ▸ fd_t (e1 ▸ fd_s M _ _) (fd_s _ _ _)) (fd_s _ _ _)) (fd_s _ _ _)) (fd_s _ _ _)) (fd_s _ _ _)) ?_ ?_
          · refine rM_eq R6 (fun q hq => ?_)
            have bk := hb.2.1 (a 0) (by omega)
            have b6 := bk.2.2.2.2.2.1 (Nat.le_refl _)
            unfold zd at b6 bk
            show zu (zu (zu a (4 + 5 * a 0 + 0) f') (4 + 5 * a 0 + 1) t') 0 (a 0 + 1) q = _
            unfold zu
            by_cases c1 : q = 0
            · rw [if_pos c1, if_pos c1]
            · rw [if_neg c1, if_neg c1]
              by_cases c2 : q = 4 + 5 * a 0 + 4
              · rw [if_pos c2, if_neg (by omega), if_neg (by omega), c2]; omega
              · rw [if_neg c2]
                by_cases c3 : q = 4 + 5 * a 0 + 3
                · rw [if_pos c3, if_neg (by omega), if_neg (by omega), c3]; omega
                · rw [if_neg c3]
                  by_cases c4 : q = 4 + 5 * a 0 + 2
                  · rw [if_pos c4, if_neg (by omega), if_neg (by omega), c4]; omega
                  · rw [if_neg c4]; rfl
          · rw [e6, ms_33, e5, ms_33, e4, ms_33, e3, ms_33, e2, ms_33, e1, ms_33, ht]; rfl
      · rw [zi0]; omega
      · rw [zi5]; omega
    · rw [zI_eq, nI_toInt (by omega)]; omega
  · rw [show oDoor a f t = (1, 0, a) from if_neg hv] at h
    refine u7_isFrame (fun f' h1 h2 e => br1 ?_) (fun z => br0 (u7_fails hM h))
    refine u7_in (fun z1 z2 => absurd ?_ hv) (fun z => br0 (u7_fails hM h))
    rw [zi0] at z1
    rw [zi5] at z2
    subst e
    rw [nI_toInt (by omega)]
    omega
theorem u7_doAddExaminer (hM : rM M a) (hb : rB a) (ht : M 33 6 = 0) (f s c l : Int32) {Q : Int32 → sM → Prop} (h : zK (oExam a f s c l) M Q) : wX7_doAddExaminer f s c l M Q := by
  have hE := rB_E hb
  unfold wX7_doAddExaminer
  intro v1 ev
  rw [rM_1 hM] at ev
  subst ev
  by_cases hv : 97 ≤ f.toInt ∧ f.toInt ≤ 102 ∧ 1 ≤ s.toInt ∧ s.toInt ≤ 63 ∧ 1 ≤ c.toInt ∧ c.toInt ≤ 4 ∧ 0 ≤ l.toInt ∧ l.toInt ≤ 9
  · have E : oExam a f s c l = _ := if_pos hv
    rw [E] at h
    refine u7_isFrame (fun f' h1 h2 e => br1 ?_) (fun z => absurd ?_ (z f.toInt.toNat (by omega) (by omega)))
    · obtain ⟨s', hs, rfl⟩ := zI_nat (x := s) (by omega)
      obtain ⟨c', hc, rfl⟩ := zI_nat (x := c) (by omega)
      obtain ⟨l', hl, rfl⟩ := zI_nat (x := l) (by omega)
      subst e
      refine u7_in (fun _ _ => br1 ?_) (fun z => absurd ⟨by rw [zi1]; omega, by rw [zi63]; omega⟩ z)
      refine u7_in (fun _ _ => br1 ?_) (fun z => absurd ⟨by rw [zi1]; omega, by rw [zi4]; omega⟩ z)
      refine u7_in (fun _ _ => br1 ?_) (fun z => absurd ⟨by rw [zi0]; omega, by rw [zi9]; omega⟩ z)
      rw [cl hs, cl hc, cl hl, cl (n := f') (by omega)] at h
      refine bri (nI_eq (b := 6) (by omega) (by decide)) (fun z => ?_) (fun z => ?_)
      · rw [if_pos z] at h
        exact u7_fails hM h
      · rw [if_neg z] at h
        intro v9 e9
        rw [ix_x0] at e9
        subst e9
        rw [ia1, ia2, ia3, cl (by omega), cl (by omega), cl (by omega), cl (by omega)]
        refine ⟨vin (by omega) (by decide), ?_⟩
        intro M1 e1
        have R1 := rM_u hM (44 + 4 * a 1 + 0) f'
        rw [Nat.add_zero, ← e1] at R1
        refine ⟨vin (by omega) (by decide), ?_⟩
        intro M2 e2
        have R2 := rM_u R1 (44 + 4 * a 1 + 1) s'
        rw [← e2] at R2
        refine ⟨vin (by omega) (by decide), ?_⟩
        intro M3 e3
        have R3 := rM_u R2 (44 + 4 * a 1 + 2) c'
        rw [← e3] at R3
        refine ⟨vin (by omega) (by decide), ?_⟩
        intro M4 e4
        have R4 := rM_u R3 (44 + 4 * a 1 + 3) l'
        rw [← e4] at R4
        intro M6 e6
        rw [rM_1 R4, zu_f _ _ (by omega), zu_f _ _ (by omega), zu_f _ _ (by omega), zu_f _ _ (by omega), ia1, c1] at e6
        have R6 := rM_u R4 1 (a 1 + 1)
        rw [← e6] at R6
        refine h M6 (e6 ▸ fd_t (e4 ▸ fd_t (e3 ▸ fd_t (e2 ▸ fd_t (e1 ▸ fd_s M _ _) (fd_s _ _ _)) (fd_s _ _ _)) (fd_s _ _ _)) (fd_s _ _ _)) R6 ?_
        rw [e6, ms_33, e4, ms_33, e3, ms_33, e2, ms_33, e1, ms_33, ht]; rfl
    · rw [zI_eq, nI_toInt (by omega)]; omega
  · rw [show oExam a f s c l = (1, 0, a) from if_neg hv] at h
    refine u7_isFrame (fun f' h1 h2 e => br1 ?_) (fun z => br0 (u7_fails hM h))
    refine u7_in (fun z1 z2 => br1 ?_) (fun z => br0 (u7_fails hM h))
    refine u7_in (fun z3 z4 => br1 ?_) (fun z => br0 (u7_fails hM h))
    refine u7_in (fun z5 z6 => absurd ?_ hv) (fun z => br0 (u7_fails hM h))
    rw [zi1] at z1 z3
    rw [zi63] at z2
    rw [zi4] at z4
    rw [zi0] at z5
    rw [zi9] at z6
    subst e
    rw [nI_toInt (by omega)]
    omega
theorem u7_pairdis {x k : Int32} (hE : a 1 < 100) (hD : a 0 < 100) (hv : ¬ (zok x (a 1) ∧ zok k (a 0))) : (∀ j, j < a 1 → x ≠ nI j) ∨ ∀ j, j < a 0 → k ≠ nI j := by
  rcases Classical.em (zok x (a 1)) with z | z
  · exact .inr (zok_f (fun y => hv ⟨z, y⟩) (by omega))
  · exact .inl (zok_f z (by omega))
theorem u7_doConflict (hM : rM M a) (hb : rB a) (ht : M 33 6 = 0) (x k : Int32) {Q : Int32 → sM → Prop} (h : zK (oConf a x k) M Q) : wX7_doConflict x k M Q := by
  have hE := rB_E hb
  have hD := rB_D hb
  unfold wX7_doConflict
  by_cases hv : zok x (a 1) ∧ zok k (a 0)
  · obtain ⟨x, hx, rfl⟩ := zok_t hv.1 (by omega)
    obtain ⟨k, hk, rfl⟩ := zok_t hv.2 (by omega)
    have E : oConf a (nI x) (nI k) = oConfN a x k := by unfold oConf; rw [if_pos hv, cl (by omega), cl (by omega)]
    rw [E] at h
    have hx6 : x < 6 := by omega
    have hk8 : k < 8 := by omega
    have b4 := hb.2.2.2.1 x k hx6 hk8
    have bad : (zp a x k 0 = 1 ∨ zp a x k 1 = 1) → zK (2, 0, a) M Q := fun z => by
      unfold oConfN at h
      rw [if_pos z] at h
      exact h
    refine u7_arePair_t hM hb hx hk (br1 (u7_pair hM hx6 hk8 (w := 0) (by decide) (bri (nI_eq (b := 1) (by omega) (by decide)) (fun z => u7_fails hM (bad (.inl z))) (fun z => u7_assigned hM hb hx6 hk8 (fun y => br1 (u7_fails hM (bad (.inr y)))) (fun y => br0 ?_)))))
    refine u7_setsPair (w := 0) (v := 1) hx6 hk8 (by decide) ?_
    obtain ⟨M1, e1⟩ : ∃ M1, M1 = sw_ms M 34 (68 + 3 * (8 * x + k) + 0) (nI 1) := ⟨_, rfl⟩
    have R1 := rM_u hM (68 + 3 * (8 * x + k) + 0) 1
    rw [← e1] at R1 ⊢
    have B1 := rB_conflict hb hx6 hk8
    unfold oConfN at h
    rw [if_neg (by omega)] at h
    have q := h M1 (e1 ▸ fd_s M _ _) R1 (by rw [e1, ms_33, ht]; rfl)
    have hE1 : zu a (68 + 3 * (8 * x + k) + 0) 1 1 = a 1 := zu_f _ _ (by omega)
    obtain ⟨A, hA⟩ : ∃ A, A = zu a (68 + 3 * (8 * x + k) + 0) 1 := ⟨_, rfl⟩
    rw [← hA] at R1 B1 hE1
    have q : Q (nI (zs (fun y => if zneu A y k then 1 else 0) (a 1))) M1 := hA ▸ q
    have key : ∀ m y, y + m = a 1 → lX7_doConflict_54 (nI k) M1 (fun x3_54k => Q x3_54k M1) (m + 1) (nI (zs (fun y => if zneu A y k then 1 else 0) y)) (nI y) := by
      intro m
      induction m with
      | zero =>
        intro y hy
        unfold lX7_doConflict_54
        rw [rM_1 R1, hE1]
        have e : y = a 1 := by omega
        subst e
        exact brt (nI_le (Nat.le_refl _) (by omega)) q
      | succ m ih =>
        intro y hy
        unfold lX7_doConflict_54
        rw [rM_1 R1, hE1]
        refine brf (nI_ge (by omega) (by omega)) ?_
        have q2 := ih (y + 1) (by omega)
        refine u7_neutral R1 B1 (by omega) hk8 (fun e => br1 ?_) (fun e => br0 ?_)
        · intro v3 e3 v4 e4
          subst e3 e4
          rw [zs_succ, if_pos e, nI_succ, nI_succ] at q2
          exact q2
        · intro v3 e3 v4 e4
          subst e3 e4
          rw [zs_succ, if_neg e, ← nI_add, nI_succ] at q2
          exact q2
    exact ⟨a 1 + 1, key (a 1) 0 (by omega)⟩
  · rw [show oConf a x k = (1, 0, a) from if_neg hv] at h
    exact u7_arePair_f hM hb (u7_pairdis (by omega) (by omega) hv) (br0 (u7_fails hM h))
theorem u7_doAssign (hM : rM M a) (hb : rB a) (ht : M 33 6 = 0) (x k : Int32) {Q : Int32 → sM → Prop} (h : zK (oAss a x k) M Q) : wX7_doAssign x k M Q := by
  have hE := rB_E hb
  have hD := rB_D hb
  unfold wX7_doAssign
  by_cases hv : zok x (a 1) ∧ zok k (a 0)
  · obtain ⟨x, hx, rfl⟩ := zok_t hv.1 (by omega)
    obtain ⟨k, hk, rfl⟩ := zok_t hv.2 (by omega)
    have E : oAss a (nI x) (nI k) = oAssN a x k := by unfold oAss; rw [if_pos hv, cl (by omega), cl (by omega)]
    rw [E] at h
    have hx6 : x < 6 := by omega
    have hk8 : k < 8 := by omega
    have b4 := hb.2.2.2.1 x k hx6 hk8
    have b3 := hb.2.2.1 x hx6
    have c3 := zcnt_le hb hk8
    have l3 := zload_le hb hx6
    have bad : (zp a x k 1 = 1 ∨ 3 ≤ zcnt a k ∨ zx a x 2 ≤ zload a x) → zK (2, 0, a) M Q := fun z => by
      unfold oAssN at h
      rw [if_pos z] at h
      exact h
    have full : (3 ≤ zcnt a k ∨ zx a x 2 ≤ zload a x) → jX7_doAssign_43 (nI x) (nI k) M Q 1 := fun z => by
      unfold jX7_doAssign_43
      exact u7_assigned hM hb hx6 hk8 (fun y => br1 (u7_fails hM (bad (.inl y)))) (fun y => br0 (br1 (u7_fails hM (bad (.inr z)))))
    refine u7_arePair_t hM hb hx hk (br1 (u7_examinersAt hM hb hk8 (bri (nI_eq (b := 3) (by omega) (by decide)) (fun z => full (.inl (by omega))) (fun z => u7_loadOf hM hb hx6 (u7_examiner hM hx6 (w := 2) (by decide) (bri (nI_eq (by omega) (by omega)) (fun w => full (.inr (by omega))) (fun w => ?_)))))))
    unfold jX7_doAssign_43
    refine u7_assigned hM hb hx6 hk8 (fun y => br1 (u7_fails hM (bad (.inl y)))) (fun y => br0 (br0 ?_))
    unfold oAssN at h
    rw [if_neg (by omega)] at h
    refine u7_judges hM hb hx6 hk8 (fun j => br1 ?_) (fun j => br0 ?_)
    · rw [if_neg (fun z => z j)] at h
      refine u7_setsPair (w := 1) (v := 1) hx6 hk8 (by decide) ?_
      have R1 := rM_u hM (68 + 3 * (8 * x + k) + 1) 1
      have B1 := rB_assign hb hx6 hk8 hx hk j.1.1 y (by omega) (by omega)
      exact u7_examinersAt R1 B1 hk8 (h _ (fd_s M _ _) R1 (by rw [ms_33, ht]; rfl))
    · rw [if_pos j] at h
      exact u7_fails hM h
  · rw [show oAss a x k = (1, 0, a) from if_neg hv] at h
    exact u7_arePair_f hM hb (u7_pairdis (by omega) (by omega) hv) (br0 (u7_fails hM h))
theorem u7_doGrade (hM : rM M a) (hb : rB a) (ht : M 33 6 = 0) (x k g : Int32) {Q : Int32 → sM → Prop} (h : zK (oGrad a x k g) M Q) : wX7_doGrade x k g M Q := by
  have hE := rB_E hb
  have hD := rB_D hb
  unfold wX7_doGrade
  by_cases hv : zok x (a 1) ∧ zok k (a 0)
  · obtain ⟨x, hx, rfl⟩ := zok_t hv.1 (by omega)
    obtain ⟨k, hk, rfl⟩ := zok_t hv.2 (by omega)
    have hx6 : x < 6 := by omega
    have hk8 : k < 8 := by omega
    have b4 := hb.2.2.2.1 x k hx6 hk8
    refine u7_arePair_t hM hb hx hk (br1 ?_)
    by_cases hg : zok g 21
    · obtain ⟨g, hg2, rfl⟩ := zok_t hg (by omega)
      have E : oGrad a (nI x) (nI k) (nI g) = oGradN a x k g := by unfold oGrad; rw [if_pos hv, if_pos hg, cl (by omega), cl (by omega), cl (by omega)]
      rw [E] at h
      have bad : (zp a x k 1 = 0 ∨ 0 < zp a x k 2) → zK (3, 0, a) M Q := fun z => by
        unfold oGradN at h
        rw [if_pos z] at h
        exact h
      refine u7_in (fun _ _ => br1 ?_) (fun z => absurd ⟨by rw [zi0, nI_toInt (by omega)]; omega, by rw [zi20, nI_toInt (by omega)]; omega⟩ z)
      refine u7_assigned hM hb hx6 hk8 (fun y => br1 ?_) (fun y => br0 (u7_fails hM (bad (.inl y))))
      refine u7_pair hM hx6 hk8 (w := 2) (by decide) (bri (nI_leI (b := 0) (by omega) (by decide)) (fun z => ?_) (fun z => u7_fails hM (bad (.inr (by omega)))))
      unfold oGradN at h
      rw [if_neg (by omega)] at h
      rw [ia1]
      refine u7_setsPair (w := 2) hx6 hk8 (by decide) ?_
      have R1 := rM_u hM (68 + 3 * (8 * x + k) + 2) (g + 1)
      have B1 := rB_grade hb hx6 hk8 y (g := g) (by omega)
      exact u7_gradesAt R1 B1 hk8 (h _ (fd_s M _ _) R1 (by rw [ms_33, ht]; rfl))
    · rw [show oGrad a (nI x) (nI k) g = (2, 0, a) by unfold oGrad; rw [if_pos hv, if_neg hg]] at h
      refine u7_in (fun z1 z2 => absurd ?_ hg) (fun z => br0 (u7_fails hM h))
      rw [zi0] at z1
      rw [zi20] at z2
      exact ⟨z1, by omega⟩
  · rw [show oGrad a x k g = (1, 0, a) from if_neg hv] at h
    exact u7_arePair_f hM hb (u7_pairdis (by omega) (by omega) hv) (br0 (u7_fails hM h))
theorem u7_doThreshold (hM : rM M a) (ht : M 33 6 = 0) (t : Int32) {Q : Int32 → sM → Prop} (h : zK (oThr a t) M Q) : wX7_doThreshold t M Q := by
  unfold wX7_doThreshold
  by_cases hg : zok t 21
  · obtain ⟨t, ht2, rfl⟩ := zok_t hg (by omega)
    rw [show oThr a (nI t) = (0, a 2, zu a 2 t) by unfold oThr; rw [if_pos hg, cl (by omega)]] at h
    refine u7_in (fun _ _ => br1 ?_) (fun z => absurd ⟨by rw [zi0, nI_toInt (by omega)]; omega, by rw [zi20, nI_toInt (by omega)]; omega⟩ z)
    intro v3 e3 M4 e4
    rw [rM_2 hM] at e3
    subst e3 e4
    exact h _ (fd_s M _ _) (rM_u hM 2 t) (by rw [ms_33, ht]; rfl)
  · rw [show oThr a t = (1, 0, a) from if_neg hg] at h
    refine u7_in (fun z1 z2 => absurd ?_ hg) (fun z => br0 (u7_fails hM h))
    rw [zi0] at z1
    rw [zi20] at z2
    exact ⟨z1, by omega⟩
theorem u7_doAward (hM : rM M a) (hb : rB a) (ht : M 33 6 = 0) (k : Int32) {Q : Int32 → sM → Prop} (h : zK (oAw a k) M Q) : wX7_doAward k M Q := by
  have hD := rB_D hb
  have hN := rB_N hb
  unfold wX7_doAward
  by_cases hv : zok k (a 0)
  · obtain ⟨k, hk, rfl⟩ := zok_t hv (by omega)
    have hk8 : k < 8 := by omega
    rw [show oAw a (nI k) = oAwN a k by unfold oAw; rw [if_pos hv, cl (by omega)]] at h
    have bk := hb.2.1 k hk8
    unfold oAwN at h
    refine u7_isDoor_t hM hb hk (br1 (u7_door hM hk8 (w := 4) (by decide) (bri (nI_leI (b := 0) (by omega) (by decide)) (fun z => ?_) (fun z => ?_))))
    · rw [if_neg (by omega)] at h
      have hN8 := zN_lt hb hk8 (by omega)
      refine u7_entitled hM hb hk8 (fun y => br1 ?_) (fun y => br0 ?_)
      · rw [if_neg (fun z => z y)] at h
        intro v7 e7
        rw [rM_3 hM] at e7
        subst e7
        rw [ix_e, ia1, ia1, show (4 : Int32) + (5 : Int32) * nI k + (4 : Int32) = nI (4 + 5 * k + 4) from ix_d k 4, cl (by omega), cl (by omega), cl (by omega)]
        refine ⟨vin (by omega) (by decide), ?_⟩
        intro M1 e1
        have R1 := rM_u hM (212 + 2 * a 3 + 0) k
        rw [Nat.add_zero, ← e1] at R1
        refine ⟨vin (by omega) (by decide), ?_⟩
        intro M2 e2
        have R2 := rM_u R1 (212 + 2 * a 3 + 1) 0
        rw [show nI 0 = 0 from rfl, ← e2] at R2
        intro M3 e3
        rw [rM_3 R2, zu_f _ _ (by omega), zu_f _ _ (by omega), ia1, c3] at e3
        have R3 := rM_u R2 3 (a 3 + 1)
        rw [← e3] at R3
        refine ⟨vin (by omega) (by decide), ?_⟩
        intro M4 e4
        have R4 := rM_u R3 (4 + 5 * k + 4) (a 3 + 1)
        rw [← e4] at R4
        refine h M4 (e4 ▸ fd_t (e3 ▸ fd_t (e2 ▸ fd_t (e1 ▸ fd_s M _ _) (fd_s _ _ _)) (fd_s _ _ _)) (fd_s _ _ _)) R4 ?_
        rw [e4, ms_33, e3, ms_33, e2, ms_33, e1, ms_33, ht]; rfl
      · rw [if_pos y] at h
        exact u7_fails hM h
    · rw [if_pos (by omega)] at h
      exact u7_fails hM h
  · rw [show oAw a k = (1, 0, a) from if_neg hv] at h
    exact u7_isDoor_f hM hb (zok_f hv (by omega)) (br0 (u7_fails hM h))
theorem u7_doRevoke (hM : rM M a) (hb : rB a) (ht : M 33 6 = 0) (n : Int32) {Q : Int32 → sM → Prop} (h : zK (oRev a n) M Q) : wX7_doRevoke n M Q := by
  have hN := rB_N hb
  unfold wX7_doRevoke
  by_cases hv : 1 ≤ n.toInt ∧ n.toInt ≤ (a 3 : Int)
  · obtain ⟨n', hn', rfl⟩ := zI_nat (x := n) (by omega)
    rw [nI_toInt hn'] at hv
    obtain ⟨n, rfl⟩ : ∃ n, n' = n + 1 := ⟨n' - 1, by omega⟩
    rw [show oRev a (nI (n + 1)) = oRevN a n by unfold oRev; rw [nI_toInt hn', if_pos hv, cl hn', Nat.add_sub_cancel]] at h
    have hn8 : n < 8 := by omega
    have bn := hb.2.2.2.2.1 n hn8
    unfold oRevN at h
    refine u7_isEntry_t hM hb (by omega) (br1 (u7_revoked hM hb hn8 (fun z => br1 ?_) (fun z => br0 ?_)))
    · rw [if_pos z] at h
      exact u7_fails hM h
    · rw [if_neg (by omega)] at h
      have e : nI (212 + 2 * (n + 1)) - (1 : Int32) = nI (212 + 2 * n + 1) := by
        rw [show 212 + 2 * (n + 1) = (212 + 2 * n + 1) + 1 by omega]; exact nI_pred _
      have e' : nI (212 + 2 * (n + 1)) - (2 : Int32) = nI (212 + 2 * n) := by
        rw [show (2 : Int32) = nI 2 from rfl, pk_sub (by omega)]; exact congrArg nI (by omega)
      rw [ix_e, e, e', cl (by omega), cl (by omega)]
      refine ⟨vin (by omega) (by decide), ?_⟩
      intro M1 e1
      have R1 := rM_u hM (212 + 2 * n + 1) 1
      rw [show nI 1 = 1 from rfl, ← e1] at R1
      refine ⟨vin (by omega) (by decide), ?_⟩
      rw [R1 _ (by omega), zu_f _ _ (by omega)]
      exact h M1 (e1 ▸ fd_s M _ _) R1 (by rw [e1, ms_33, ht]; rfl)
  · rw [show oRev a n = (1, 0, a) from if_neg hv] at h
    refine u7_isEntry_f hM hb (fun m hm e => hv ?_) (br0 (u7_fails hM h))
    subst e
    rw [nI_toInt (by omega)]; omega
end D7
