/-! Plans at the face. -/
theorem fr_C14 {M M' : sM} {lo hi : Nat} (f : fr lo hi M M') (hh : hi ≤ 14) : fC M M' := fun k a _ => f k (by omega)
theorem MI_pl {M M' : sM} {g : zG} (h : MI M g) {lo hi : Nat} (f : fr lo hi M M') (h1 : 38 ≤ lo) (h2 : hi ≤ 43) : MI M' g := MI_tr h (fun k hk => f k (by omega)) (fun j _ => congrFun (f 33 (by omega)) j)
theorem fM_pl {M M' : sM} {lo hi : Nat} (f : fr lo hi M M') (h1 : 38 ≤ lo) (h2 : hi ≤ 43) : fM M M' := fun k hk => f k (by omega)
noncomputable def zsz (a : Nat → Nat) : Nat := zmx (zG0 a) (zC0 a) 0 (a 0)
theorem zsz_8 (a : Nat → Nat) : zsz a ≤ 8 := zmx_8
theorem L_planSize {M : sM} {g : zG} (hC : CI M g) (hG : GI g) {Q : Int32 → sM → Prop} (h : ∀ M', fC M M' → CI M' g → Q (nI (zsz g.1)) M') : wX6_planSize M Q := by
  unfold wX6_planSize
  exact u3_sizeByExchanges hC.1 hG.1 (fun M' f => h M' (fr_C14 f (by decide)) (CI_s hC f (by decide) (by decide)))
theorem L_planSizeBySets {M : sM} {g : zG} (hC : CI M g) (hG : GI g) {Q : Int32 → sM → Prop} (h : ∀ M', fC M M' → CI M' g → Q (nI (zsz g.1)) M') : wX6_planSizeBySets M Q := by
  unfold wX6_planSizeBySets
  exact u3_sizeBySets hC.1 hG.1 (fun M' f => h M' (fr_C14 f (by decide)) (CI_s hC f (by decide) (by decide)))
theorem m_planSize {M : sM} {g : zG} (hM : MI M g) (hG : GI g) {Q : Int32 → sM → Prop} (h : kM M (0, zsz g.1, g) Q) : wX7_planSize M Q := by
  unfold wX7_planSize
  intro M1 e1
  have i1 : MI M1 g := by rw [e1]; exact MI_6 hM _
  have f1 : fM M M1 := by rw [e1]; exact fM_6 M _
  have t1 : M1 33 6 = 0 := by rw [e1]; exact ms_e _ _ _ _
  refine u7_countsSeats i1.1 hG.1 (fun M2 f2 s2 => ?_)
  have i2 := MI_pl i1 f2 (by decide) (by decide)
  refine u7_mostFrom (f := 0) hG.1 (Nat.zero_le _) (zC0_le4 hG.1) i2.1 s2 (fun M3 f3 => ?_)
  exact kM_ok h (fM_t f1 (fM_t (fM_pl f2 (by decide) (by decide)) (fM_pl f3 (by decide) (by decide)))) (MI_pl i2 f3 (by decide) (by decide)) (by rw [f3 33 (by decide), f2 33 (by decide)]; exact t1)
theorem m_planSizeBySets {M : sM} {g : zG} (hM : MI M g) (hG : GI g) {Q : Int32 → sM → Prop} (h : kM M (0, zsz g.1, g) Q) : wX7_planSizeBySets M Q := by
  unfold wX7_planSizeBySets
  exact m_planSize hM hG h
noncomputable def zpe (a : Nat → Nat) (k : Nat) : Nat := zbp (zG0 a) (zC0 a) (a 0) k
noncomputable def s_planned (g : zG) (x : Int32) : Nat × Nat × zG := if zok x (g.1 0) then (if zpe g.1 x.toNatClampNeg = 0 then (2, 0, g) else (0, zpe g.1 x.toNatClampNeg - 1, g)) else (1, 0, g)
theorem s_planned_G {g : zG} (h : GI g) (x : Int32) : GI (s_planned g x).2.2 := by
  unfold s_planned
  split
  · split <;> exact h
  · exact h
theorem L_plannedExaminer {M : sM} {g : zG} (hC : CI M g) (hG : GI g) (x : Int32) {o : sO} {d : sE} {Q : Int32 → sM → sO → sE → Prop} (h : kC M (s_planned g x) d Q) : wL_plannedExaminer x M o d Q := by
  have hD := rB_D hG.1
  unfold wL_plannedExaminer wX6_plannedExaminer wX6_requireDoor wX6_requireThere
  by_cases hv : zok x (g.1 0)
  · obtain ⟨k, hk, rfl⟩ := zok_t hv (by omega)
    have hk8 : k < 8 := by omega
    rw [show s_planned g (nI k) = (if zpe g.1 k = 0 then (2, 0, g) else (0, zpe g.1 k - 1, g)) by unfold s_planned; rw [if_pos hv, cl (by omega)]] at h
    refine u5_hasDoor_t hC.1 hG.1 hk (br1 (u3_findBest hC.1 hG.1 (fun M1 f1 h1 => ⟨vin hk8 (by decide), ?_⟩)))
    have C1 := CI_s hC f1 (by decide) (by decide)
    have F1 := fr_C14 f1 (by decide)
    rw [cl (by omega), h1 k hk]
    have b : zpe g.1 k ≤ 6 := zbp_6
    refine bri (nP_n1 (show zpe g.1 k < 2 ^ 31 by omega)) (fun (z : zpe g.1 k = 0) => ?_) (fun (z : ¬ zpe g.1 k = 0) => ?_)
    · rw [if_pos z] at h
      exact brf (by simp) (brt rfl (h M1 o F1 C1 (fun w => absurd (show 2 = 0 from w) (by decide))))
    · rw [if_neg z] at h
      rw [show nP (zbp (zG0 g.1) (zC0 g.1) (g.1 0) k) = nI (zpe g.1 k - 1) from nP_of (show 0 < zpe g.1 k by omega)]
      exact kC_w2 h (by omega) F1 C1
  · rw [show s_planned g x = (1, 0, g) from if_neg hv] at h
    exact u5_hasDoor_f hC.1 hG.1 (zok_f hv (by omega)) (br0 (brt rfl (kC_no h (by decide) hC)))
theorem m_plannedExaminer {M : sM} {g : zG} (hM : MI M g) (hG : GI g) (x : Int32) {Q : Int32 → sM → Prop} (h : kM M (s_planned g x) Q) : wX7_plannedExaminer x M Q := by
  have hD := rB_D hG.1
  unfold wX7_plannedExaminer
  refine u7_plans hM.1 hG.1 (fun M2 f2 h2 => ?_)
  have i2 := MI_pl hM f2 (by decide) (by decide)
  have F2 := fM_pl f2 (by decide) (by decide)
  by_cases hv : zok x (g.1 0)
  · obtain ⟨k, hk, rfl⟩ := zok_t hv (by omega)
    have hk8 : k < 8 := by omega
    rw [show s_planned g (nI k) = (if zpe g.1 k = 0 then (2, 0, g) else (0, zpe g.1 k - 1, g)) by unfold s_planned; rw [if_pos hv, cl (by omega)]] at h
    refine u7_isDoor_t i2.1 hG.1 hk (br1 ⟨vin hk8 (by decide), ?_⟩)
    rw [cl (by omega), h2 k hk]
    have b : zpe g.1 k ≤ 6 := zbp_6
    by_cases z : zpe g.1 k = 0
    · rw [if_pos z] at h
      rw [show zbp (zG0 g.1) (zC0 g.1) (g.1 0) k = 0 from z, nP_0]
      refine brf (by decide) ?_
      unfold jX7_plannedExaminer_32
      intro M4 e4
      subst e4
      rw [ms_e]
      exact brf (by decide) (kM_no h (by decide) (fM_t F2 (fM_6 M2 _)) (MI_6 i2 _) (ms_e _ _ _ _) _)
    · rw [if_neg z] at h
      have ez : nP (zbp (zG0 g.1) (zC0 g.1) (g.1 0) k) = nI (zpe g.1 k - 1) := nP_of (show 0 < zpe g.1 k by omega)
      rw [ez]
      refine brt (nI_pos' (by omega)) ?_
      unfold jX7_plannedExaminer_32
      intro M4 e4
      have e41 : M4 41 k = nI (zpe g.1 k - 1) := by rw [e4, sw_ms_n _ _ _ (by decide), h2 k hk]; exact ez
      subst e4
      rw [ms_e]
      refine brt (by decide) ⟨vin hk8 (by decide), ?_⟩
      rw [cl (by omega), e41]
      exact kM_ok h (fM_t F2 (fM_6 M2 _)) (MI_6 i2 _) (ms_e _ _ _ _)
  · rw [show s_planned g x = (1, 0, g) from if_neg hv] at h
    refine u7_isDoor_f i2.1 hG.1 (zok_f hv (by omega)) (br0 ?_)
    unfold jX7_plannedExaminer_32
    intro M4 e4
    subst e4
    rw [ms_e]
    exact brf (by decide) (kM_no h (by decide) (fM_t F2 (fM_6 M2 _)) (MI_6 i2 _) (ms_e _ _ _ _) _)
theorem oPlan_v (a : Nat → Nat) : (oPlan a).2.1 < 2 ^ 31 := by
  have : (oPlan a).2.1 ≤ 8 := zmx_8
  omega
theorem u6_plan {M1 : sM} {a : Nat → Nat} (s1 : rS M1 0 a) (hb : rB a) {R : Int32 → sM → Prop} (hR : ∀ M', fP M1 M' → rS M' 0 (oPlan a).2.2 → R (nI (oPlan a).2.1) M') : wX3_findBest 0 M1 (fun M2 => wX5_putPlan 0 M2 (fun r M3 => R r M3)) := by
  refine u3_findBest s1 hb (fun M2 f2 h2 => ?_)
  exact u5_putPlan (rS_pl s1 f2 (by decide)) hb h2 (fun M3 f3 s3 => hR M3 (fP_t (fP_fr0 f2 (by decide) (by decide)) (fP_fr f3)) s3)
theorem L_carryOutPlan {M : sM} {g : zG} (hC : CI M g) (hG : GI g) {Q : Int32 → sM → Prop} {X : String → sM → Prop} (h : ∀ M', fC M M' → CI M' (zstep g (oPlan g.1)).2.2 → Q (nI (oPlan g.1).2.1) M') : wX6_carryOutPlan M Q X := by
  unfold wX6_carryOutPlan
  refine c_chg hC hG (oPlan g.1) 0 0 0 (fun M1 R => wX3_findBest 0 M1 (fun M2 => wX5_putPlan 0 M2 (fun r M3 => R r M3))) (fun z => absurd rfl z) (oPlan_v _) (fun M1 R s1 hR => u6_plan s1 hG.1 hR) (fun z M' fF cC => h M' fF ?_) (fun z => absurd rfl z)
  show CI M' (zchg g _)
  unfold zchg
  rw [if_pos z]; exact cC
theorem m_carryOutPlan {M : sM} {g : zG} (hM : MI M g) (hG : GI g) {Q : Int32 → sM → Prop} (h : kM M (zstep g (oPlan g.1)) Q) : wX7_carryOutPlan M Q := by
  unfold wX7_carryOutPlan
  exact m_chg hM hG (oPlan g.1) (show 0 < 2 ^ 31 by decide) (fun M1 R => wX7_doPlan M1 R) (fun M1 R r1 t1 hz => u7_doPlan r1 hG.1 t1 hz) (fun M' r fF tT eE iI => h M' r fF iI tT eE)
