/-! Plans at the face. -/
theorem fr_C14 {M M' : sM} {lo hi : Nat} (f : fr lo hi M M') (hh : hi ≤ 14) : fC M M' := fun k a _ => f k (by omega)
noncomputable def zsz (a : Nat → Nat) : Nat := zmx (zG0 a) (zC0 a) 0 (a 0)
theorem zsz_8 (a : Nat → Nat) : zsz a ≤ 8 := zmx_8
theorem L_planSize {M : sM} {g : zG} (hC : CI M g) (hG : GI g) {Q : Int32 → sM → Prop} (h : ∀ M', fC M M' → CI M' g → Q (nI (zsz g.1)) M') : wX6_planSize M Q := by
  unfold wX6_planSize
  exact u3_sizeByExchanges hC.1 hG.1 (fun M' f => h M' (fr_C14 f (by decide)) (CI_s hC f (by decide) (by decide)))
theorem L_planSizeBySets {M : sM} {g : zG} (hC : CI M g) (hG : GI g) {Q : Int32 → sM → Prop} (h : ∀ M', fC M M' → CI M' g → Q (nI (zsz g.1)) M') : wX6_planSizeBySets M Q := by
  unfold wX6_planSizeBySets
  exact u3_sizeBySets hC.1 hG.1 (fun M' f => h M' (fr_C14 f (by decide)) (CI_s hC f (by decide) (by decide)))
noncomputable def zpe (a : Nat → Nat) (k : Nat) : Nat := zbp (zG0 a) (zC0 a) (a 0) k
noncomputable def s_planned (g : zG) (x : Int32) : Nat × Nat × zG := if zok x (g.1 0) then (if zpe g.1 x.toNatClampNeg = 0 then (2, 0, g) else (0, zpe g.1 x.toNatClampNeg - 1, g)) else (1, 0, g)
theorem s_planned_G {g : zG} (h : GI g) (x : Int32) : GI (s_planned g x).2.2 := by
  unfold s_planned
  split
  · split <;> exact h
  · exact h
theorem L_plannedExaminer {M : sM} {g : zG} (hC : CI M g) (hG : GI g) (x : Int32) {Q : Int32 → sM → Prop} {X : Nat → sM → Prop} (h : kC M (s_planned g x) Q X) : wL_plannedExaminer x M Q X := by
  have hD := rB_D hG.1
  unfold wL_plannedExaminer wX6_plannedExaminer wX6_requireDoor wX6_requireThere
  by_cases hv : zok x (g.1 0)
  · obtain ⟨k, hk, rfl⟩ := zok_t hv (by omega)
    have hk8 : k < 8 := by omega
    rw [show s_planned g (nI k) = (if zpe g.1 k = 0 then (2, 0, g) else (0, zpe g.1 k - 1, g)) by unfold s_planned; rw [if_pos hv, cl (by omega)]] at h
    refine u5_hasDoor_t hC.1 hG.1 hk (br1 (u3_findBest hC.1 hG.1 (fun M1 f1 h1 => ⟨vin hk8 (by decide), ?_⟩)))
    have C1 := CI_s hC f1 (by decide) (by decide)
    have F1 := fr_C14 f1 (by decide)
    rw [cl (by omega), h1 k hk]
    have b : zpe g.1 k ≤ 6 := zbp_6
    refine bri (nP_n1 (show zpe g.1 k < 2 ^ 31 by omega)) (fun (z : zpe g.1 k = 0) => ?_) (fun (z : ¬ zpe g.1 k = 0) => ?_)
    · rw [if_pos z] at h
      exact brf (by simp) (brt rfl ((h M1 F1 C1).2 (Nat.succ_ne_zero _)))
    · rw [if_neg z] at h
      rw [show nP (zbp (zG0 g.1) (zC0 g.1) (g.1 0) k) = nI (zpe g.1 k - 1) from nP_of (show 0 < zpe g.1 k by omega)]
      exact kC_w2 h (by omega) F1 C1
  · rw [show s_planned g x = (1, 0, g) from if_neg hv] at h
    exact u5_hasDoor_f hC.1 hG.1 (zok_f hv (by omega)) (br0 (brt rfl (kC_no h (by decide) hC)))
theorem oPlan_v (a : Nat → Nat) : (oPlan a).2.1 < 2 ^ 31 := by
  have : (oPlan a).2.1 ≤ 8 := zmx_8
  omega
theorem u6_plan {M1 : sM} {a : Nat → Nat} (s1 : rS M1 0 a) (hb : rB a) {R : Int32 → sM → Prop} (hR : ∀ M', fP M1 M' → rS M' 0 (oPlan a).2.2 → R (nI (oPlan a).2.1) M') : wX3_findBest 0 M1 (fun M2 => wX5_putPlan 0 M2 (fun r M3 => R r M3)) := by
  refine u3_findBest s1 hb (fun M2 f2 h2 => ?_)
  exact u5_putPlan (rS_pl s1 f2 (by decide)) hb h2 (fun M3 f3 s3 => hR M3 (fP_t (fP_fr0 f2 (by decide) (by decide)) (fP_fr f3)) s3)
theorem L_carryOutPlan {M : sM} {g : zG} (hC : CI M g) (hG : GI g) {Q : Int32 → sM → Prop} {X : String → sM → Prop} (h : ∀ M', fC M M' → CI M' (zstep g (oPlan g.1)).2.2 → Q (nI (oPlan g.1).2.1) M') : wX6_carryOutPlan M Q X := by
  unfold wX6_carryOutPlan
  refine c_chg hC hG (oPlan g.1) 0 0 0 (fun M1 R => wX3_findBest 0 M1 (fun M2 => wX5_putPlan 0 M2 (fun r M3 => R r M3))) (fun z => absurd rfl z) (oPlan_v _) (fun M1 R s1 hR => u6_plan s1 hG.1 hR) (fun z M' fF cC => h M' fF ?_) (fun z => absurd rfl z)
  show CI M' (zchg g _)
  unfold zchg
  rw [if_pos z]; exact cC
