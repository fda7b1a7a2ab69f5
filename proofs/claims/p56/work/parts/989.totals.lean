/-! The pure part: totals. -/
theorem zd_self : ∀ c, c < 25 → 0 < c → ∀ s, s < 481 → Op.cmpValue (FP.dcmp (FP.ddiv (FP.i2d (nI s)) (FP.i2d (nI c))) (FP.ddiv (FP.i2d (nI s)) (FP.i2d (nI c)))) CmpOp.l = 0 := by decide +kernel
theorem zf_self : ∀ c, c < 9 → 0 < c → ∀ s, s < 9 → Op.cmpValue (FP.fcmp (FP.fdiv (FP.i2f (nI s)) (FP.i2f (nI c))) (FP.fdiv (FP.i2f (nI s)) (FP.i2f (nI c)))) CmpOp.l = 0 := by decide +kernel
theorem zen_0 (N : Nat) : ¬ zen 0 N := by
  show ¬ (1 ≤ (0 : Int32).toInt ∧ (0 : Int32).toInt ≤ (N : Int))
  intro h
  exact absurd h.1 (by decide)
theorem zen_b {N : Nat} (h : N < 1000) : ¬ zen (nI N + 1) N := by
  rw [nI_1]
  show ¬ (1 ≤ (nI (N + 1)).toInt ∧ (nI (N + 1)).toInt ≤ (N : Int))
  rw [nI_toInt (by omega)]; omega
theorem pL_totals {z : zG} (hG : GI z) : wL_totals z (fun r => r = 1) := by
  have hb := hG.1
  have h8 := rB_D hb
  have hn := rB_N hb
  have b1 := zgn_le hb
  have b2 := zall_le hb
  have b3 := zpn_le hb
  have b4 := zwr_le hb
  have m0 := zen_0 (z.1 3)
  have mb := zen_b (N := z.1 3) (by omega)
  have f1 : zv (s_doorOf z (0 : Int32)) [(-13)] = -13 := by unfold s_doorOf; rw [if_neg m0]; rfl
  have f2 : zv (s_doorOf z (nI (z.1 3) + (1 : Int32))) [(-13)] = -13 := by unfold s_doorOf; rw [if_neg mb]; rfl
  have f3 : zv (s_isRevoked z (0 : Int32)) [(-13)] = -13 := by unfold s_isRevoked; rw [if_neg m0]; rfl
  have f4 : zv (s_isRevoked z (nI (z.1 3) + (1 : Int32))) [(-13)] = -13 := by unfold s_isRevoked; rw [if_neg mb]; rfl
  have last : jL_totals_244 z (nI (zasg z.1)) (lN (zall z.1)) (nI (z.1 3)) 1 (fun r => r = 1) 1 := by
    exact ⟨fun w => absurd w (by decide), fun _ => ⟨fun w => absurd w (by decide), fun _ => ⟨fun _ => ⟨fun _ => ⟨fun _ => ⟨fun _ => ⟨fun _ => ⟨fun _ => ⟨fun _ => rfl, fun w => absurd f4 w⟩, fun w => absurd f3 w⟩, fun w => absurd f2 w⟩, fun w => absurd f1 w⟩, fun w => absurd ((lg_cmp_eq _ _).mpr rfl) w⟩, fun w => absurd rfl w⟩, fun w => absurd rfl w⟩⟩⟩
  have share : jL_totals_217 z (nI (zasg z.1)) (lN (zall z.1)) (nI (zwr z.1)) (nI (zpn z.1)) (nI (z.1 3)) (fun r => r = 1) 1 := by
    refine ⟨fun _ => last, fun h => ?_⟩
    have h0 : zwr z.1 ≠ 0 := fun e => h (by rw [e]; rfl)
    have n := zf_nan (zwr z.1) (by omega) (by omega) (zpn z.1) (by omega)
    exact ⟨h0, n.1, ⟨fun _ => last, fun w => absurd (zf_self (zwr z.1) (by omega) (by omega) (zpn z.1) (by omega)) w⟩⟩
  intro v1 h1
  subst h1
  refine pL_tot15 hG ?_ (z.1 0) 0 9 (by omega) (by omega)
  intro v4 h4
  subst h4
  refine pL_tot129 hG ?_ (z.1 3) 1 9 (by omega) (by omega) (Nat.le_refl _)
  refine ⟨fun _ => share, fun h => ?_⟩
  have h0 : zgn z.1 ≠ 0 := fun e => h (by rw [e]; rfl)
  rw [l2d_i (by omega)]
  exact ⟨h0, zd_nan (zgn z.1) (by omega) (by omega) (zall z.1) (by omega), ⟨fun _ => share, fun w => absurd (zd_self (zgn z.1) (by omega) (by omega) (zall z.1) (by omega)) w⟩⟩
