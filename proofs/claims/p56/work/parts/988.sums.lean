/-! The pure part: the totals' sums; who can sit. -/
theorem pL_canSit {z : zG} (hG : GI z) {x k : Nat} (hx : x < z.1 1) (hk : k < z.1 0) {Q : Int32 → Prop} (h : Q (if zst z.1 k x then 1 else 0)) : wL_canSit (nI x) (nI k) z Q := by
  have hb := hG.1
  have h8 := rB_D hb
  have h6 := rB_E hb
  have r := hb.2.2.2.1 x k (by omega) (by omega)
  unfold wL_canSit
  rw [e_isNeutral hx hk h6 h8, e_isAssigned hx hk h6 h8]
  refine ⟨rfl, ?_⟩
  by_cases c : zneu z.1 x k
  · simp only [if_pos c]
    refine ⟨fun w => absurd w (by decide), fun _ => ⟨trivial, ?_⟩⟩
    by_cases d : zp z.1 x k 1 = 1
    · simp only [if_pos d]
      refine ⟨fun w => absurd w (by decide), fun _ => ?_⟩
      rw [if_neg (fun w => by have := w.2.2; omega)] at h
      exact h
    · simp only [if_neg d]
      refine ⟨fun _ => ?_, fun w => absurd rfl w⟩
      rw [if_pos ⟨hx, c, by omega⟩] at h
      exact h
  · simp only [if_neg c]
    refine ⟨fun _ => ?_, fun w => absurd rfl w⟩
    rw [if_neg (fun w => c w.2.1)] at h
    exact h
theorem pL_tot83 {z : zG} (hG : GI z) {k : Nat} (hk : k < z.1 0) {K : Int64 → Prop} {S : Nat} (hK : K (lN (S + zgs z.1 k))) : ∀ n x fuel : Nat, n < fuel → x + n = z.1 1 → lL_totals_83 z (nI k) K fuel (lN (S + zs (fun x => zp z.1 x k 2 - 1) x)) (nI x) := by
  have hb := hG.1
  have h8 := rB_D hb
  have h6 := rB_E hb
  intro n
  induction n with
  | zero =>
    intro x fuel hf hx
    obtain ⟨f, rfl⟩ : ∃ f, fuel = f + 1 := ⟨fuel - 1, by omega⟩
    rw [lL_totals_83.eq_2]
    have e : x = z.1 1 := by omega
    rw [e]
    exact ⟨fun _ => hK, fun w => absurd (nI_le (Nat.le_refl _) (by omega)) w⟩
  | succ n ih =>
    intro x fuel hf hx
    obtain ⟨f, rfl⟩ : ∃ f, fuel = f + 1 := ⟨fuel - 1, by omega⟩
    have hr := hb.2.2.2.1 x k (by omega) (by omega)
    have hN := ih (x + 1) f (by omega) (by omega)
    rw [lL_totals_83.eq_2]
    refine ⟨fun w => absurd w (nI_ge (by omega) (by omega)), fun _ v82 h82 v83 h83 v84 h84 => ?_⟩
    have e : v82 = nI (zp z.1 x k 2 - 1) := by
      rw [h82, v_gradeBy (by omega) hk h6 h8]
      by_cases c : zp z.1 x k 2 = 0
      · rw [if_pos c, c]; rfl
      · rw [if_neg c]
        by_cases d : (0 : Int32) < nI (zp z.1 x k 2 - 1)
        · rw [if_pos d]
        · rw [if_neg d]
          have : zp z.1 x k 2 - 1 = 0 := by
            rcases Nat.eq_zero_or_pos (zp z.1 x k 2 - 1) with h0 | h0
            · exact h0
            · exact absurd (show nI 0 < nI (zp z.1 x k 2 - 1) from nI_lt h0 (by omega)) d
          rw [this]; rfl
    subst h83; subst h84
    rw [e, nI_l (by omega), lN_add, nI_1]
    rw [zs_succ] at hN
    rw [Nat.add_assoc]
    exact hN
theorem pL_tot15 {z : zG} (hG : GI z) {K : Int32 → Int32 → Int64 → Int32 → Int32 → Prop} (hK : K (nI (zasg z.1)) (nI (zgn z.1)) (lN (zall z.1)) (nI (zwr z.1)) (nI (zpn z.1))) : ∀ n k fuel : Nat, n < fuel → k + n = z.1 0 → lL_totals_15 z K fuel (nI (zs (fun k => zcnt z.1 k) k)) (nI (zs (fun k => zgc z.1 k) k)) (lN (zs (fun k => zgs z.1 k) k)) (nI (zs (fun k => if 0 < zres z.1 k then 1 else 0) k)) (nI (zs (fun k => if zpas z.1 k then 1 else 0) k)) (nI k) := by
  have hb := hG.1
  have h8 := rB_D hb
  have h6 := rB_E hb
  intro n
  induction n with
  | zero =>
    intro k fuel hf hk
    obtain ⟨f, rfl⟩ : ∃ f, fuel = f + 1 := ⟨fuel - 1, by omega⟩
    rw [lL_totals_15.eq_2]
    have e : k = z.1 0 := by omega
    rw [e, zasg_D hb, zall_D hb]
    exact ⟨fun _ => hK, fun w => absurd (nI_le (Nat.le_refl _) (by omega)) w⟩
  | succ n ih =>
    intro k fuel hf hk
    obtain ⟨f, rfl⟩ : ∃ f, fuel = f + 1 := ⟨fuel - 1, by omega⟩
    have hk0 : k < z.1 0 := by omega
    have hN := ih (k + 1) f (by omega) (by omega)
    rw [zs_succ, zs_succ, zs_succ, zs_succ, zs_succ] at hN
    rw [lL_totals_15.eq_2]
    refine ⟨fun w => absurd w (nI_ge (by omega) (by omega)), fun _ => ?_⟩
    rw [e_examinersOf hk0 h8, e_gradesOf hk0 h8]
    refine ⟨rfl, fun v57 h57 => ⟨rfl, fun v59 h59 => pL_median hG hk0 ?_⟩⟩
    subst h57; subst h59
    have key : ∀ t : Int32, nI (zs (fun k => if 0 < zres z.1 k then 1 else 0) k) + t = nI (zs (fun k => if 0 < zres z.1 k then 1 else 0) k + if 0 < zres z.1 k then 1 else 0) → jL_totals_58 z (lN (zs (fun k => zgs z.1 k) k)) (nI (zs (fun k => if 0 < zres z.1 k then 1 else 0) k)) (nI (zs (fun k => if zpas z.1 k then 1 else 0) k)) (nI k) (nI (zs (fun k => zcnt z.1 k) k) + nI (zcnt z.1 k)) (nI (zs (fun k => zgc z.1 k) k) + nI (zgc z.1 k)) (fun x1_15 x2_15 x3_15 x5_15 x6_15 x7_15 => lL_totals_15 z K f x1_15 x2_15 x3_15 x5_15 x6_15 x7_15) t := by
      intro t ht v65 h65
      subst h65
      rw [ht, nI_add, nI_add, e_passes hk0 h8]
      have fin : ∀ t2 : Int32, nI (zs (fun k => if zpas z.1 k then 1 else 0) k) + t2 = nI (zs (fun k => if zpas z.1 k then 1 else 0) k + if zpas z.1 k then 1 else 0) → jL_totals_77 z (lN (zs (fun k => zgs z.1 k) k)) (nI (zs (fun k => if zpas z.1 k then 1 else 0) k)) (nI k) (nI (zs (fun k => zcnt z.1 k) k + zcnt z.1 k)) (nI (zs (fun k => zgc z.1 k) k + zgc z.1 k)) (nI (zs (fun k => if 0 < zres z.1 k then 1 else 0) k + if 0 < zres z.1 k then 1 else 0)) (fun x1_15 x2_15 x3_15 x5_15 x6_15 x7_15 => lL_totals_15 z K f x1_15 x2_15 x3_15 x5_15 x6_15 x7_15) t2 := by
        intro t2 ht2 v71 h71
        subst h71
        rw [ht2]
        refine pL_tot83 hG hk0 (S := zs (fun k => zgs z.1 k) k) (fun v76 h76 => ?_) (z.1 1) 0 7 (by omega) (by omega)
        subst h76
        rw [nI_1]
        exact hN
      refine ⟨rfl, ?_⟩
      by_cases c : zpas z.1 k
      · simp only [if_pos c]
        exact ⟨fun w => absurd w (by decide), fun _ => fin 1 (by rw [if_pos c]; exact nI_1 _)⟩
      · simp only [if_neg c]
        exact ⟨fun _ => fin 0 (by rw [if_neg c]; exact Int32.add_zero _), fun w => absurd rfl w⟩
    by_cases c : zres z.1 k = 0
    · rw [if_pos c]
      exact ⟨fun _ => key 0 (by rw [if_neg (by omega)]; exact Int32.add_zero _), fun w => absurd (by decide) w⟩
    · rw [if_neg c]
      have hz : zres z.1 k < 1000 := by
        have := zres_le hb (k := k) (by omega)
        omega
      exact ⟨fun w => absurd w (nI_pos (by omega)), fun _ => key 1 (by rw [if_pos (by omega)]; exact nI_1 _)⟩
