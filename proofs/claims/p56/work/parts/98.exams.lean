/-! The pure part: examiners. -/
theorem zload_eA {a : Nat → Nat} (hb : rB a) {x : Nat} (hx : x < 6) : zload a x = zs (zeA a x) (a 0) := by
  have h8 := rB_D hb
  unfold zload
  rw [zs_ext (m := a 0) h8 (fun k hk hk8 => ?_)]
  · refine zs_cong (fun k hk => ?_)
    have h := hb.2.2.2.1 x k hx (by omega)
    unfold zeA
    split <;> omega
  · have h := hb.2.2.2.1 x k hx hk8
    by_cases e : zp a x k 1 = 1
    · have := (h.2.2.2.2 e).2.1; omega
    · omega
theorem zpr_p {a : Nat → Nat} (hb : rB a) {x k : Nat} (hx : x < 6) (hk : k < 8) : ∀ n, n ≤ a 0 → zp (zpr a n) x k 1 = zp a x k 1 + (if k < n ∧ zpe a k = x + 1 then 1 else 0)
  | 0, _ => by rw [if_neg (by omega)]; rfl
  | n + 1, hn => by
    have ih := zpr_p hb hx hk n (by omega)
    have h8 := rB_D hb
    by_cases q : zbp (zG0 a) (zC0 a) (a 0) n = 0
    · rw [zpr_0 q, ih]
      have q' : zpe a n = 0 := q
      by_cases e : k = n
      · subst e; rw [if_neg (by omega), if_neg (by omega)]
      · by_cases e2 : k < n ∧ zpe a k = x + 1
        · rw [if_pos e2, if_pos ⟨by omega, e2.2⟩]
        · rw [if_neg e2, if_neg (fun z => e2 ⟨by omega, z.2⟩)]
    · obtain ⟨x', hx', e, wG, wc, wl⟩ := zbp_s q
      have e' : zpe a n = x' + 1 := e
      rw [zpr_s e, zp_p _ _ hk (by omega) (by decide) (by decide)]
      by_cases c : x = x' ∧ k = n
      · obtain ⟨rfl, rfl⟩ := c
        rw [if_pos ⟨rfl, rfl, rfl⟩, if_pos ⟨by omega, e'⟩, wG.2.2.2]
      · rw [if_neg (fun z => c ⟨z.1, z.2.1⟩), ih]
        by_cases ek : k = n
        · subst ek; rw [if_neg (by omega), if_neg (fun z => c ⟨by omega, rfl⟩)]
        · by_cases e2 : k < n ∧ zpe a k = x + 1
          · rw [if_pos e2, if_pos ⟨by omega, e2.2⟩]
          · rw [if_neg e2, if_neg (fun z => e2 ⟨by omega, z.2⟩)]
theorem zAP_le {a : Nat → Nat} (hb : rB a) {x : Nat} (hx : x < 6) : zs (zeA a x) (a 0) + zs (zeP a x) (a 0) ≤ 4 := by
  have h8 := rB_D hb
  have hp := zpi_k hb (a 0) (Nat.le_refl _)
  have h1 := hp.1.2.2.2.2.2.2.1 x hx
  have h2 : zx (zpr a (a 0)) x 2 = zx a x 2 := hp.2.1 _ (Or.inl (by omega))
  have h3 := (hb.2.2.1 x hx).2.2.1
  rw [← zs_add]
  have h4 : zs (fun k => zeA a x k + zeP a x k) (a 0) ≤ zs (fun k => zp (zpr a (a 0)) x k 1) (a 0) := zs_le (fun k hk => by
    have hr := hb.2.2.2.1 x k hx (by omega)
    rw [zpr_p hb hx (by omega) (a 0) (Nat.le_refl _)]
    unfold zeA zeP
    by_cases e : zpe a k = x + 1
    · simp only [if_pos e, if_pos (show k < a 0 ∧ zpe a k = x + 1 from ⟨hk, e⟩)]; split <;> omega
    · simp only [if_neg e, if_neg (show ¬ (k < a 0 ∧ zpe a k = x + 1) from fun z => e z.2)]; split <;> omega)
  have h5 := zs_mono (fun k => zp (zpr a (a 0)) x k 1) (m := a 0) (n := 8) h8
  omega
theorem zP_all {a : Nat → Nat} (hb : rB a) : zs (fun x => zs (zeP a x) (a 0)) (a 1) = zsz a := by
  have h8 := rB_D hb
  unfold zsz
  rw [← zpl_all (G := zG0 a) (c := zC0 a) h8]
  rw [show (fun x => zs (zeP a x) (a 0)) = (fun x => zs (fun k => zeP a x k) (a 0)) from rfl, zs_swap]
  refine zs_cong (fun k hk => ?_)
  by_cases q : zbp (zG0 a) (zC0 a) (a 0) k = 0
  · rw [if_pos q]
    refine zs_zero (fun x hx => ?_)
    have q' : zpe a k = 0 := q
    unfold zeP
    rw [if_neg (by omega)]
  · rw [if_neg q]
    obtain ⟨x', hx', e, wG, wc, wl⟩ := zbp_s q
    have e' : zpe a k = x' + 1 := e
    refine Eq.trans (zs_cong (fun x hx => ?_)) (zs_at x' (n := a 1) wG.1)
    unfold zeP
    by_cases c : x = x'
    · rw [if_pos c, if_pos (by omega)]
    · rw [if_neg c, if_neg (by omega)]
theorem zok_b {n : Nat} (h : n < 1000) : ¬ zok (nI n) n := by
  show ¬ (0 ≤ (nI n).toInt ∧ (nI n).toInt < (n : Int))
  rw [nI_toInt (by omega)]; omega
theorem zok_m (n : Nat) : ¬ zok (-1) n := by
  show ¬ (0 ≤ (-1 : Int32).toInt ∧ _)
  intro h
  exact absurd h.1 (by decide)
theorem pL_ex9 {z : zG} (hG : GI z) (hJ : zJ z.1) {Q : Int32 → Prop} {K : Int32 → Prop} (hK : K (nI (zsz z.1))) : ∀ n x fuel : Nat, n < fuel → x + n = z.1 1 → lL_examiners_9 z (nI (z.1 1)) Q K fuel (nI (zs (fun x => zs (zeP z.1 x) (z.1 0)) x)) (nI x) := by
  have hb := hG.1
  have h8 := rB_D hb
  have h6 := rB_E hb
  intro n
  induction n with
  | zero =>
    intro x fuel hf hx
    obtain ⟨f, rfl⟩ : ∃ f, fuel = f + 1 := ⟨fuel - 1, by omega⟩
    rw [lL_examiners_9.eq_2]
    have e : x = z.1 1 := by omega
    rw [e, zP_all hb]
    exact ⟨fun _ => hK, fun w => absurd (nI_le (Nat.le_refl _) (by omega)) w⟩
  | succ n ih =>
    intro x fuel hf hx
    obtain ⟨f, rfl⟩ : ∃ f, fuel = f + 1 := ⟨fuel - 1, by omega⟩
    have hx0 : x < z.1 1 := by omega
    have hN := ih (x + 1) f (by omega) (by omega)
    have hle := zAP_le hb (x := x) (by omega)
    rw [lL_examiners_9.eq_2]
    refine ⟨fun w => absurd w (nI_ge (by omega) (by omega)), fun _ => ?_⟩
    refine pL_ex23 hG hJ hx0 (fun v24 h24 => ⟨fun _ => ⟨fun _ v27 h27 => ?_, fun w => absurd ?_ w⟩, fun w => absurd ?_ w⟩) (z.1 0) 0 9 (by omega) (by omega)
    · subst h24; subst h27
      rw [nI_add, nI_1]
      exact hN
    · rw [nI_add]
      show nI _ ≤ nI 4
      exact nI_le hle (by decide)
    · rw [e_load hx0 (by omega), ← zload_eA hb (by omega)]; rfl
theorem pL_examiners {z : zG} (hG : GI z) (hJ : zJ z.1) : wL_examiners z (fun r => r = 1) := by
  have hb := hG.1
  have h8 := rB_D hb
  have h6 := rB_E hb
  have b1 := zok_b (n := z.1 1) (by omega)
  have b0 := zok_b (n := z.1 0) (by omega)
  have m0 := zok_m (z.1 0)
  intro v1 hv1
  subst hv1
  refine pL_ex9 hG hJ ?_ (z.1 1) 0 7 (by omega) (by omega)
  have f1 : zv (s_frameOfExaminer z (nI (z.1 1))) [(-11)] = -11 := by unfold s_frameOfExaminer; rw [if_neg b1]; rfl
  have f2 : zv (s_load z (nI (z.1 1))) [(-11)] = -11 := by unfold s_load; rw [if_neg b1]; rfl
  have f3 : zv (s_isNeutral z (nI (z.1 1)) (0 : Int32)) [(-11)] = -11 := by unfold s_isNeutral; rw [if_neg (fun w => b1 w.1)]; rfl
  have f4 : zv (s_isNeutral z (0 : Int32) (-1 : Int32)) [(-11)] = -11 := by unfold s_isNeutral; rw [if_neg (fun w => m0 w.2)]; rfl
  have f5 : zv (s_mayJudge z (nI (z.1 1)) (0 : Int32)) [(-11)] = -11 := by unfold s_mayJudge; rw [if_neg (fun w => b1 w.1)]; rfl
  have f6 : zv (s_isAssigned z (0 : Int32) (nI (z.1 0))) [(-11)] = -11 := by unfold s_isAssigned; rw [if_neg (fun w => b0 w.2)]; rfl
  have f7 : zv (s_gradeBy z (nI (z.1 1)) (0 : Int32)) [(-11), (-13)] = -11 := by unfold s_gradeBy; rw [if_neg (fun w => b1 w.1)]; rfl
  have f8 : zv (s_planned z (nI (z.1 0))) [(-11), (-13)] = -11 := by unfold s_planned; rw [if_neg b0]; rfl
  have f9 : zv (s_planned z (-1 : Int32)) [(-11), (-13)] = -11 := by unfold s_planned; rw [if_neg m0]; rfl
  exact ⟨fun _ => ⟨fun _ => ⟨fun _ => ⟨fun _ => ⟨fun _ => ⟨fun _ => ⟨fun _ => ⟨fun _ => ⟨fun _ => ⟨fun _ => ⟨fun _ => rfl, fun w => absurd f9 w⟩, fun w => absurd f8 w⟩, fun w => absurd f7 w⟩, fun w => absurd f6 w⟩, fun w => absurd f5 w⟩, fun w => absurd f4 w⟩, fun w => absurd f3 w⟩, fun w => absurd f2 w⟩, fun w => absurd f1 w⟩, fun w => absurd rfl w⟩, fun w => absurd rfl w⟩
