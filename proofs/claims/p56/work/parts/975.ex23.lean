/-! The pure part: the examiners' loops. -/
theorem v_planned {z : zG} {k : Nat} (h : k < z.1 0) (h8 : z.1 0 ≤ 8) : zv (s_planned z (nI k)) [(-11), (-13)] = if zpe z.1 k = 0 then -13 else nI (zpe z.1 k - 1) := by
  have e : s_planned z (nI k) = if zpe z.1 k = 0 then (2, 0, z) else (0, zpe z.1 k - 1, z) := by
    unfold s_planned; rw [if_pos (zok_n h (by omega)), nI_clamp (by omega)]
  rw [e]
  by_cases hz : zpe z.1 k = 0
  · rw [if_pos hz, if_pos hz]; rfl
  · rw [if_neg hz, if_neg hz]; rfl
theorem v_planned_x {z : zG} {k x : Nat} (h : k < z.1 0) (h8 : z.1 0 ≤ 8) (hx : x < 6) : zv (s_planned z (nI k)) [(-11), (-13)] = nI x ↔ zpe z.1 k = x + 1 := by
  have h6 : zpe z.1 k ≤ 6 := zbp_6
  rw [v_planned h h8]
  by_cases hz : zpe z.1 k = 0
  · rw [if_pos hz, hz]
    constructor
    · intro e
      have h9 : ¬ nI x < 0 := nI_pos (by omega)
      rw [← e] at h9
      exact absurd (by decide) h9
    · intro e; omega
  · rw [if_neg hz, nI_eq (by omega) (by omega)]
    omega
theorem zpe_G {a : Nat → Nat} {k x : Nat} (h : zpe a k = x + 1) : zG0 a x k := by
  have h0 : zbp (zG0 a) (zC0 a) (a 0) k ≠ 0 := by
    have : zbp (zG0 a) (zC0 a) (a 0) k = x + 1 := h
    omega
  obtain ⟨x', hx, e, wG, wc, wl⟩ := zbp_s h0
  have h1 : zbp (zG0 a) (zC0 a) (a 0) k = x + 1 := h
  have : x' = x := by omega
  rw [← this]; exact wG
theorem pj62 {z : zG} {x k m p An Pn : Nat} {A : Int32} {N : Int32 → Int32 → Int32 → Prop} {Q : Int32 → Prop} (hA : (A = 0 ∧ An = 0) ∨ (A = 1 ∧ An = 1)) (hP : (zv (s_planned z (nI k)) [(-11), (-13)] = nI x ∧ Pn = 1) ∨ (¬ zv (s_planned z (nI k)) [(-11), (-13)] = nI x ∧ Pn = 0)) (hfin : ∀ P F : Int32, ((P = 0 ∧ Pn = 0) ∨ (P = 1 ∧ Pn = 1)) → ((F = 1 ∧ zv (s_frameOfExaminer z (nI x)) [(-11)] = zv (s_frameOfDoor z (nI k)) [(-11)]) ∨ F = 0) → jL_examiners_116 z (nI x) (nI k) A (nI (m + An)) P (nI (p + Pn)) Q N F) : jL_examiners_62 z (nI x) (nI m) (nI p) (nI k) A Q N A := by
  intro v41 h41
  subst h41
  have e1 : nI m + A = nI (m + An) := by
    rcases hA with ⟨rfl, rfl⟩ | ⟨rfl, rfl⟩
    · exact Int32.add_zero _
    · exact nI_1 _
  rw [e1]
  have key : ∀ P : Int32, ((P = 0 ∧ Pn = 0) ∨ (P = 1 ∧ Pn = 1)) → jL_examiners_94 z (nI x) (nI p) (nI k) A (nI (m + An)) P Q N P := by
    intro P hP v50 h50
    subst h50
    have e2 : nI p + P = nI (p + Pn) := by
      rcases hP with ⟨rfl, rfl⟩ | ⟨rfl, rfl⟩
      · exact Int32.add_zero _
      · exact nI_1 _
    rw [e2]
    exact ⟨fun w => hfin P 1 hP (Or.inl ⟨rfl, w⟩), fun _ => hfin P 0 hP (Or.inr rfl)⟩
  rcases hP with ⟨h1, h2⟩ | ⟨h1, h2⟩
  · exact ⟨fun _ => ⟨fun w => absurd w (by decide), fun _ => key 1 (Or.inr ⟨rfl, h2⟩)⟩, fun w => absurd h1 w⟩
  · exact ⟨fun w => absurd w h1, fun _ => ⟨fun _ => key 0 (Or.inl ⟨rfl, h2⟩), fun w => absurd rfl w⟩⟩
def zeA (a : Nat → Nat) (x k : Nat) : Nat := if zp a x k 1 = 1 then 1 else 0
noncomputable def zeP (a : Nat → Nat) (x k : Nat) : Nat := if zpe a k = x + 1 then 1 else 0
theorem pL_ex23 {z : zG} (hG : GI z) (hJ : zJ z.1) {x : Nat} (hx : x < z.1 1) {Q : Int32 → Prop} {K : Int32 → Int32 → Prop} (hK : K (nI (zs (zeA z.1 x) (z.1 0))) (nI (zs (zeP z.1 x) (z.1 0)))) : ∀ n k fuel : Nat, n < fuel → k + n = z.1 0 → lL_examiners_23 z (nI x) Q K fuel (nI (zs (zeA z.1 x) k)) (nI (zs (zeP z.1 x) k)) (nI k) := by
  have hb := hG.1
  have h8 := rB_D hb
  have h6 := rB_E hb
  intro n
  induction n with
  | zero =>
    intro k fuel hf hk
    obtain ⟨f, rfl⟩ : ∃ f, fuel = f + 1 := ⟨fuel - 1, by omega⟩
    rw [lL_examiners_23.eq_2]
    have e : k = z.1 0 := by omega
    rw [e]
    exact ⟨fun _ => hK, fun w => absurd (nI_le (Nat.le_refl _) (by omega)) w⟩
  | succ n ih =>
    intro k fuel hf hk
    obtain ⟨f, rfl⟩ : ∃ f, fuel = f + 1 := ⟨fuel - 1, by omega⟩
    have hk0 : k < z.1 0 := by omega
    have hN := ih (k + 1) f (by omega) (by omega)
    have e1 := e_isAssigned (z := z) hx hk0 h6 h8
    have e2 := e_isNeutral (z := z) hx hk0 h6 h8
    have e3 := e_mayJudge (z := z) hx hk0 h6 h8
    have e4 := e_examinersOf (z := z) hk0 h8
    have e5 := v_gradeBy (z := z) hx hk0 h6 h8
    have e6 := e_frameOfExaminer (z := z) hx (by omega)
    have e7 := e_frameOfDoor (z := z) hk0 h8
    have hpl := v_planned_x (z := z) hk0 h8 (show x < 6 by omega)
    have r4 := hb.2.2.2.1 x k (by omega) (by omega)
    have q1 : zv (s_mayJudge z (nI x) (nI k)) [(-11)] = nI (if zjud z.1 x k then 1 else 0) := by rw [e3]; rfl
    have q2 : zv (s_isNeutral z (nI x) (nI k)) [(-11)] = nI (if zneu z.1 x k then 1 else 0) := by rw [e2]; rfl
    have fin : ∀ A P F : Int32, ((A = 0 ∧ zeA z.1 x k = 0) ∨ (A = 1 ∧ zeA z.1 x k = 1)) → ((P = 0 ∧ zeP z.1 x k = 0) ∨ (P = 1 ∧ zeP z.1 x k = 1)) → ((F = 1 ∧ zv (s_frameOfExaminer z (nI x)) [(-11)] = zv (s_frameOfDoor z (nI k)) [(-11)]) ∨ F = 0) → jL_examiners_116 z (nI x) (nI k) A (nI (zs (zeA z.1 x) k + zeA z.1 x k)) P (nI (zs (zeP z.1 x) k + zeP z.1 x k)) Q (fun x4_23 x5_23 x6_23 => lL_examiners_23 z (nI x) Q K f x4_23 x5_23 x6_23) F := by
      intro A P F hA hP hF
      refine pj116 (ex := zcnt z.1 k) q1 q2 e5 (by rw [e4]) (by rw [e4]) (hA.elim (fun h => Or.inl h.1) (fun h => Or.inr h.1)) (hP.elim (fun h => Or.inl h.1) (fun h => Or.inr h.1)) (hF.elim (fun h => Or.inr h.1) Or.inl) ?_ ?_ ?_ ?_ ?_ ?_ ?_ ?_
      · split
        · exact Or.inr rfl
        · exact Or.inl rfl
      · split
        · exact Or.inr rfl
        · exact Or.inl rfl
      · intro hf1
        rcases hF with ⟨-, hF⟩ | hF
        · rw [e6, e7] at hF
          have hF : nI (zx z.1 x 0) = nI (zd z.1 k 0) := hF
          have b1 := (hb.2.2.1 x (by omega)).1
          have b2 := (hb.2.1 k (by omega)).1
          rw [nI_eq (by omega) (by omega)] at hF
          rw [if_neg (fun w => w.1 hF)]; rfl
        · rw [hF] at hf1; exact absurd hf1 (by decide)
      · intro hm
        by_cases hj : zjud z.1 x k
        · rw [if_pos hj.1]; rfl
        · rw [if_neg hj] at hm; exact absurd hm (by decide)
      · intro hA1
        have hz : zp z.1 x k 1 = 1 := by
          rcases hA with ⟨h, -⟩ | ⟨-, h⟩
          · rw [h] at hA1; exact absurd hA1 (by decide)
          · unfold zeA at h
            by_cases hz : zp z.1 x k 1 = 1
            · exact hz
            · rw [if_neg hz] at h; exact absurd h (by decide)
        rw [if_pos (hJ x k (by omega) (by omega) hz)]; rfl
      · intro hP1
        have hz : zpe z.1 k = x + 1 := by
          rcases hP with ⟨h, -⟩ | ⟨-, h⟩
          · rw [h] at hP1; exact absurd hP1 (by decide)
          · unfold zeP at h
            by_cases hz : zpe z.1 k = x + 1
            · exact hz
            · rw [if_neg hz] at h; exact absurd h (by decide)
        obtain ⟨g1, g2, g3, g4⟩ := zpe_G hz
        refine ⟨?_, by rw [if_pos g3]; rfl, ?_⟩
        · rcases hA with ⟨h, -⟩ | ⟨-, h⟩
          · exact h
          · unfold zeA at h
            rw [if_neg (by omega)] at h; exact absurd h (by decide)
        · show ¬ nI (zcnt z.1 k) = nI 3
          rw [nI_eq (by omega) (by decide)]; omega
      · intro hA0
        have hz : ¬ zp z.1 x k 1 = 1 := by
          rcases hA with ⟨-, h⟩ | ⟨h, -⟩
          · intro hz
            unfold zeA at h
            rw [if_pos hz] at h; exact absurd h (by decide)
          · rw [h] at hA0; exact absurd hA0 (by decide)
        rw [if_pos (r4.2.2.2.1 (by omega))]
      · rw [nI_1]; exact hN
    have hP : (zv (s_planned z (nI k)) [(-11), (-13)] = nI x ∧ zeP z.1 x k = 1) ∨ (¬ zv (s_planned z (nI k)) [(-11), (-13)] = nI x ∧ zeP z.1 x k = 0) := by
      by_cases hz : zpe z.1 k = x + 1
      · exact Or.inl ⟨hpl.mpr hz, if_pos hz⟩
      · exact Or.inr ⟨fun w => hz (hpl.mp w), if_neg hz⟩
    rw [lL_examiners_23.eq_2]
    refine ⟨fun w => absurd w (nI_ge (by omega) (by omega)), fun _ => ?_⟩
    by_cases hA : zp z.1 x k 1 = 1
    · have hA' : ((1 : Int32) = 0 ∧ zeA z.1 x k = 0) ∨ ((1 : Int32) = 1 ∧ zeA z.1 x k = 1) := Or.inr ⟨rfl, if_pos hA⟩
      exact ⟨fun _ => ⟨fun w => absurd w (by decide), fun _ => pj62 hA' hP (fun P F h1 h2 => fin 1 P F hA' h1 h2)⟩, fun w => absurd (by rw [e1, if_pos hA]; rfl) w⟩
    · have hA' : ((0 : Int32) = 0 ∧ zeA z.1 x k = 0) ∨ ((0 : Int32) = 1 ∧ zeA z.1 x k = 1) := Or.inl ⟨rfl, if_neg hA⟩
      exact ⟨fun w => absurd w (by rw [e1, if_neg hA]; show ¬ (0 : Int32) = 1; decide), fun _ => ⟨fun _ => pj62 hA' hP (fun P F h1 h2 => fin 0 P F hA' h1 h2), fun w => absurd rfl w⟩⟩
