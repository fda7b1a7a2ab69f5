/-! The pure part: the register's entries. -/
theorem pL_tot139 {z : zG} (hG : GI z) {e : Nat} (he : 1 ≤ e) (heN : e ≤ z.1 3) {Q : Int32 → Prop} {K : Prop} (hK : K) : ∀ n j fuel : Nat, n < fuel → j + n = e → 1 ≤ j → lL_totals_139 z (nI e) Q K fuel (nI j) := by
  have hb := hG.1
  have h8 := rB_N hb
  intro n
  induction n with
  | zero =>
    intro j fuel hf hj h1
    obtain ⟨f, rfl⟩ : ∃ f, fuel = f + 1 := ⟨fuel - 1, by omega⟩
    rw [lL_totals_139.eq_2]
    exact ⟨fun _ => hK, fun w => absurd (nI_le (by omega) (by omega)) w⟩
  | succ n ih =>
    intro j fuel hf hj h1
    obtain ⟨f, rfl⟩ : ∃ f, fuel = f + 1 := ⟨fuel - 1, by omega⟩
    have r1 := hb.2.2.2.2.1 (j - 1) (by omega)
    have r2 := hb.2.2.2.2.1 (e - 1) (by omega)
    rw [lL_totals_139.eq_2]
    refine ⟨fun w => absurd w (nI_ge (by omega) (by omega)), fun _ => ?_⟩
    rw [e_doorOf h1 (by omega) h8, e_doorOf he heN h8]
    refine ⟨fun w => absurd w ?_, fun _ v h => ?_⟩
    · show ¬ nI (ze z.1 (j - 1) 0) = nI (ze z.1 (e - 1) 0)
      rw [nI_eq (by omega) (by omega)]
      intro c
      have a1 := (r1.2.2.2 (by omega)).2
      have a2 := (r2.2.2.2 (by omega)).2
      rw [c] at a1
      omega
    · subst h
      rw [nI_1]
      exact ih (j + 1) f (by omega) (by omega) (by omega)
theorem pL_tot129 {z : zG} (hG : GI z) {Q : Int32 → Prop} {K : Prop} (hK : K) : ∀ n e fuel : Nat, n < fuel → e + n = z.1 3 + 1 → 1 ≤ e → lL_totals_129 z (nI (z.1 3)) Q K fuel (nI e) := by
  have hb := hG.1
  have h8 := rB_N hb
  intro n
  induction n with
  | zero =>
    intro e fuel hf he h1
    obtain ⟨f, rfl⟩ : ∃ f, fuel = f + 1 := ⟨fuel - 1, by omega⟩
    rw [lL_totals_129.eq_2]
    exact ⟨fun _ => hK, fun w => absurd (nI_lt (by omega) (by omega)) w⟩
  | succ n ih =>
    intro e fuel hf he h1
    obtain ⟨f, rfl⟩ : ∃ f, fuel = f + 1 := ⟨fuel - 1, by omega⟩
    have r2 := hb.2.2.2.2.1 (e - 1) (by omega)
    rw [lL_totals_129.eq_2]
    refine ⟨fun w => absurd w (nI_nlt (by omega) (by omega)), fun _ => ?_⟩
    refine pL_tot139 hG h1 (by omega) ?_ (e - 1) 1 9 (by omega) (by omega) (Nat.le_refl _)
    rw [e_doorOf h1 (by omega) h8, e_isRevoked h1 (by omega) h8]
    refine ⟨fun w => absurd w ?_, fun _ => ⟨fun _ v h => ?_, fun w => absurd ?_ w⟩⟩
    · show ¬ nI (ze z.1 (e - 1) 0) < 0
      exact nI_pos (by omega)
    · subst h
      rw [nI_1]
      exact ih (e + 1) f (by omega) (by omega) (by omega)
    · show (0 : Int32) ≤ nI (if ze z.1 (e - 1) 1 = 1 then 1 else 0)
      exact nI_pos' (by split <;> decide)
