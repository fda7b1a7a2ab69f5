/-! The pure part: the check of examiners. -/
theorem pj116 {z : zG} {x k : Nat} {A P F v41 v50 mj ne gb : Int32} {ex : Nat} {N : Int32 → Int32 → Int32 → Prop} {Q : Int32 → Prop} (h1 : zv (s_mayJudge z (nI x) (nI k)) [(-11)] = mj) (h2 : zv (s_isNeutral z (nI x) (nI k)) [(-11)] = ne) (h3 : zv (s_gradeBy z (nI x) (nI k)) [(-11), (-13)] = gb) (h4 : (s_examinersOf z (nI k)).1 = 0) (h5 : nI (s_examinersOf z (nI k)).2.1 = nI ex) (cA : A = 0 ∨ A = 1) (cP : P = 0 ∨ P = 1) (cF : F = 0 ∨ F = 1) (cm : mj = 0 ∨ mj = 1) (cn : ne = 0 ∨ ne = 1) (c1 : F = 1 → ne = 0) (c2 : mj = 1 → ne = 1) (c3 : A = 1 → mj = 1) (c4 : P = 1 → A = 0 ∧ mj = 1 ∧ ¬ nI ex = (3 : Int32)) (c5 : A = 0 → gb = -13) (hN : N v41 v50 (nI k + 1)) : jL_examiners_116 z (nI x) (nI k) A v41 P v50 Q N F := by
  unfold jL_examiners_116
  rw [h1, h2, h3, h5]
  have hN' : ∀ v : Int32, v = nI k + 1 → N v41 v50 v := fun v h => by rw [h]; exact hN
  clear h1 h2 h3 h5
  rcases cA with rfl | rfl
  · have c5 := c5 rfl
    subst c5
    rcases cP with rfl | rfl
    · rcases cF with rfl | rfl
      · rcases cm with rfl | rfl
        · exact ⟨fun _ => ⟨fun w => absurd w (by decide), fun _ => ⟨fun _ => ⟨fun _ => ⟨fun _ => ⟨fun _ => hN', fun w => absurd rfl w⟩, fun w => absurd rfl w⟩, fun w => absurd rfl w⟩, fun w => absurd rfl w⟩⟩, fun w => absurd rfl w⟩
        · have c2 := c2 rfl
          subst c2
          exact ⟨fun _ => ⟨fun _ => ⟨fun w => absurd w (by decide), fun _ => ⟨fun _ => ⟨fun _ => ⟨fun _ => ⟨fun _ => hN', fun w => absurd rfl w⟩, fun w => absurd rfl w⟩, fun w => absurd rfl w⟩, fun w => absurd rfl w⟩⟩, fun w => absurd rfl w⟩, fun w => absurd rfl w⟩
      · have c1 := c1 rfl
        subst c1
        rcases cm with rfl | rfl
        · exact ⟨fun w => absurd w (by decide), fun _ => ⟨fun w => absurd w (by decide), fun _ => ⟨fun w => absurd w (by decide), fun _ => ⟨fun _ => ⟨fun _ => ⟨fun _ => ⟨fun _ => hN', fun w => absurd rfl w⟩, fun w => absurd rfl w⟩, fun w => absurd rfl w⟩, fun w => absurd rfl w⟩⟩⟩⟩
        · exact absurd (c2 rfl) (by decide)
    · obtain ⟨-, c6, c7⟩ := c4 rfl
      subst c6
      have c2 := c2 rfl
      subst c2
      rcases cF with rfl | rfl
      · exact ⟨fun _ => ⟨fun _ => ⟨fun w => absurd w (by decide), fun _ => ⟨fun _ => ⟨fun w => absurd w (by decide), fun _ => ⟨fun _ => ⟨fun w => absurd w (by decide), fun _ => ⟨h4, fun w => absurd w c7, fun _ => ⟨fun _ => ⟨fun _ => hN', fun w => absurd rfl w⟩, fun w => absurd rfl w⟩⟩⟩, fun w => absurd rfl w⟩⟩, fun w => absurd rfl w⟩⟩, fun w => absurd rfl w⟩, fun w => absurd rfl w⟩
      · exact absurd (c1 rfl) (by decide)
  · have c3 := c3 rfl
    subst c3
    have c2 := c2 rfl
    subst c2
    rcases cP with rfl | rfl
    · rcases cF with rfl | rfl
      · exact ⟨fun _ => ⟨fun _ => ⟨fun w => absurd w (by decide), fun _ => ⟨fun w => absurd w (by decide), fun _ => ⟨fun w => absurd w (by decide), fun _ => ⟨fun _ => ⟨fun w => absurd w (by decide), fun _ => hN'⟩, fun w => absurd rfl w⟩⟩⟩⟩, fun w => absurd rfl w⟩, fun w => absurd rfl w⟩
      · exact absurd (c1 rfl) (by decide)
    · exact absurd (c4 rfl).1 (by decide)
