/-! The pure part: what a change does; the sum speaks of the present alone. -/
def zmv (z : zG) (r : Int32) (z' : zG) : Prop := GI z' ∧ z'.2.2.2.1.1 = 0 ∧ ((r < 0 ∧ z'.1 = z.1 ∧ z'.2.1 = z.2.1) ∨ (¬ r < 0 ∧ z'.2.1 = (zpush z z'.1).2.1))
theorem zmv_step {z : zG} (hG : GI z) (ht : z.2.2.2.1.1 = 0) {o : Nat × Nat × (Nat → Nat)} {l : List Int32} (hc : o.1 ≤ l.length ∧ (o.1 ≠ 0 → o.2.2 = z.1)) (hv : o.2.1 < 2 ^ 31) (hB : rB o.2.2) (hneg : ∀ x ∈ l, x < 0) : zmv z (zv (zstep z o) l) (zstep z o).2.2 := by
  by_cases h : o.1 = 0
  · rw [zv_0 (s := zstep z o) h]
    refine ⟨GI_chg hG hB, ?_, Or.inr ⟨nI_pos hv, ?_⟩⟩
    · show (zchg z o).2.2.2.1.1 = 0
      unfold zchg; rw [if_pos h]; exact ht
    · show (zchg z o).2.1 = (zpush z (zchg z o).1).2.1
      unfold zchg; rw [if_pos h]; rfl
  · have h1 : zchg z o = z := by unfold zchg; rw [if_neg h]
    refine ⟨by show GI (zchg z o); rw [h1]; exact hG, by show (zchg z o).2.2.2.1.1 = 0; rw [h1]; exact ht, Or.inl ⟨?_, by show (zchg z o).1 = _; rw [h1], by show (zchg z o).2.1 = _; rw [h1]⟩⟩
    rw [zv_c (s := zstep z o) (k := o.1) rfl h]
    have hk : o.1 - 1 < l.length := by omega
    rw [show l.getD (o.1 - 1) 0 = l[o.1 - 1] by simp [List.getD, hk]]
    exact hneg _ (List.getElem_mem hk)
theorem zmv_plan {z : zG} (hG : GI z) (ht : z.2.2.2.1.1 = 0) : zmv z (nI (zstep z (oPlan z.1)).2.1) (zstep z (oPlan z.1)).2.2 := by
  refine ⟨GI_chg hG (oPlan_B hG.1), ?_, Or.inr ⟨nI_pos (oPlan_v z.1), ?_⟩⟩
  · show (zchg z (oPlan z.1)).2.2.2.1.1 = 0
    unfold zchg; rw [if_pos (show (oPlan z.1).1 = 0 from rfl)]; exact ht
  · show (zchg z (oPlan z.1)).2.1 = (zpush z (zchg z (oPlan z.1)).1).2.1
    unfold zchg; rw [if_pos (show (oPlan z.1).1 = 0 from rfl)]; rfl
theorem zmv_run {z : zG} (hG : GI z) : zmv z (zv (s_run z) [(-1), (-2)]) (s_run z).2.2 := by
  refine ⟨s_run_G hG, ?_, ?_⟩
  · unfold s_run; split
    · rfl
    · split <;> rfl
  · by_cases h1 : (zP z).1 ≠ 0
    · have e : s_run z = (1, 0, zerr z (nI ((zP z).1 - 1)) z.2.2.2.2.1.2) := by unfold s_run; rw [if_pos h1]
      rw [e]
      exact Or.inl ⟨by show (-1 : Int32) < 0; decide, rfl, rfl⟩
    · by_cases h2 : (zE z).1 ≠ 0
      · have e : s_run z = (2, 0, zerr z z.2.2.2.2.1.1 (nI ((zE z).1 - 1))) := by unfold s_run; rw [if_neg h1, if_pos h2]
        rw [e]
        exact Or.inl ⟨by show (-2 : Int32) < 0; decide, rfl, rfl⟩
      · have e : s_run z = (0, (zP z).2.length, zpush (zerr z z.2.2.2.2.1.1 z.2.2.2.2.1.2) (zE z).2) := by unfold s_run; rw [if_neg h1, if_neg h2]
        have l13 : (zP z).2.length ≤ 13 := zps_len (t := z.2.2.2.1.2) (n := z.2.2.2.1.1) 13 0
        rw [e]
        exact Or.inr ⟨by show ¬ nI (zP z).2.length < 0; exact nI_pos (by omega), rfl⟩
theorem pL_run {ts : List Nat} {Q : Int32 → zG → Prop} {K : zG → Prop} {z : zG} (hl : ts.length ≤ 60) (hc : ∀ j, ts.getD j 0 < 65536) (hK : ∀ z', GI z' → z'.1 = z.1 → z'.2.1 = z.2.1 → K z') : ∀ (n j fuel : Nat) (z2 : zG), n < fuel → j + n = ts.length → GI z2 → z2.1 = z.1 → z2.2.1 = z.2.1 → z2.2.2.2.1.1 = j → lL_run_2 ts Q K fuel (nI j) z2 := by
  intro n
  induction n with
  | zero =>
    intro j fuel z2 hf hj hG h1 h2 h3
    obtain ⟨f, rfl⟩ : ∃ f, fuel = f + 1 := ⟨fuel - 1, by omega⟩
    rw [lL_run_2.eq_2]
    exact ⟨fun _ => hK z2 hG h1 h2, fun h => absurd (nI_le (by omega) (by omega)) h⟩
  | succ n ih =>
    intro j fuel z2 hf hj hG h1 h2 h3
    obtain ⟨f, rfl⟩ : ∃ f, fuel = f + 1 := ⟨fuel - 1, by omega⟩
    rw [lL_run_2.eq_2]
    refine ⟨fun h => absurd h (nI_ge (by omega) (by omega)), fun _ => ⟨j, ⟨by omega, rfl⟩, fun zp hzp => ?_⟩⟩
    have es : s_append z2 (ts.getD j 0) = (0, j + 1, ztext z2 (j + 1) (fun q => if q = j then ts.getD j 0 else z2.2.2.2.1.2 q)) := by
      unfold s_append
      rw [h3, if_neg (by omega)]
    have hg : GI (s_append z2 (ts.getD j 0)).2.2 := s_append_G hG (hc j)
    refine ⟨fun _ v hv => ?_, fun h => absurd ?_ h⟩
    · subst hzp; subst hv
      show lL_run_2 ts Q K f (nI j + 1) _
      rw [nI_1]
      exact ih (j + 1) f _ (by omega) (by omega) hg (by rw [es]; exact h1) (by rw [es]; exact h2) (by rw [es]; rfl)
    · rw [es, nI_1]; rfl
theorem pT_run {ts : List Nat} {Q : Int32 → zG → Prop} {z : zG} (hG : GI z) (ht : z.2.2.2.1.1 = 0) (hl : ts.length ≤ 60) (hc : ∀ j, ts.getD j 0 < 65536) (h : ∀ r z', zmv z r z' → Q r z') : wT_run ts z Q := by
  refine pL_run (z := z) hl hc (fun z2 hG2 h1 h2 zp hzp => ?_) ts.length 0 65 z (by omega) (by omega) hG rfl rfl ht
  subst hzp
  obtain ⟨a1, a2, a3⟩ := zmv_run hG2
  refine h _ _ ⟨a1, a2, ?_⟩
  rcases a3 with ⟨b1, b2, b3⟩ | ⟨b1, b2⟩
  · exact Or.inl ⟨b1, b2.trans h1, b3.trans h2⟩
  · refine Or.inr ⟨b1, b2.trans ?_⟩
    show (zpush z2 _).2.1 = (zpush z _).2.1
    unfold zpush
    rw [h1, h2]
/-! Values. -/
theorem zen_n {j N : Nat} (h1 : 1 ≤ j) (h : j ≤ N) (hN : N < 1000) : zen (nI j) N := by
  show 1 ≤ (nI j).toInt ∧ (nI j).toInt ≤ (N : Int)
  rw [nI_toInt (by omega)]; omega
theorem e_doorOf {z : zG} {j : Nat} (h1 : 1 ≤ j) (h : j ≤ z.1 3) (h8 : z.1 3 ≤ 8) : s_doorOf z (nI j) = (0, ze z.1 (j - 1) 0, z) := by
  unfold s_doorOf; rw [if_pos (zen_n h1 h (by omega)), nI_clamp (by omega)]
theorem e_isRevoked {z : zG} {j : Nat} (h1 : 1 ≤ j) (h : j ≤ z.1 3) (h8 : z.1 3 ≤ 8) : s_isRevoked z (nI j) = (0, (if ze z.1 (j - 1) 1 = 1 then 1 else 0), z) := by
  unfold s_isRevoked; rw [if_pos (zen_n h1 h (by omega)), nI_clamp (by omega)]
theorem e_topic {z : zG} {k : Nat} (h : k < z.1 0) (h8 : z.1 0 ≤ 8) : s_topic z (nI k) = (0, zd z.1 k 1, z) := by
  unfold s_topic; rw [if_pos (zok_n h (by omega)), nI_clamp (by omega)]
theorem e_frameOfDoor {z : zG} {k : Nat} (h : k < z.1 0) (h8 : z.1 0 ≤ 8) : s_frameOfDoor z (nI k) = (0, zd z.1 k 0, z) := by
  unfold s_frameOfDoor; rw [if_pos (zok_n h (by omega)), nI_clamp (by omega)]
theorem e_examinersOf {z : zG} {k : Nat} (h : k < z.1 0) (h8 : z.1 0 ≤ 8) : s_examinersOf z (nI k) = (0, zcnt z.1 k, z) := by
  unfold s_examinersOf; rw [if_pos (zok_n h (by omega)), nI_clamp (by omega)]
theorem e_gradesOf {z : zG} {k : Nat} (h : k < z.1 0) (h8 : z.1 0 ≤ 8) : s_gradesOf z (nI k) = (0, zgc z.1 k, z) := by
  unfold s_gradesOf; rw [if_pos (zok_n h (by omega)), nI_clamp (by omega)]
theorem e_passes {z : zG} {k : Nat} (h : k < z.1 0) (h8 : z.1 0 ≤ 8) : s_passes z (nI k) = (0, (if zpas z.1 k then 1 else 0), z) := by
  unfold s_passes; rw [if_pos (zok_n h (by omega)), nI_clamp (by omega)]
theorem e_isEntitled {z : zG} {k : Nat} (h : k < z.1 0) (h8 : z.1 0 ≤ 8) : s_isEntitled z (nI k) = (0, (if zent z.1 k then 1 else 0), z) := by
  unfold s_isEntitled; rw [if_pos (zok_n h (by omega)), nI_clamp (by omega)]
theorem e_wasGranted {z : zG} {k : Nat} (h : k < z.1 0) (h8 : z.1 0 ≤ 8) : s_wasGranted z (nI k) = (0, (if zd z.1 k 3 = 1 then 1 else 0), z) := by
  unfold s_wasGranted; rw [if_pos (zok_n h (by omega)), nI_clamp (by omega)]
theorem e_load {z : zG} {k : Nat} (h : k < z.1 1) (h8 : z.1 1 ≤ 8) : s_load z (nI k) = (0, zload z.1 k, z) := by
  unfold s_load; rw [if_pos (zok_n h (by omega)), nI_clamp (by omega)]
theorem e_frameOfExaminer {z : zG} {k : Nat} (h : k < z.1 1) (h8 : z.1 1 ≤ 8) : s_frameOfExaminer z (nI k) = (0, zx z.1 k 0, z) := by
  unfold s_frameOfExaminer; rw [if_pos (zok_n h (by omega)), nI_clamp (by omega)]
theorem e_doorAtRank {z : zG} {k : Nat} (h : k < z.1 0) (h8 : z.1 0 ≤ 8) : s_doorAtRank z (nI k) = (0, zat z.1 k (z.1 0), z) := by
  unfold s_doorAtRank; rw [if_pos (zok_n h (by omega)), nI_clamp (by omega)]
theorem e_panelCount {z : zG} {k : Nat} (h : k < z.1 0) (h8 : z.1 0 ≤ 8) : s_panelCount z (nI k) = (0, zpc z.1 k, z) := by
  unfold s_panelCount; rw [if_pos (zok_n h (by omega)), nI_clamp (by omega)]
theorem e_isNeutral {z : zG} {x k : Nat} (hx : x < z.1 1) (h : k < z.1 0) (h6 : z.1 1 ≤ 6) (h8 : z.1 0 ≤ 8) : s_isNeutral z (nI x) (nI k) = (0, (if zneu z.1 x k then 1 else 0), z) := by
  unfold s_isNeutral; rw [if_pos ⟨zok_n hx (by omega), zok_n h (by omega)⟩, nI_clamp (by omega), nI_clamp (by omega)]
theorem e_mayJudge {z : zG} {x k : Nat} (hx : x < z.1 1) (h : k < z.1 0) (h6 : z.1 1 ≤ 6) (h8 : z.1 0 ≤ 8) : s_mayJudge z (nI x) (nI k) = (0, (if zjud z.1 x k then 1 else 0), z) := by
  unfold s_mayJudge; rw [if_pos ⟨zok_n hx (by omega), zok_n h (by omega)⟩, nI_clamp (by omega), nI_clamp (by omega)]
theorem e_isAssigned {z : zG} {x k : Nat} (hx : x < z.1 1) (h : k < z.1 0) (h6 : z.1 1 ≤ 6) (h8 : z.1 0 ≤ 8) : s_isAssigned z (nI x) (nI k) = (0, (if zp z.1 x k 1 = 1 then 1 else 0), z) := by
  unfold s_isAssigned; rw [if_pos ⟨zok_n hx (by omega), zok_n h (by omega)⟩, nI_clamp (by omega), nI_clamp (by omega)]
theorem e_gradeBy {z : zG} {x k : Nat} (hx : x < z.1 1) (h : k < z.1 0) (h6 : z.1 1 ≤ 6) (h8 : z.1 0 ≤ 8) : s_gradeBy z (nI x) (nI k) = if zp z.1 x k 2 = 0 then (2, 0, z) else (0, zp z.1 x k 2 - 1, z) := by
  unfold s_gradeBy; rw [if_pos ⟨zok_n hx (by omega), zok_n h (by omega)⟩, nI_clamp (by omega), nI_clamp (by omega)]
theorem v_gradeBy {z : zG} {x k : Nat} (hx : x < z.1 1) (h : k < z.1 0) (h6 : z.1 1 ≤ 6) (h8 : z.1 0 ≤ 8) : zv (s_gradeBy z (nI x) (nI k)) [(-11), (-13)] = if zp z.1 x k 2 = 0 then -13 else nI (zp z.1 x k 2 - 1) := by
  rw [e_gradeBy hx h h6 h8]
  by_cases hz : zp z.1 x k 2 = 0
  · rw [if_pos hz, if_pos hz]; rfl
  · rw [if_neg hz, if_neg hz]; rfl
/-! The sum. -/
theorem pL_sum148 {a : Nat → Nat} (ha : rB a) : ∀ (n j fuel : Nat) (x1 : Int64), n < fuel → j + n = a 3 + 1 → 1 ≤ j → ∃ v : Int64, ∀ z : zG, z.1 = a → ∀ K : Int64 → Prop, K v → lL_sum_148 z K fuel x1 (nI j) := by
  have h8 := rB_N ha
  intro n
  induction n with
  | zero =>
    intro j fuel x1 hf hj h1
    obtain ⟨f, rfl⟩ : ∃ f, fuel = f + 1 := ⟨fuel - 1, by omega⟩
    refine ⟨x1, fun z hz K hK => ?_⟩
    subst hz
    rw [lL_sum_148.eq_2]
    exact ⟨fun _ => hK, fun h => absurd (nI_lt (by omega) (by omega)) h⟩
  | succ n ih =>
    intro j fuel x1 hf hj h1
    obtain ⟨f, rfl⟩ : ∃ f, fuel = f + 1 := ⟨fuel - 1, by omega⟩
    obtain ⟨v, hv⟩ := ih (j + 1) f ((((41 : Int64) * x1) + (((2 : Int32) * (nI (ze a (j - 1) 0)))).toInt64) + ((if ze a (j - 1) 1 = 1 then 1 else 0 : Int32)).toInt64) (by omega) (by omega) (by omega)
    refine ⟨v, fun z hz K hK => ?_⟩
    subst hz
    have e1 := e_doorOf (z := z) h1 (by omega) h8
    have e2 := e_isRevoked (z := z) h1 (by omega) h8
    have hv := hv z rfl K hK
    rw [lL_sum_148.eq_2]
    refine ⟨fun h => absurd h (nI_nlt (by omega) (by omega)), fun _ => ⟨by rw [e1], by rw [e2], ?_⟩⟩
    rw [e2]
    by_cases hr : ze z.1 (j - 1) 1 = 1
    · rw [if_pos hr] at hv
      refine ⟨fun h => absurd h (by simp only [if_pos hr]; decide), fun _ => ?_⟩
      intro v17 h17 v18 h18
      subst h17; subst h18
      rw [e1, nI_1]
      exact hv
    · rw [if_neg hr] at hv
      refine ⟨fun _ => ?_, fun h => absurd (by simp only [if_neg hr]; rfl) h⟩
      intro v17 h17 v18 h18
      subst h17; subst h18
      rw [e1, nI_1]
      exact hv
