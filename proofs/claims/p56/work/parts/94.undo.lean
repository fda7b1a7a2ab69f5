/-! The pure part: the sum is a number of the present; all is undone. -/
theorem pL_sum73 {a : Nat → Nat} (ha : rB a) {k : Nat} (hk : k < a 0) : ∀ (n x fuel : Nat) (x1 : Int64), n < fuel → x + n = a 1 → ∃ v : Int64, ∀ z : zG, z.1 = a → ∀ K : Int64 → Prop, K v → lL_sum_73 z (nI k) K fuel x1 (nI x) := by
  have h8 := rB_D ha
  have h6 := rB_E ha
  intro n
  induction n with
  | zero =>
    intro x fuel x1 hf hj
    obtain ⟨f, rfl⟩ : ∃ f, fuel = f + 1 := ⟨fuel - 1, by omega⟩
    refine ⟨x1, fun z hz K hK => ?_⟩
    subst hz
    rw [lL_sum_73.eq_2]
    exact ⟨fun _ => hK, fun h => absurd (nI_le (by omega) (by omega)) h⟩
  | succ n ih =>
    intro x fuel x1 hf hj
    obtain ⟨f, rfl⟩ : ∃ f, fuel = f + 1 := ⟨fuel - 1, by omega⟩
    obtain ⟨v, hv⟩ := ih (x + 1) f (((((37 : Int64) * x1) + (((40 : Int32) * (if zp a x k 2 = 0 then -13 else nI (zp a x k 2 - 1)))).toInt64) + ((if zp a x k 1 = 1 then 2 else 0 : Int32)).toInt64) + ((if zneu a x k then 1 else 0 : Int32)).toInt64) (by omega) (by omega)
    refine ⟨v, fun z hz K hK => ?_⟩
    subst hz
    have e1 := e_isAssigned (z := z) (x := x) (k := k) (by omega) hk h6 h8
    have e2 := e_isNeutral (z := z) (x := x) (k := k) (by omega) hk h6 h8
    have e3 := v_gradeBy (z := z) (x := x) (k := k) (by omega) hk h6 h8
    have hv := hv z rfl K hK
    have key : ∀ t1 : Int32, t1 = (if zp z.1 x k 1 = 1 then 2 else 0) → jL_sum_114 z (nI k) x1 (nI x) (fun x1_73 x4_73 => lL_sum_73 z (nI k) K f x1_73 x4_73) t1 := by
      intro t1 ht1
      refine ⟨by rw [e2], ?_⟩
      rw [e2]
      by_cases hn : zneu z.1 x k
      · rw [if_pos hn] at hv
        refine ⟨fun h => absurd h (by simp only [if_pos hn]; decide), fun _ => ?_⟩
        intro v17 h17 v18 h18
        subst h17; subst h18; subst ht1
        rw [e3, nI_1]
        exact hv
      · rw [if_neg hn] at hv
        refine ⟨fun _ => ?_, fun h => absurd (by simp only [if_neg hn]; rfl) h⟩
        intro v17 h17 v18 h18
        subst h17; subst h18; subst ht1
        rw [e3, nI_1]
        exact hv
    rw [lL_sum_73.eq_2]
    refine ⟨fun h => absurd h (nI_ge (by omega) (by omega)), fun _ => ⟨by rw [e1], ?_⟩⟩
    rw [e1]
    by_cases hr : zp z.1 x k 1 = 1
    · exact ⟨fun h => absurd h (by simp only [if_pos hr]; decide), fun _ => key _ (by rw [if_pos hr])⟩
    · exact ⟨fun _ => key _ (by rw [if_neg hr]), fun h => absurd (by simp only [if_neg hr]; rfl) h⟩
theorem pL_sum21 {a : Nat → Nat} (ha : rB a) : ∀ (n k fuel : Nat) (x1 : Int64), n < fuel → k + n = a 0 → ∃ v : Int64, ∀ z : zG, z.1 = a → ∀ K : Int64 → Prop, K v → lL_sum_21 z K fuel x1 (nI k) := by
  have h8 := rB_D ha
  have h6 := rB_E ha
  intro n
  induction n with
  | zero =>
    intro x fuel x1 hf hj
    obtain ⟨f, rfl⟩ : ∃ f, fuel = f + 1 := ⟨fuel - 1, by omega⟩
    refine ⟨x1, fun z hz K hK => ?_⟩
    subst hz
    rw [lL_sum_21.eq_2]
    exact ⟨fun _ => hK, fun h => absurd (nI_le (by omega) (by omega)) h⟩
  | succ n ih =>
    intro k fuel x1 hf hj
    obtain ⟨f, rfl⟩ : ∃ f, fuel = f + 1 := ⟨fuel - 1, by omega⟩
    obtain ⟨v1, hv1⟩ := pL_sum73 ha (k := k) (by omega) (a 1) 0 7 (((((31 : Int64) * x1) + (((100 : Int32) * (nI (zd a k 0)))).toInt64) + (((10 : Int32) * (nI (zd a k 1)))).toInt64) + ((if zd a k 3 = 1 then 1 else 0 : Int32)).toInt64) (by omega) (by omega)
    obtain ⟨v, hv⟩ := ih (k + 1) f v1 (by omega) (by omega)
    refine ⟨v, fun z hz K hK => ?_⟩
    subst hz
    have e1 := e_frameOfDoor (z := z) (k := k) (by omega) h8
    have e2 := e_topic (z := z) (k := k) (by omega) h8
    have e3 := e_wasGranted (z := z) (k := k) (by omega) h8
    have hv := hv z rfl K hK
    have hv1 := hv1 z rfl (fun x1_73k => ∀ v39 : Int32, v39 = nI k + (1 : Int32) → lL_sum_21 z K f x1_73k v39) (fun v39 h39 => by
      subst h39
      rw [nI_1]
      exact hv)
    rw [lL_sum_21.eq_2]
    refine ⟨fun h => absurd h (nI_ge (by omega) (by omega)), fun _ => ⟨by rw [e1], by rw [e2], by rw [e3], ?_⟩⟩
    rw [e3]
    by_cases hr : zd z.1 k 3 = 1
    · rw [if_pos hr] at hv1
      refine ⟨fun h => absurd h (by simp only [if_pos hr]; decide), fun _ => ?_⟩
      intro v17 h17
      subst h17
      rw [e1, e2]
      exact hv1
    · rw [if_neg hr] at hv1
      refine ⟨fun _ => ?_, fun h => absurd (by simp only [if_neg hr]; rfl) h⟩
      intro v17 h17
      subst h17
      rw [e1, e2]
      exact hv1
theorem zsum_ex {a : Nat → Nat} (ha : rB a) : ∃ v : Int64, ∀ z : zG, z.1 = a → ∀ Q : Int64 → Prop, Q v → wL_sum z Q := by
  have h8 := rB_N ha
  have h80 := rB_D ha
  obtain ⟨v1, hv1⟩ := pL_sum21 ha (a 0) 0 9 (((7 : Int64) + (((100 : Int32) * (nI (a 2)))).toInt64) + ((nI (a 3))).toInt64) (by omega) (by omega)
  obtain ⟨v2, hv2⟩ := pL_sum148 ha (a 3) 1 9 v1 (by omega) (by omega) (by omega)
  refine ⟨(((43 : Int64) * v2) + (((10 : Int32) * (nI (a 0)))).toInt64) + ((nI (a 1))).toInt64, fun z hz Q hQ => ?_⟩
  subst hz
  intro v h
  subst h
  exact hv1 z rfl _ (hv2 z rfl _ hQ)
noncomputable def zsm (a : Nat → Nat) : Int64 := @dite Int64 (rB a) (Classical.propDecidable _) (fun h => Classical.choose (zsum_ex h)) (fun _ => 0)
theorem pL_sum {z : zG} (h : rB z.1) {Q : Int64 → Prop} (hQ : Q (zsm z.1)) : wL_sum z Q := by
  refine Classical.choose_spec (zsum_ex h) z rfl Q ?_
  unfold zsm at hQ
  rw [dif_pos h] at hQ
  exact hQ
theorem lg_cmp0 (x : Int64) : lg_cmp x x = 0 := by
  unfold lg_cmp
  simp
def zun (d : Nat) (z : zG) (f : Nat → Int64) (st : Nat → Nat → Nat) : Prop := GI z ∧ z.2.2.2.1.1 = 0 ∧ d ≤ z.2.1.1 ∧ (∀ i, i < d → z.2.1.2 (z.2.1.1 - d + i) = st i) ∧ ∀ i, i < d → f i = zsm (st i)
theorem zun_push {d : Nat} {z z' : zG} {f f' : Nat → Int64} {st : Nat → Nat → Nat} (h : zun d z f st) (hd : d ≤ 6) (hG : GI z') (ht : z'.2.2.2.1.1 = 0) (hp : z'.2.1 = (zpush z z'.1).2.1) (hf : ∀ i, i < d → f' i = f i) (hfd : f' d = zsm z.1) : zun (d + 1) z' f' (fun i => if i = d then z.1 else st i) := by
  obtain ⟨h1, h2, h3, h4, h5⟩ := h
  have h8 := h1.2.1.1
  refine ⟨hG, ht, ?_, fun i hi => ?_, fun i hi => ?_⟩
  · rw [hp]
    unfold zpush
    show d + 1 ≤ if z.2.1.1 = 8 then 8 else z.2.1.1 + 1
    split <;> omega
  · rw [hp]
    unfold zpush
    by_cases hz : z.2.1.1 = 8
    · simp only [if_pos hz]
      by_cases hid : i = d
      · rw [if_pos hid, if_pos (by omega)]
      · rw [if_neg hid, if_neg (by omega), ← h4 i (by omega)]
        exact congrArg z.2.1.2 (by omega)
    · simp only [if_neg hz]
      by_cases hid : i = d
      · rw [if_pos hid, if_pos (by omega)]
      · rw [if_neg hid, if_neg (by omega), ← h4 i (by omega)]
        exact congrArg z.2.1.2 (by omega)
  · by_cases hid : i = d
    · subst hid
      simp only [if_pos]
      exact hfd
    · simp only [if_neg hid]
      rw [hf i (by omega)]
      exact h5 i (by omega)
theorem zun_keep {d : Nat} {z z' : zG} {f f' : Nat → Int64} {st : Nat → Nat → Nat} (h : zun d z f st) (hG : GI z') (ht : z'.2.2.2.1.1 = 0) (hp : z'.2.1 = z.2.1) (hf : ∀ i, i < d → f' i = f i) : zun d z' f' st := by
  obtain ⟨h1, h2, h3, h4, h5⟩ := h
  exact ⟨hG, ht, by rw [hp]; exact h3, fun i hi => by rw [hp]; exact h4 i hi, fun i hi => by rw [hf i hi]; exact h5 i hi⟩
theorem pj403 {d i : Nat} {z z' : zG} {f : Nat → Int64} {st : Nat → Nat → Nat} {r : Int32} {Q : Int32 → zG → Prop} {N : Int32 → Int32 → zG → (Nat → Int64) → Prop} (h : zun d z f st) (hd : d ≤ 6) (hm : zmv z r z') (hN : ∀ d' f' st', d' ≤ d + 1 → zun d' z' f' st' → N (nI d') (nI (i + 1)) z' f') : jL_undone_403 (nI d) (nI i) (vp_updL f d (zsm z.1)) Q N r z' := by
  obtain ⟨hG, ht, hm⟩ := hm
  have hfd : (vp_updL f d (zsm z.1)) d = zsm z.1 := if_pos rfl
  have hf : ∀ q, q < d → (vp_updL f d (zsm z.1)) q = f q := fun q hq => if_neg (by omega)
  rcases hm with ⟨b1, b2, b3⟩ | ⟨b1, b2⟩
  · have hr : ¬ (0 : Int32) ≤ r := Int32.not_le.mpr b1
    refine ⟨fun w => absurd w hr, fun _ => pL_sum hG.1 ⟨nI_in (by omega) (by decide), fun _ => ⟨fun w => absurd w hr, fun _ => ?_⟩, fun w => absurd ?_ w⟩⟩
    · intro v h1 v2 h2
      subst h1; subst h2
      rw [nI_1, show nI d + (0 : Int32) = nI d from Int32.add_zero _]
      exact hN d _ st (by omega) (zun_keep h hG ht b3 hf)
    · rw [nI_clamp (by omega), hfd, b2]
      exact lg_cmp0 _
  · have hr : (0 : Int32) ≤ r := Int32.not_lt.mp b1
    refine ⟨fun _ => ⟨fun _ => ?_, fun w => absurd hr w⟩, fun w => absurd hr w⟩
    intro v h1 v2 h2
    subst h1; subst h2
    rw [nI_1, nI_1]
    exact hN (d + 1) _ _ (Nat.le_refl _) (zun_push h hd hG ht b2 hf hfd)
theorem pL_undo {f : Nat → Int64} : ∀ (d fuel : Nat) (z : zG) (st : Nat → Nat → Nat), d < fuel → d ≤ 7 → zun d z f st → lL_undone_445 f (fun r _ => r = 1) (fun z_445k => (1 : Int32) = 1) fuel (nI d - 1) z := by
  intro d
  induction d with
  | zero =>
    intro fuel z st hf hd h
    obtain ⟨f, rfl⟩ : ∃ f, fuel = f + 1 := ⟨fuel - 1, by omega⟩
    rw [lL_undone_445.eq_2]
    exact ⟨fun _ => rfl, fun w => absurd (by decide) w⟩
  | succ d ih =>
    intro fuel z st hf hd h
    obtain ⟨f0, rfl⟩ : ∃ f, fuel = f + 1 := ⟨fuel - 1, by omega⟩
    obtain ⟨h1, h2, h3, h4, h5⟩ := h
    have h8 := h1.2.1.1
    have es : s_undo z = (0, z.2.1.1 - 1, (z.2.1.2 (z.2.1.1 - 1), (z.2.1.1 - 1, z.2.1.2), z.2.2)) := by unfold s_undo; rw [if_neg (by omega)]
    have hg := s_undo_G h1
    rw [nI_pred, lL_undone_445.eq_2]
    refine ⟨fun w => absurd w (nI_pos (by omega)), fun _ zp hzp => ?_⟩
    rw [es] at hzp hg
    have h6 := h4 d (by omega)
    rw [show z.2.1.1 - (d + 1) + d = z.2.1.1 - 1 by omega] at h6
    subst hzp
    refine ⟨fun w => absurd w (by rw [es]; show ¬ nI (z.2.1.1 - 1) < 0; exact nI_pos (by omega)), fun _ => pL_sum hg.1 ⟨nI_in (by omega) (by decide), fun _ v17 h17 => ?_, fun w => absurd ?_ w⟩⟩
    · subst h17
      rw [show nI d + (-1 : Int32) = nI d - 1 by rw [Int32.sub_eq_add_neg]]
      refine ih f0 _ st (by omega) (by omega) ⟨hg, h2, ?_, fun i hi => ?_, fun i hi => h5 i (by omega)⟩
      · show d ≤ z.2.1.1 - 1
        omega
      · show z.2.1.2 (z.2.1.1 - 1 - d + i) = st i
        rw [← h4 i (by omega)]
        exact congrArg z.2.1.2 (by omega)
    · rw [nI_clamp (by omega)]
      show lg_cmp (zsm (z.2.1.2 (z.2.1.1 - 1))) (f d) = 0
      rw [h6, h5 d (by omega)]
      exact lg_cmp0 _
