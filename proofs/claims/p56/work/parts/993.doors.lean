/-! The pure part: doors. -/
theorem v_result {z : zG} {k : Nat} (h : k < z.1 0) (h8 : z.1 0 ≤ 8) : zv (s_result z (nI k)) [(-11), (-13)] = if zres z.1 k = 0 then -13 else nI (zres z.1 k - 1) := by
  have e : s_result z (nI k) = if zres z.1 k = 0 then (2, 0, z) else (0, zres z.1 k - 1, z) := by
    unfold s_result; rw [if_pos (zok_n h (by omega)), nI_clamp (by omega)]
  rw [e]
  by_cases hz : zres z.1 k = 0
  · rw [if_pos hz, if_pos hz]; rfl
  · rw [if_neg hz, if_neg hz]; rfl
theorem zgc_cnt {a : Nat → Nat} (hb : rB a) {k : Nat} (hk : k < 8) : zgc a k ≤ zcnt a k := by
  have h6 := rB_E hb
  rw [← zcnt_E hb hk]
  refine zs_le (fun x hx => ?_)
  have := hb.2.2.2.1 x k (by omega) hk
  split <;> omega
theorem pL_d20 {z : zG} (hG : GI z) {k : Nat} (hk : k < z.1 0) {K : Int32 → Int32 → Prop} (hK : K (nI (zcnt z.1 k)) (nI (zgc z.1 k))) : ∀ n x fuel : Nat, n < fuel → x + n = z.1 1 → lL_doors_20 z (nI k) K fuel (nI (zs (fun x => zp z.1 x k 1) x)) (nI (zs (fun x => if 0 < zp z.1 x k 2 then 1 else 0) x)) (nI x) := by
  have hb := hG.1
  have h8 := rB_D hb
  have h6 := rB_E hb
  intro n
  induction n with
  | zero =>
    intro x fuel hf hx
    obtain ⟨f, rfl⟩ : ∃ f, fuel = f + 1 := ⟨fuel - 1, by omega⟩
    rw [lL_doors_20.eq_2]
    have e : x = z.1 1 := by omega
    rw [e, zcnt_E hb (by omega)]
    exact ⟨fun _ => hK, fun w => absurd (nI_le (Nat.le_refl _) (by omega)) w⟩
  | succ n ih =>
    intro x fuel hf hx
    obtain ⟨f, rfl⟩ : ∃ f, fuel = f + 1 := ⟨fuel - 1, by omega⟩
    have r := hb.2.2.2.1 x k (by omega) (by omega)
    have hN := ih (x + 1) f (by omega) (by omega)
    rw [zs_succ, zs_succ] at hN
    have ea : zv (s_isAssigned z (nI x) (nI k)) [(-11)] = nI (zp z.1 x k 1) := by
      rw [e_isAssigned (by omega) hk h6 h8]
      show nI (if zp z.1 x k 1 = 1 then 1 else 0) = _
      by_cases c : zp z.1 x k 1 = 1
      · rw [if_pos c, c]
      · rw [if_neg c, show zp z.1 x k 1 = 0 by omega]
    rw [lL_doors_20.eq_2]
    refine ⟨fun w => absurd w (nI_ge (by omega) (by omega)), fun _ v112 h112 => ?_⟩
    rw [ea, nI_add] at h112
    subst h112
    rw [v_gradeBy (by omega) hk h6 h8]
    have fin : ∀ t : Int32, nI (zs (fun x => if 0 < zp z.1 x k 2 then 1 else 0) x) + t = nI (zs (fun x => if 0 < zp z.1 x k 2 then 1 else 0) x + if 0 < zp z.1 x k 2 then 1 else 0) → jL_doors_56 (nI (zs (fun x => if 0 < zp z.1 x k 2 then 1 else 0) x)) (nI x) (nI (zs (fun x => zp z.1 x k 1) x + zp z.1 x k 1)) (fun x3_20 x4_20 x5_20 => lL_doors_20 z (nI k) K f x3_20 x4_20 x5_20) t := fun t e v117 h117 v118 h118 => by
      rw [e] at h117
      rw [nI_1] at h118
      subst h117; subst h118
      exact hN
    by_cases c : zp z.1 x k 2 = 0
    · rw [if_pos c]
      exact ⟨fun _ => fin 0 (by rw [if_neg (by omega)]; exact Int32.add_zero _), fun w => absurd (by decide) w⟩
    · rw [if_neg c]
      exact ⟨fun w => absurd w (nI_pos (by omega)), fun _ => fin 1 (by rw [if_pos (by omega)]; exact nI_1 _)⟩
/-- who ranks before has the greater key -/
theorem zrk_key {a : Nat → Nat} (hD : a 0 ≤ 8) {b d : Nat} (hb : b < a 0) (hd : d < a 0) (h : zrk a b < zrk a d) : zkey a d < zkey a b := by
  rcases Nat.lt_trichotomy (zkey a b) (zkey a d) with q | q | q
  · have := zrk_mono (k := b) hd q; omega
  · have := zkey_inj (k := b) (j := d) (by omega) (by omega) q
    subst this; omega
  · exact q
theorem z13 : ∀ n, n < 100 → nI n - (-13 : Int32) = nI (n + 13) := by decide +kernel
theorem pj275 {x v r : Nat} {T T2 : Int32} {Q : Int32 → Prop} {N : Int32 → Prop} (hv : v < 1000) (hN : N (nI (x + 1))) (h : (T = nI r ∧ 0 < r ∧ r < 1000) ∨ (T = 0 ∧ T2 ≤ nI v)) : jL_doors_275 (nI x) 1 (nI v) T2 Q N T := by
  have nx : ∀ v : Int32, v = nI x + (1 : Int32) → N v := fun v h => by rw [h, nI_1]; exact hN
  refine ⟨fun w => absurd w (by decide), fun _ => ⟨fun w => absurd w (nI_pos (by omega)), fun _ => ?_⟩⟩
  rcases h with ⟨rfl, h0, h1⟩ | ⟨rfl, h0⟩
  · exact ⟨fun w => absurd w (nI_pos (by omega)), fun _ => ⟨fun w => absurd w (nI_ne0 h0 (by omega)), fun _ => nx⟩⟩
  · exact ⟨fun w => absurd w (by decide), fun _ => ⟨fun _ => ⟨fun _ => nx, fun w => absurd h0 w⟩, fun w => absurd rfl w⟩⟩
theorem pj194 {z : zG} (hG : GI z) {k : Nat} (hk : k < z.1 0) {Q : Int32 → Prop} {N : Int32 → Prop} (hN : N (nI (k + 1))) : jL_doors_194 z (nI k) Q N 1 := by
  have hb := hG.1
  have h8 := rB_D hb
  obtain ⟨d, hd, ed⟩ := zrk_surj (a := z.1) h8 hk
  have vd : zv (s_doorAtRank z (nI k)) [(-13)] = nI d := by
    rw [e_doorAtRank hk h8]
    show nI (zat z.1 k (z.1 0)) = nI d
    rw [← ed, zat_t h8 hd (Nat.le_refl _) hd]
  intro v36 h36
  rw [vd] at h36
  subst h36
  refine ⟨fun w => ?_, fun w => ?_⟩
  · exact ⟨fun _ => ⟨fun c => absurd c (by decide), fun _ => pj275 (r := 1) (v := d) (by omega) hN (Or.inl ⟨rfl, by decide, by decide⟩)⟩, fun c => absurd w c⟩
  · have k0 : 0 < k := by
      rcases Nat.eq_zero_or_pos k with e | e
      · exact absurd (by rw [e]; rfl) w
      · exact e
    obtain ⟨b, hb', eb⟩ := zrk_surj (a := z.1) h8 (v := k - 1) (by omega)
    have ekm : nI k - (1 : Int32) = nI (k - 1) := pk_sub (a := k) (b := 1) k0
    have vb : zv (s_doorAtRank z (nI k - (1 : Int32))) [(-13)] = nI b := by
      rw [ekm, e_doorAtRank (k := k - 1) (by omega) h8]
      show nI (zat z.1 (k - 1) (z.1 0)) = nI b
      rw [← eb, zat_t h8 hb' (Nat.le_refl _) hb']
    have key := zrk_key h8 hb' hd (by omega)
    have g1 := zgc_3 hb (k := b) (by omega)
    have g2 := zgc_3 hb (k := d) (by omega)
    have r1 := zres_le hb (k := b) (by omega)
    have r2 := zres_le hb (k := d) (by omega)
    unfold zkey at key
    rw [vb]
    refine ⟨fun c => absurd c w, fun _ => pL_median hG hb' (pL_median hG hd ?_)⟩
    by_cases zb0 : zres z.1 b = 0
    · rw [if_pos zb0] at key ⊢
      have zd0 : zres z.1 d = 0 := by omega
      rw [if_pos zd0] at key ⊢
      rw [show ((-13 : Int32) - (-13 : Int32)) = 0 by decide]
      refine ⟨fun _ => pL_median hG hd ?_, fun c => absurd rfl c⟩
      rw [if_pos zd0]
      exact ⟨fun c => absurd c (by decide), fun _ => pj275 (r := 0) (v := d) (by omega) hN (Or.inr ⟨rfl, nI_le (by omega) (by omega)⟩)⟩
    · rw [if_neg zb0] at key ⊢
      by_cases zd0 : zres z.1 d = 0
      · rw [if_pos zd0, z13 _ (by omega)]
        exact ⟨fun c => absurd c (nI_ne0 (by omega) (by omega)), fun _ => pj275 (r := zres z.1 b - 1 + 13) (v := d) (by omega) hN (Or.inl ⟨rfl, by omega, by omega⟩)⟩
      · rw [if_neg zd0] at key ⊢
        rw [pk_sub (show zres z.1 d - 1 ≤ zres z.1 b - 1 by omega)]
        by_cases ez : zres z.1 b = zres z.1 d
        · rw [show zres z.1 b - 1 - (zres z.1 d - 1) = 0 by omega]
          refine ⟨fun _ => pL_median hG hd ?_, fun c => absurd rfl c⟩
          rw [if_neg zd0]
          refine ⟨fun _ => ?_, fun c => absurd (nI_pos' (by omega)) c⟩
          rw [e_gradesOf hb' h8, e_gradesOf hd h8]
          refine ⟨rfl, rfl, ?_⟩
          show jL_doors_275 (nI k) 1 (nI d) (nI b) Q N (nI (zgc z.1 b) - nI (zgc z.1 d))
          rw [pk_sub (show zgc z.1 d ≤ zgc z.1 b by omega)]
          by_cases eg : zgc z.1 b = zgc z.1 d
          · rw [show zgc z.1 b - zgc z.1 d = 0 by omega]
            exact pj275 (r := 0) (v := d) (by omega) hN (Or.inr ⟨rfl, nI_le (by omega) (by omega)⟩)
          · exact pj275 (r := zgc z.1 b - zgc z.1 d) (v := d) (by omega) hN (Or.inl ⟨rfl, by omega, by omega⟩)
        · exact ⟨fun c => absurd c (nI_ne0 (by omega) (by omega)), fun _ => pj275 (r := zres z.1 b - 1 - (zres z.1 d - 1)) (v := d) (by omega) hN (Or.inl ⟨rfl, by omega, by omega⟩)⟩
theorem pL_d7 {z : zG} (hG : GI z) {Q : Int32 → Prop} {K : Prop} (hK : K) : ∀ n k fuel : Nat, n < fuel → k + n = z.1 0 → lL_doors_7 z (nI (z.1 0)) Q K fuel (nI k) := by
  have hb := hG.1
  have h8 := rB_D hb
  have h6 := rB_E hb
  have hT := rB_T hb
  intro n
  induction n with
  | zero =>
    intro k fuel hf hk
    obtain ⟨f, rfl⟩ : ∃ f, fuel = f + 1 := ⟨fuel - 1, by omega⟩
    rw [lL_doors_7.eq_2]
    exact ⟨fun _ => hK, fun w => absurd (nI_le (by omega) (by omega)) w⟩
  | succ n ih =>
    intro k fuel hf hk
    obtain ⟨f, rfl⟩ : ∃ f, fuel = f + 1 := ⟨fuel - 1, by omega⟩
    have hk0 : k < z.1 0 := by omega
    have hN := ih (k + 1) f (by omega) (by omega)
    have g1 := zgc_cnt hb (k := k) (by omega)
    have g3 := zcnt_le hb (k := k) (by omega)
    have r1 := zres_le hb (k := k) (by omega)
    rw [lL_doors_7.eq_2]
    refine ⟨fun w => absurd w (nI_ge (by omega) (by omega)), fun _ => pL_d20 hG hk0 ?_ (z.1 1) 0 7 (by omega) (by omega)⟩
    refine pL_median hG hk0 ?_
    have j194 := pj194 (Q := Q) hG hk0 hN
    have q1 : zv (s_examinersOf z (nI k)) [(-11)] = nI (zcnt z.1 k) := by rw [e_examinersOf hk0 h8]; rfl
    have q2 : zv (s_gradesOf z (nI k)) [(-11)] = nI (zgc z.1 k) := by rw [e_gradesOf hk0 h8]; rfl
    have q3 := v_result (z := z) hk0 h8
    have q4 : zv (s_passes z (nI k)) [(-11)] = nI (if zpas z.1 k then 1 else 0) := by rw [e_passes hk0 h8]; rfl
    have q5 : zv (s_isEntitled z (nI k)) [(-11)] = nI (if zent z.1 k then 1 else 0) := by rw [e_isEntitled hk0 h8]; rfl
    have j186 : ∀ t : Int32, t = nI (if zent z.1 k then 1 else 0) → jL_doors_186 z (nI k) Q (fun x2_7 => lL_doors_7 z (nI (z.1 0)) Q K f x2_7) t := fun t e => by
      unfold jL_doors_186
      rw [q5, e]
      exact ⟨fun _ => j194, fun w => absurd rfl w⟩
    have j156 : ∀ t : Int32, t = nI (if zpas z.1 k then 1 else 0) → jL_doors_156 z (nI k) t Q (fun x2_7 => lL_doors_7 z (nI (z.1 0)) Q K f x2_7) 1 := fun t e => by
      refine ⟨fun w => absurd w (by decide), fun _ => ⟨fun w => ?_, fun w => ?_⟩⟩
      · rw [e_wasGranted hk0 h8]
        have np : ¬ zpas z.1 k := fun q => by rw [e, if_pos q] at w; exact absurd w (by decide)
        refine ⟨rfl, ?_⟩
        by_cases c : zd z.1 k 3 = 1
        · simp only [if_pos c]
          refine ⟨fun w => absurd w (by decide), fun _ => j186 1 ?_⟩
          rw [if_pos (show zent z.1 k from Or.inr c)]; rfl
        · simp only [if_neg c]
          refine ⟨fun _ => j186 0 ?_, fun w => absurd rfl w⟩
          rw [if_neg (fun q : zent z.1 k => q.elim np c)]; rfl
      · have yp : zpas z.1 k := Classical.byContradiction fun q => by rw [e, if_neg q] at w; exact w rfl
        refine j186 1 ?_
        rw [if_pos (show zent z.1 k from Or.inl yp)]; rfl
    have j148 : ∀ t : Int32, t = nI (if zpas z.1 k then 1 else 0) → jL_doors_148 z (nI k) t Q (fun x2_7 => lL_doors_7 z (nI (z.1 0)) Q K f x2_7) t := fun t e => by
      unfold jL_doors_148
      rw [q4]
      exact ⟨fun _ => j156 t e, fun w => absurd e.symm w⟩
    have j91 : ∀ t : Int32, t = nI (if zpas z.1 k then 1 else 0) → jL_doors_91 z (nI k) (nI (zcnt z.1 k)) (nI (zgc z.1 k)) (if zres z.1 k = 0 then -13 else nI (zres z.1 k - 1)) Q (fun x2_7 => lL_doors_7 z (nI (z.1 0)) Q K f x2_7) t := fun t e => by
      unfold jL_doors_91
      rw [q1, q2, q3]
      refine ⟨fun _ => ⟨fun _ => ⟨fun w => absurd w (show ¬ nI 3 < nI (zcnt z.1 k) from nI_nlt (by omega) (by omega)), fun _ => ⟨fun w => absurd w (nI_nlt g1 (by omega)), fun _ => ⟨fun _ => ?_, fun w => absurd rfl w⟩⟩⟩, fun w => absurd rfl w⟩, fun w => absurd rfl w⟩
      refine ⟨fun w => ?_, fun w => ?_⟩
      · have h := j148 t e
        rw [w] at h ⊢
        exact h
      · have h := j148 t e
        have e1 : t = 1 := by
          by_cases q : zpas z.1 k
          · rw [e, if_pos q]; rfl
          · rw [e, if_neg q] at w; exact absurd rfl w
        rw [e1] at h ⊢
        exact h
    by_cases c : zres z.1 k = 0
    · have np : ¬ zpas z.1 k := fun q => by have := q.1; omega
      have h := j91 0 (by rw [if_neg np]; rfl)
      rw [if_pos c] at h ⊢
      exact ⟨fun _ => h, fun w => absurd (by decide) w⟩
    · have h := j91
      rw [if_neg c] at h ⊢
      refine ⟨fun w => absurd w (nI_pos (by omega)), fun _ => bri (nI_ltI (by omega) (by omega)) (fun w => h 0 ?_) (fun w => h 1 ?_)⟩
      · rw [if_neg (fun q : zpas z.1 k => by have := q.2; omega)]; rfl
      · rw [if_pos (show zpas z.1 k from ⟨by omega, by omega⟩)]; rfl
theorem pL_doors {z : zG} (hG : GI z) : wL_doors z (fun r => r = 1) := by
  have hb := hG.1
  have h8 := rB_D hb
  have b0 := zok_b (n := z.1 0) (by omega)
  have n0 := zok_m (z.1 0)
  have f1 : zv (s_doorAtRank z (nI (z.1 0))) [(-13)] = -13 := by unfold s_doorAtRank; rw [if_neg b0]; rfl
  have f2 : zv (s_doorAtRank z (-1 : Int32)) [(-13)] = -13 := by unfold s_doorAtRank; rw [if_neg n0]; rfl
  have f3 : zv (s_frameOfDoor z (nI (z.1 0))) [(-11)] = -11 := by unfold s_frameOfDoor; rw [if_neg b0]; rfl
  have f4 : zv (s_topic z (nI (z.1 0))) [(-11)] = -11 := by unfold s_topic; rw [if_neg b0]; rfl
  have f5 : zv (s_examinersOf z (nI (z.1 0))) [(-11)] = -11 := by unfold s_examinersOf; rw [if_neg b0]; rfl
  have f6 : zv (s_gradesOf z (-1 : Int32)) [(-11)] = -11 := by unfold s_gradesOf; rw [if_neg n0]; rfl
  have f7 : zv (s_result z (nI (z.1 0))) [(-11), (-13)] = -11 := by unfold s_result; rw [if_neg b0]; rfl
  have f8 : zv (s_passes z (nI (z.1 0))) [(-11)] = -11 := by unfold s_passes; rw [if_neg b0]; rfl
  have f9 : zv (s_wasGranted z (nI (z.1 0))) [(-11)] = -11 := by unfold s_wasGranted; rw [if_neg b0]; rfl
  have f10 : zv (s_isEntitled z (nI (z.1 0))) [(-11)] = -11 := by unfold s_isEntitled; rw [if_neg b0]; rfl
  intro v1 h1
  subst h1
  exact pL_d7 hG ⟨fun _ => ⟨fun _ => ⟨fun _ => ⟨fun _ => ⟨fun _ => ⟨fun _ => ⟨fun _ => ⟨fun _ => ⟨fun _ => ⟨fun _ => rfl, fun w => absurd f10 w⟩, fun w => absurd f9 w⟩, fun w => absurd f8 w⟩, fun w => absurd f7 w⟩, fun w => absurd f6 w⟩, fun w => absurd f5 w⟩, fun w => absurd f4 w⟩, fun w => absurd f3 w⟩, fun w => absurd f2 w⟩, fun w => absurd f1 w⟩ (z.1 0) 0 9 (by omega) (by omega)
