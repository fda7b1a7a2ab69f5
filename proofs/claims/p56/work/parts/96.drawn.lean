/-! The pure part: the academy is drawn. -/
def zkp (D E : Nat) (z : zG) : Prop := GI z ∧ z.2.2.2.1.1 = 0 ∧ z.1 0 = D ∧ z.1 1 = E ∧ zJ z.1
theorem zch {n : Nat} (h : n < 65536) : ((nI n).toUInt32 % 65536).toInt32 = nI n := by
  rw [pk_char, pk_tn (by omega), Nat.mod_eq_of_lt h]
theorem zkp_step {D E : Nat} {z : zG} (h : zkp D E z) {o : Nat × Nat × (Nat → Nat)} (hB : rB o.2.2) (hk : o.1 = 0 → o.2.2 0 = z.1 0 ∧ o.2.2 1 = z.1 1) (hJ : zJ o.2.2) : zkp D E (zstep z o).2.2 := by
  obtain ⟨h1, h2, h3, h4, h5⟩ := h
  refine ⟨GI_chg h1 hB, ?_, ?_, ?_, ?_⟩
  · show (zchg z o).2.2.2.1.1 = 0
    unfold zchg; split
    · exact h2
    · exact h2
  · show (zchg z o).1 0 = D
    unfold zchg; split
    · next e => exact (hk e).1.trans h3
    · exact h3
  · show (zchg z o).1 1 = E
    unfold zchg; split
    · next e => exact (hk e).2.trans h4
    · exact h4
  · show zJ (zchg z o).1
    unfold zchg; split
    · exact hJ
    · exact h5
theorem pj348 {D E i : Nat} {z : zG} (h : zkp D E z) {o : Nat × Nat × (Nat → Nat)} {l : List Int32} {N : Int32 → zG → Prop} (hc : o.1 ≤ l.length + 1) (h1 : o.1 ≠ 1) (hv : o.2.1 < 2 ^ 31) (hB : rB o.2.2) (hk : o.1 = 0 → o.2.2 0 = z.1 0 ∧ o.2.2 1 = z.1 1) (hJ : zJ o.2.2) (hl : ∀ x ∈ l, x ≠ -1) (hN : ∀ z', zkp D E z' → N (nI (i + 1)) z') : jL_drawn_348 (nI i) N (zv (zstep z o) (-1 :: l)) (zstep z o).2.2 := by
  have hne : ¬ zv (zstep z o) (-1 :: l) = -1 := by
    by_cases h0 : o.1 = 0
    · rw [zv_0 (s := zstep z o) h0]
      intro e
      have h9 : ¬ nI o.2.1 < 0 := nI_pos hv
      have e : nI o.2.1 = -1 := e
      rw [e] at h9
      exact h9 (by decide)
    · rw [zv_c (s := zstep z o) (k := o.1) rfl h0]
      obtain ⟨c, hc2⟩ : ∃ c, o.1 = c + 2 := ⟨o.1 - 2, by omega⟩
      rw [hc2]
      have hlt : c < l.length := by omega
      show ¬ l.getD c 0 = -1
      rw [show l.getD c 0 = l[c] by simp [List.getD, hlt]]
      exact hl _ (List.getElem_mem hlt)
  refine ⟨fun e => absurd e hne, fun _ v h9 => ?_⟩
  subst h9
  rw [nI_1]
  exact hN _ (zkp_step h hB hk hJ)
theorem k_zu {a : Nat → Nat} {j v q : Nat} (h : j ≠ q) : zu a j v q = a q := zu_f a v (Ne.symm h)
theorem k_zu2 {a : Nat → Nat} {j v : Nat} (h : 2 ≤ j) : zu a j v 0 = a 0 ∧ zu a j v 1 = a 1 := ⟨zu_f a v (by omega), zu_f a v (by omega)⟩
theorem k_oConf {a : Nat → Nat} {x k : Nat} (hx : x < a 1) (hk : k < a 0) (h6 : a 1 ≤ 6) (h8 : a 0 ≤ 8) : (oConf a (nI x) (nI k)).1 ≠ 1 ∧ ((oConf a (nI x) (nI k)).1 = 0 → (oConf a (nI x) (nI k)).2.2 0 = a 0 ∧ (oConf a (nI x) (nI k)).2.2 1 = a 1) := by
  unfold oConf
  rw [if_pos ⟨zok_n hx (by omega), zok_n hk (by omega)⟩]
  unfold oConfN
  split
  · exact ⟨by simp, fun h => by simp at h⟩
  · exact ⟨by simp, fun _ => by dsimp only; exact k_zu2 (by omega)⟩
theorem k_oAss {a : Nat → Nat} {x k : Nat} (hx : x < a 1) (hk : k < a 0) (h6 : a 1 ≤ 6) (h8 : a 0 ≤ 8) : (oAss a (nI x) (nI k)).1 ≠ 1 ∧ ((oAss a (nI x) (nI k)).1 = 0 → (oAss a (nI x) (nI k)).2.2 0 = a 0 ∧ (oAss a (nI x) (nI k)).2.2 1 = a 1) := by
  unfold oAss
  rw [if_pos ⟨zok_n hx (by omega), zok_n hk (by omega)⟩]
  unfold oAssN
  split
  · exact ⟨by simp, fun h => by simp at h⟩
  · split
    · exact ⟨by simp, fun h => by simp at h⟩
    · exact ⟨by simp, fun _ => by dsimp only; exact k_zu2 (by omega)⟩
theorem k_oGrad {a : Nat → Nat} {x k : Nat} (g : Int32) (hx : x < a 1) (hk : k < a 0) (h6 : a 1 ≤ 6) (h8 : a 0 ≤ 8) : (oGrad a (nI x) (nI k) g).1 ≠ 1 ∧ ((oGrad a (nI x) (nI k) g).1 = 0 → (oGrad a (nI x) (nI k) g).2.2 0 = a 0 ∧ (oGrad a (nI x) (nI k) g).2.2 1 = a 1) := by
  unfold oGrad
  rw [if_pos ⟨zok_n hx (by omega), zok_n hk (by omega)⟩]
  split
  · unfold oGradN
    split
    · exact ⟨by simp, fun h => by simp at h⟩
    · exact ⟨by simp, fun _ => by dsimp only; exact k_zu2 (by omega)⟩
  · exact ⟨by simp, fun h => by simp at h⟩
theorem k_oThr {a : Nat → Nat} {t : Nat} (ht : t < 21) : (oThr a (nI t)).1 ≠ 1 ∧ ((oThr a (nI t)).1 = 0 → (oThr a (nI t)).2.2 0 = a 0 ∧ (oThr a (nI t)).2.2 1 = a 1) := by
  unfold oThr
  rw [if_pos (zok_n ht (by decide))]
  exact ⟨by simp, fun _ => by dsimp only; exact k_zu2 (by decide)⟩
theorem k_oAw {a : Nat → Nat} {k : Nat} (hk : k < a 0) (h8 : a 0 ≤ 8) : (oAw a (nI k)).1 ≠ 1 ∧ ((oAw a (nI k)).1 = 0 → (oAw a (nI k)).2.2 0 = a 0 ∧ (oAw a (nI k)).2.2 1 = a 1) := by
  unfold oAw
  rw [if_pos (zok_n hk (by omega))]
  unfold oAwN
  split
  · exact ⟨by simp, fun h => by simp at h⟩
  · split
    · exact ⟨by simp, fun h => by simp at h⟩
    · refine ⟨by simp, fun _ => ?_⟩
      dsimp only
      constructor <;> (rw [k_zu, k_zu, k_zu, k_zu] <;> omega)
theorem k_oApp {a : Nat → Nat} {k : Nat} (hk : k < a 0) (h8 : a 0 ≤ 8) : (oApp a (nI k)).1 ≠ 1 ∧ ((oApp a (nI k)).1 = 0 → (oApp a (nI k)).2.2 0 = a 0 ∧ (oApp a (nI k)).2.2 1 = a 1) := by
  unfold oApp
  rw [if_pos (zok_n hk (by omega))]
  unfold oAppN
  split
  · exact ⟨by simp, fun h => by simp at h⟩
  · split
    · exact ⟨by simp, fun h => by simp at h⟩
    · refine ⟨by simp, fun _ => ?_⟩
      dsimp only
      constructor <;> (rw [k_zu, k_zu] <;> omega)
theorem k_oPlan {a : Nat → Nat} (hb : rB a) : (oPlan a).2.2 0 = a 0 ∧ (oPlan a).2.2 1 = a 1 := ⟨(zpi_k hb (a 0) (Nat.le_refl _)).2.1 0 (Or.inl (by decide)), (zpi_k hb (a 0) (Nat.le_refl _)).2.1 1 (Or.inl (by decide))⟩
theorem pL_dr185 {D E L : Nat} {xs : Nat → Int32} (hL : L ≤ 260) (hD : 1 ≤ D) (hE : 1 ≤ E) {K : zG → Prop} (hK : ∀ z, zkp D E z → K z) : ∀ (n i fuel : Nat) (z : zG), n < fuel → i + n = 18 → zkp D E z → lL_drawn_185 L xs (nI D) (nI E) K fuel (nI i) z := by
  intro n
  induction n with
  | zero =>
    intro i fuel z hf hi h
    obtain ⟨f0, rfl⟩ : ∃ f, fuel = f + 1 := ⟨fuel - 1, by omega⟩
    rw [lL_drawn_185.eq_2]
    refine ⟨fun _ => hK z h, fun w => absurd ?_ w⟩
    rw [show i = 18 by omega]; decide
  | succ n ih =>
    intro i fuel z hf hi h
    obtain ⟨f0, rfl⟩ : ∃ f, fuel = f + 1 := ⟨fuel - 1, by omega⟩
    have hG := h.1
    have hb := hG.1
    have e0 := h.2.2.1
    have e1 := h.2.2.2.1
    have hj := h.2.2.2.2
    have h8 := rB_D hb
    have h6 := rB_E hb
    have n2 : ∀ x ∈ ([(-2)] : List Int32), x ≠ -1 := by decide
    have n3 : ∀ x ∈ ([(-2), (-3)] : List Int32), x ≠ -1 := by decide
    have n1 : ∀ x ∈ ([] : List Int32), x ≠ -1 := by decide
    have hN : ∀ z', zkp D E z' → lL_drawn_185 L xs (nI D) (nI E) K f0 (nI (i + 1)) z' := fun z' h' => ih (i + 1) f0 z' (by omega) (by omega) h'
    rw [lL_drawn_185.eq_2]
    refine ⟨fun w => absurd w (show ¬ nI 18 ≤ nI i from nI_ge (by omega) (by omega)), fun _ => ?_⟩
    rw [show (15 : Int32) + nI i = nI (15 + i) from nI_add 15 i]
    refine pL_cell (by omega) hL (fun r17 v18 _ v19 h19 => ⟨nI_ne0 (by omega) (by omega), fun v20 h20 v21 h21 => ⟨nI_ne0 (by omega) (by omega), fun v22 h22 v23 _ => ?_⟩⟩)
    obtain ⟨w19, hw19, q19⟩ := zshr v18 4 4 (by decide) (by decide)
    obtain ⟨w21, hw21, q21⟩ := zshr v18 8 8 (by decide) (by decide)
    rw [q19] at h19
    rw [q21] at h21
    subst h19; subst h21
    rw [pk_rem hw19 (by omega) (by omega)] at h20
    rw [pk_rem hw21 (by omega) (by omega)] at h22
    subst h20; subst h22
    have hk : w19 % D < z.1 0 := by rw [e0]; exact Nat.mod_lt _ (by omega)
    have hx : w21 % E < z.1 1 := by rw [e1]; exact Nat.mod_lt _ (by omega)
    obtain ⟨w40, hw40, q40⟩ := zshr v18 12 12 (by decide) (by decide)
    refine ⟨fun _ => ⟨fun _ zp hzp => ?_, fun _ => ⟨fun _ zp hzp => ?_, fun _ => ⟨fun _ => ⟨fun _ v40 h40 zp hzp => ?_, fun _ => ⟨fun _ zp hzp => ?_, fun _ zp hzp => ?_⟩⟩, fun _ v42 _ zp hzp => ?_⟩⟩⟩, fun _ zp hzp => ?_⟩
    · subst hzp
      have hp := oPlan_v z.1
      refine ⟨fun e => absurd e (fun e => ?_), fun _ v h9 => ?_⟩
      · have h9 : ¬ nI (zstep z (oPlan z.1)).2.1 < 0 := nI_pos hp
        rw [e] at h9
        exact h9 (by decide)
      · subst h9
        rw [nI_1]
        exact hN _ (zkp_step h (oPlan_B hb) (fun _ => k_oPlan hb) (J_oPlan hb hj))
    · subst hzp; exact pj348 h (oConf_c _ _ _).1 (k_oConf hx hk h6 h8).1 (oConf_v hb _ _) (oConf_B hb _ _) (k_oConf hx hk h6 h8).2 (J_oConf hb hj _ _) n2 hN
    · subst hzp
      rw [q40] at h40
      subst h40
      have m21 := pk_rem (d := 21) hw40 (by decide) (by decide)
      rw [show nI w40 - nI w40 / (21 : Int32) * (21 : Int32) = nI (w40 % 21) from m21]
      exact pj348 h (oThr_c _ _).1 (k_oThr (Nat.mod_lt _ (by decide))).1 (oThr_v hb _) (oThr_B hb _) (k_oThr (Nat.mod_lt _ (by decide))).2 (J_oThr hb hj _) n1 hN
    · subst hzp; exact pj348 h (oApp_c _ _).1 (k_oApp hk h8).1 (oApp_v _) (oApp_B hb _) (k_oApp hk h8).2 (J_oApp hb hj _) n3 hN
    · subst hzp; exact pj348 h (oAw_c _ _).1 (k_oAw hk h8).1 (oAw_v hb _) (oAw_B hb _) (k_oAw hk h8).2 (J_oAw hb hj _) n3 hN
    · subst hzp; exact pj348 h (oGrad_c _ _ _ _).1 (k_oGrad _ hx hk h6 h8).1 (oGrad_v hb _ _ _) (oGrad_B hb _ _ _) (k_oGrad _ hx hk h6 h8).2 (J_oGrad hb hj _ _ _) n3 hN
    · subst hzp; exact pj348 h (oAss_c _ _ _).1 (k_oAss hx hk h6 h8).1 (oAss_v hb _ _) (oAss_B hb _ _) (k_oAss hx hk h6 h8).2 (J_oAss hb hj _ _) n3 hN
theorem s_oDoor {a : Nat → Nat} {k f t : Nat} (h0 : a 0 = k) (hk : k < 8) (hf : 97 ≤ f ∧ f ≤ 102) (ht : t ≤ 5) : (oDoor a (nI f) (nI t)).1 = 0 ∧ (oDoor a (nI f) (nI t)).2.1 = k ∧ (oDoor a (nI f) (nI t)).2.2 0 = k + 1 ∧ (oDoor a (nI f) (nI t)).2.2 1 = a 1 := by
  unfold oDoor
  rw [if_pos (by rw [nI_toInt (by omega), nI_toInt (by omega)]; omega), if_neg (by omega)]
  refine ⟨rfl, h0, ?_, ?_⟩
  · dsimp only
    rw [zu_t, h0]
  · dsimp only
    rw [k_zu, k_zu, k_zu] <;> omega
theorem s_oExam {a : Nat → Nat} {k f s c l : Nat} (h0 : a 1 = k) (hk : k < 6) (hf : 97 ≤ f ∧ f ≤ 102) (hs : 1 ≤ s ∧ s ≤ 63) (hc : 1 ≤ c ∧ c ≤ 4) (hl : l ≤ 9) : (oExam a (nI f) (nI s) (nI c) (nI l)).1 = 0 ∧ (oExam a (nI f) (nI s) (nI c) (nI l)).2.1 = k ∧ (oExam a (nI f) (nI s) (nI c) (nI l)).2.2 1 = k + 1 ∧ (oExam a (nI f) (nI s) (nI c) (nI l)).2.2 0 = a 0 := by
  unfold oExam
  rw [if_pos (by rw [nI_toInt (by omega), nI_toInt (by omega), nI_toInt (by omega), nI_toInt (by omega)]; omega), if_neg (by omega)]
  refine ⟨rfl, h0, ?_, ?_⟩
  · dsimp only
    rw [zu_t, h0]
  · dsimp only
    rw [k_zu, k_zu, k_zu, k_zu, k_zu] <;> omega
theorem zkp_new {D E D' E' : Nat} {z : zG} (h : zkp D E z) {o : Nat × Nat × (Nat → Nat)} (hB : rB o.2.2) (h0 : o.1 = 0) (h1 : o.2.2 0 = D') (h2 : o.2.2 1 = E') (hJ : zJ o.2.2) : zkp D' E' (zstep z o).2.2 := by
  have e : zchg z o = zpush z o.2.2 := if_pos h0
  refine ⟨GI_chg h.1 hB, ?_, ?_, ?_, ?_⟩
  · show (zchg z o).2.2.2.1.1 = 0
    rw [e]; exact h.2.1
  · show (zchg z o).1 0 = D'
    rw [e]; exact h1
  · show (zchg z o).1 1 = E'
    rw [e]; exact h2
  · show zJ (zchg z o).1
    rw [e]; exact hJ
theorem pL_dr36 {D L : Nat} {xs : Nat → Int32} {v2 : Int32} (hL : L ≤ 260) (hD : D ≤ 8) {K : zG → Prop} (hK : ∀ z, zkp D 0 z → K z) : ∀ (n i fuel : Nat) (z : zG), n < fuel → i + n = D → zkp i 0 z → lL_drawn_36 L xs v2 (nI D) K fuel (nI i) z := by
  intro n
  induction n with
  | zero =>
    intro i fuel z hf hi h
    obtain ⟨f0, rfl⟩ : ∃ f, fuel = f + 1 := ⟨fuel - 1, by omega⟩
    rw [lL_drawn_36.eq_2]
    exact ⟨fun _ => hK z (by rw [show D = i by omega]; exact h), fun w => absurd (nI_le (by omega) (by omega)) w⟩
  | succ n ih =>
    intro i fuel z hf hi h
    obtain ⟨f0, rfl⟩ : ∃ f, fuel = f + 1 := ⟨fuel - 1, by omega⟩
    rw [lL_drawn_36.eq_2]
    refine ⟨fun w => absurd w (nI_ge (by omega) (by omega)), fun _ => ?_⟩
    rw [show (1 : Int32) + nI i = nI (1 + i) from nI_add 1 i]
    refine pL_cell (by omega) hL (fun r76 v77 h77 v78 h78 v79 h79 => ?_)
    obtain ⟨w77, hw77, q77⟩ := zshr r76 1 1 (by decide) (by decide)
    rw [q77] at h77
    subst h77
    obtain ⟨w79, hw79, q79⟩ := zshr (nI w77) 3 3 (by decide) (by decide)
    rw [q79] at h79
    subst h79
    have m6 := pk_rem (d := 6) hw77 (by decide) (by decide)
    rw [show nI w77 - nI w77 / (6 : Int32) * (6 : Int32) = nI (w77 % 6) from m6, show (97 : Int32) + nI (w77 % 6) = nI (97 + w77 % 6) from nI_add 97 _, zch (by omega)] at h78
    subst h78
    have key : ∀ m : Nat, 0 < m → m ≤ 6 → jL_drawn_80 (nI i) z (nI (97 + w77 % 6)) (nI w79) (fun x5_36 z_36 => lL_drawn_36 L xs v2 (nI D) K f0 x5_36 z_36) (nI m) := fun m hm hm6 => by
      refine ⟨nI_ne0 hm (by omega), fun zp hzp => ?_⟩
      rw [pk_rem hw79 hm (by omega)] at hzp ⊢
      have hr : w79 % m < m := Nat.mod_lt _ hm
      obtain ⟨a1, a2, a3, a4⟩ := s_oDoor (a := z.1) (k := i) (f := 97 + w77 % 6) (t := w79 % m) h.2.2.1 (by omega) (by omega) (by omega)
      subst hzp
      refine ⟨fun _ v h9 => ?_, fun w => absurd ?_ w⟩
      · subst h9
        show lL_drawn_36 L xs v2 (nI D) K f0 (nI i + 1) _
        rw [nI_1]
        exact ih (i + 1) f0 _ (by omega) (by omega) (zkp_new h (oDoor_B h.1.1 _ _) a1 a3 (a4.trans h.2.2.2.1) (J_oDoor h.1.1 h.2.2.2.2 _ _))
      · rw [zv_0 (s := zstep z _) a1]
        show nI (oDoor z.1 _ _).2.1 = _
        rw [a2]
    exact ⟨fun _ => key 6 (by decide) (by decide), fun _ => key 2 (by decide) (by decide)⟩
theorem pL_dr100 {D E L : Nat} {xs : Nat → Int32} {v2 : Int32} (hL : L ≤ 260) (hE : E ≤ 6) {K : zG → Prop} (hK : ∀ z, zkp D E z → K z) : ∀ (n i fuel : Nat) (z : zG), n < fuel → i + n = E → zkp D i z → lL_drawn_100 L xs v2 (nI E) K fuel (nI i) z := by
  intro n
  induction n with
  | zero =>
    intro i fuel z hf hi h
    obtain ⟨f0, rfl⟩ : ∃ f, fuel = f + 1 := ⟨fuel - 1, by omega⟩
    rw [lL_drawn_100.eq_2]
    exact ⟨fun _ => hK z (by rw [show E = i by omega]; exact h), fun w => absurd (nI_le (by omega) (by omega)) w⟩
  | succ n ih =>
    intro i fuel z hf hi h
    obtain ⟨f0, rfl⟩ : ∃ f, fuel = f + 1 := ⟨fuel - 1, by omega⟩
    rw [lL_drawn_100.eq_2]
    refine ⟨fun w => absurd w (nI_ge (by omega) (by omega)), fun _ => ?_⟩
    rw [show (9 : Int32) + nI i = nI (9 + i) from nI_add 9 i]
    refine pL_cell (by omega) hL (fun r76 v77 h77 v78 h78 v79 h79 v80 h80 => ?_)
    obtain ⟨w77, hw77, q77⟩ := zshr r76 1 1 (by decide) (by decide)
    rw [q77] at h77
    subst h77
    obtain ⟨w79, hw79, q79⟩ := zshr (nI w77) 3 3 (by decide) (by decide)
    rw [q79] at h79
    subst h79
    obtain ⟨w80, hw80, q80⟩ := zshr (nI w77) 9 9 (by decide) (by decide)
    rw [q80] at h80
    subst h80
    have m6 := pk_rem (d := 6) hw77 (by decide) (by decide)
    rw [show nI w77 - nI w77 / (6 : Int32) * (6 : Int32) = nI (w77 % 6) from m6, show (97 : Int32) + nI (w77 % 6) = nI (97 + w77 % 6) from nI_add 97 _, zch (by omega)] at h78
    subst h78
    have key : ∀ m : Nat, 0 < m → m ≤ 4 → jL_drawn_156 (nI i) z (nI w77) (nI (97 + w77 % 6)) (nI w79) (nI w80) (fun x5_100 z_100 => lL_drawn_100 L xs v2 (nI E) K f0 x5_100 z_100) (nI m) := fun m hm hm6 => by
      refine ⟨nI_ne0 hm (by omega), fun v63 h63 => ?_⟩
      obtain ⟨w63, hw63, q63⟩ := zshr (nI w77) 12 12 (by decide) (by decide)
      rw [q63] at h63
      subst h63
      have m63 := pk_rem (d := 63) hw79 (by decide) (by decide)
      have m10 := pk_rem (d := 10) hw63 (by decide) (by decide)
      rw [pk_rem hw80 hm (by omega), show nI w79 - nI w79 / (63 : Int32) * (63 : Int32) = nI (w79 % 63) from m63, show nI w63 - nI w63 / (10 : Int32) * (10 : Int32) = nI (w63 % 10) from m10, show (1 : Int32) + nI (w79 % 63) = nI (1 + w79 % 63) from nI_add 1 _, show (1 : Int32) + nI (w80 % m) = nI (1 + w80 % m) from nI_add 1 _]
      intro zp hzp
      have hr : w80 % m < m := Nat.mod_lt _ hm
      obtain ⟨a1, a2, a3, a4⟩ := s_oExam (a := z.1) (k := i) (f := 97 + w77 % 6) (s := 1 + w79 % 63) (c := 1 + w80 % m) (l := w63 % 10) h.2.2.2.1 (by omega) (by omega) (by omega) (by omega) (by omega)
      subst hzp
      refine ⟨fun _ v h9 => ?_, fun w => absurd ?_ w⟩
      · subst h9
        show lL_drawn_100 L xs v2 (nI E) K f0 (nI i + 1) _
        rw [nI_1]
        exact ih (i + 1) f0 _ (by omega) (by omega) (zkp_new h (oExam_B h.1.1 _ _ _ _) a1 (a4.trans h.2.2.1) a3 (J_oExam h.1.1 h.2.2.2.2 _ _ _ _))
      · rw [zv_0 (s := zstep z _) a1]
        show nI (oExam z.1 _ _ _ _).2.1 = _
        rw [a2]
    exact ⟨fun _ => key 2 (by decide) (by decide), fun _ => key 4 (by decide) (by decide)⟩
theorem pL_drawn {L : Nat} {xs : Nat → Int32} (hL : L ≤ 260) {Q : zG → Prop} (h : ∀ z, GI z → z.2.2.2.1.1 = 0 → 1 ≤ z.1 0 → 1 ≤ z.1 1 → zJ z.1 → Q z) : wL_drawn L xs zz0 Q := by
  refine pL_cell (j := 0) (by decide) hL (fun r1 v2 h2 v3 h3 v4 h4 v5 h5 => ?_)
  obtain ⟨w2, hw2, q2⟩ := zshr r1 1 1 (by decide) (by decide)
  rw [q2] at h2
  subst h2
  obtain ⟨w4, hw4, q4⟩ := zshr (nI w2) 3 3 (by decide) (by decide)
  rw [q4] at h4
  subst h4
  have m8 := pk_rem (d := 8) hw2 (by decide) (by decide)
  have m6 := pk_rem (d := 6) hw4 (by decide) (by decide)
  rw [show nI w2 - nI w2 / (8 : Int32) * (8 : Int32) = nI (w2 % 8) from m8, show (1 : Int32) + nI (w2 % 8) = nI (1 + w2 % 8) from nI_add 1 _] at h3
  rw [show nI w4 - nI w4 / (6 : Int32) * (6 : Int32) = nI (w4 % 6) from m6, show (1 : Int32) + nI (w4 % 6) = nI (1 + w4 % 6) from nI_add 1 _] at h5
  subst h3; subst h5
  refine pL_dr36 (D := 1 + w2 % 8) hL (by omega) (fun z1 hz1 => pL_dr100 (D := 1 + w2 % 8) (E := 1 + w4 % 6) hL (by omega) (fun z2 hz2 => pL_dr185 (D := 1 + w2 % 8) (E := 1 + w4 % 6) hL (by omega) (by omega) (fun z3 hz3 => h z3 hz3.1 hz3.2.1 (by rw [hz3.2.2.1]; omega) (by rw [hz3.2.2.2.1]; omega) hz3.2.2.2.2) 18 0 19 z2 (by decide) rfl hz2) (1 + w4 % 6) 0 7 z1 (by omega) (by omega) hz1) (1 + w2 % 8) 0 9 zz0 (by omega) (by omega) ⟨zz_G, rfl, rfl, rfl, fun x k hx hk hp => absurd hp (by show ¬ zp za0 x k 1 = 1; rw [za_p]; decide)⟩
