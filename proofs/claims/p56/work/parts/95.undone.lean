/-! The pure part: the seven changes. -/
theorem zshr (x s : Int32) (k : Nat) (hs : ((s.toUInt32 &&& Int32.toUInt32 31).toBitVec % 32).toNat = k) (h1 : 1 ≤ k) : ∃ w : Nat, w < 2 ^ 31 ∧ (x.toUInt32 >>> (s.toUInt32 &&& Int32.toUInt32 31)).toInt32 = nI w := by
  have h := pk_ushr x s k hs
  have hx := x.toBitVec.isLt
  have h2 : x.toBitVec.toNat / 2 ^ k ≤ x.toBitVec.toNat / 2 ^ 1 := Nat.div_le_div_left (Nat.pow_le_pow_right (by decide) h1) (by decide)
  generalize (x.toUInt32 >>> (s.toUInt32 &&& Int32.toUInt32 31)).toInt32 = y at h ⊢
  have h3 : y.toBitVec.toNat < 2 ^ 31 := by
    rw [h]
    first | omega | (rw [Nat.shiftRight_eq_div_pow]; omega)
  refine ⟨y.toBitVec.toNat, h3, Int32.toBitVec_inj.mp (BitVec.eq_of_toNat_eq ?_)⟩
  show _ = (BitVec.ofNat 32 _).toNat
  rw [BitVec.toNat_ofNat, Nat.mod_eq_of_lt (by omega)]
theorem pL_cell {j L : Nat} {xs : Nat → Int32} {z : zG} {Q : Int32 → Prop} (hj : j < 1000) (hL : L ≤ 260) (h : ∀ r, Q r) : wL_cell (nI j) L xs z Q :=
  ⟨fun _ => h _, fun w => ⟨nI_in (by
    rcases Nat.lt_or_ge j L with h1 | h1
    · exact h1
    · exact absurd (nI_le h1 (by omega)) w) (by omega), h _⟩⟩
theorem zlat_nil : zlat [] := fun c hc => by cases hc
theorem ztx_lt {t : List Nat} (h : ztx t) (j : Nat) : t.getD j 0 < 65536 := Nat.lt_trans (h.2.at j) (by decide)
theorem zsb_l15 : (zsb 15).length = 15 := rfl
theorem zsb_l16 : (zsb 16).length = 7 := rfl
theorem zsb_l11 : (zsb 11).length = 1 := rfl
theorem zsb_l17 : (zsb 17).length = 9 := rfl
theorem pL_un10 {L : Nat} {xs : Nat → Int32} (hL : L ≤ 260) {K : Int32 → zG → (Nat → Int64) → Prop} (hK : ∀ d z f st, d ≤ 7 → zun d z f st → K (nI d) z f) : ∀ (n i fuel d : Nat) (z : zG) (f : Nat → Int64) (st : Nat → Nat → Nat), n < fuel → i + n = 7 → d ≤ i → zun d z f st → lL_undone_10 L xs (fun r _ => r = 1) K fuel (nI d) (nI i) z f := by
  intro n
  induction n with
  | zero =>
    intro i fuel d z f st hf hi hd h
    obtain ⟨f0, rfl⟩ : ∃ f, fuel = f + 1 := ⟨fuel - 1, by omega⟩
    rw [lL_undone_10.eq_2]
    refine ⟨fun _ => hK d z f st (by omega) h, fun w => absurd ?_ w⟩
    rw [show i = 7 by omega]; decide
  | succ n ih =>
    intro i fuel d z f st hf hi hd h
    obtain ⟨f0, rfl⟩ : ∃ f, fuel = f + 1 := ⟨fuel - 1, by omega⟩
    have hG := h.1
    have hb := hG.1
    have ht := h.2.1
    have key : ∀ r z', zmv z r z' → jL_undone_403 (nI d) (nI i) (vp_updL f d (zsm z.1)) (fun r _ => r = 1) (fun x3_10 x4_10 z_10 f_q1_10 => lL_undone_10 L xs (fun r _ => r = 1) K f0 x3_10 x4_10 z_10 f_q1_10) r z' := fun r z' hm => pj403 h (by omega) hm (fun d' f' st' hd' h' => ih (i + 1) f0 d' z' f' st' (by omega) (by omega) (by omega) h')
    have n2 : ∀ x ∈ ([(-1), (-2)] : List Int32), x < 0 := by decide
    have n3 : ∀ x ∈ ([(-1), (-2), (-3)] : List Int32), x < 0 := by decide
    have n1 : ∀ x ∈ ([(-1)] : List Int32), x < 0 := by decide
    rw [lL_undone_10.eq_2]
    refine ⟨fun w => absurd w (show ¬ nI 7 ≤ nI i from nI_ge (by omega) (by omega)), fun _ => ?_⟩
    rw [show (33 : Int32) + nI i = nI (33 + i) from nI_add 33 i]
    refine pL_cell (by omega) hL (fun r23 v24 h24 v25 h25 => pL_sum hb ⟨nI_in (by omega) (by decide), fun f28 h28 v29 _ => ?_⟩)
    rw [nI_clamp (by omega)] at h28
    subst h28
    obtain ⟨w25, hw25, e25⟩ := zshr v24 4 4 (by decide) (by decide)
    rw [e25] at h25
    clear e25 h24
    refine ⟨fun _ => ⟨fun _ v127 _ v128 _ v129 _ zp hzp v131 hv => ?_, fun _ v120 _ v121 _ v122 _ v123 _ v124 _ zp hzp v126 hv => ?_⟩, fun _ => ⟨fun _ v116 _ zp hzp v118 hv => ?_, fun _ => ⟨fun _ v113 _ zp hzp v115 hv => ?_, fun _ => ⟨fun _ v110 _ zp hzp v112 hv => ?_, fun _ => ⟨fun _ zp hzp v109 hv => ?_, fun _ => ⟨fun _ v104 _ v105 _ zp hzp v107 hv => ?_, fun _ => ⟨fun _ v100 _ v101 _ zp hzp v103 hv => ?_, fun _ => ⟨fun _ => ?_, fun _ => ⟨fun _ => ?_, fun _ => ⟨fun _ => ?_, fun _ => ?_⟩⟩⟩⟩⟩⟩⟩⟩⟩⟩
    · subst hzp; subst hv; exact key _ _ (zmv_step hG ht (oDoor_c _ _ _) (oDoor_v hb _ _) (oDoor_B hb _ _) n2)
    · subst hzp; subst hv; exact key _ _ (zmv_step hG ht (oExam_c _ _ _ _ _) (oExam_v hb _ _ _ _) (oExam_B hb _ _ _ _) n2)
    · subst hzp; subst hv; exact key _ _ (zmv_step hG ht (oConf_c _ _ _) (oConf_v hb _ _) (oConf_B hb _ _) n2)
    · subst hzp; subst hv; exact key _ _ (zmv_step hG ht (oAss_c _ _ _) (oAss_v hb _ _) (oAss_B hb _ _) n3)
    · subst hzp; subst hv; exact key _ _ (zmv_step hG ht (oAss_c _ _ _) (oAss_v hb _ _) (oAss_B hb _ _) n3)
    · subst hzp; subst hv; exact key _ _ (zmv_plan hG ht)
    · subst hzp; subst hv; exact key _ _ (zmv_step hG ht (oGrad_c _ _ _ _) (oGrad_v hb _ _ _) (oGrad_B hb _ _ _) n3)
    · subst hzp; subst hv; exact key _ _ (zmv_step hG ht (oGrad_c _ _ _ _) (oGrad_v hb _ _ _) (oGrad_B hb _ _ _) n3)
    · intro zp hzp v98 hv; subst hzp; subst hv; exact key _ _ (zmv_step hG ht (oThr_c _ _) (oThr_v hb _) (oThr_B hb _) n1)
    · intro zp hzp v96 hv; subst hzp; subst hv; exact key _ _ (zmv_step hG ht (oApp_c _ _) (oApp_v _) (oApp_B hb _) n3)
    · refine ⟨fun _ v _ zp hzp v9 hv => ?_, fun _ v _ zp hzp v9 hv => ?_⟩
      · subst hzp; subst hv; exact key _ _ (zmv_step hG ht (oAw_c _ _) (oAw_v hb _) (oAw_B hb _) n3)
      · subst hzp; subst hv; exact key _ _ (zmv_step hG ht (oRev_c _ _) (oRev_v hb _) (oRev_B hb _) n2)
    · subst h25
      have m21 := pk_rem (d := 21) hw25 (by decide) (by decide)
      have q59 : w25 % 21 < 100 := by omega
      have l59 := zdec_len (w25 % 21)
      have a15 := zsb_lat 15 (by decide)
      have a16 := zsb_lat 16 (by decide)
      have a11 := zsb_lat 11 (by decide)
      have a17 := zsb_lat 17 (by decide)
      have a59 := zdec_lat q59
      refine ⟨⟨by simp only [List.length_append, List.length_nil, zsb_l15]; omega, by repeat' (first | exact zlat_nil | assumption | apply zlat.app)⟩, w25 % 21, ⟨q59, m21, by simp only [List.length_append, List.length_nil, zsb_l15]; omega, by repeat' (first | exact zlat_nil | assumption | apply zlat.app)⟩, ⟨by simp only [List.length_append, List.length_nil, zsb_l15, zsb_l16]; omega, by repeat' (first | exact zlat_nil | assumption | apply zlat.app)⟩, fun v63 h63 => ?_⟩
      obtain ⟨w63, hw63, e63⟩ := zshr (nI w25) 5 5 (by decide) (by decide)
      rw [e63] at h63
      subst h63
      have m67 := pk_rem (d := 6) hw63 (by decide) (by decide)
      have q67 : w63 % 6 < 100 := by omega
      have l67 := zdec_len (w63 % 6)
      have a67 := zdec_lat q67
      refine ⟨w63 % 6, ⟨q67, m67, by simp only [List.length_append, List.length_nil, zsb_l15, zsb_l16]; omega, by repeat' (first | exact zlat_nil | assumption | apply zlat.app)⟩, ⟨by simp only [List.length_append, List.length_nil, zsb_l15, zsb_l16, zsb_l11]; omega, by repeat' (first | exact zlat_nil | assumption | apply zlat.app)⟩, fun v71 h71 => ?_⟩
      obtain ⟨w71, hw71, e71⟩ := zshr (nI w25) 8 8 (by decide) (by decide)
      rw [e71] at h71
      subst h71
      have m75 := pk_rem (d := 8) hw71 (by decide) (by decide)
      have q75 : w71 % 8 < 100 := by omega
      have l75 := zdec_len (w71 % 8)
      have a75 := zdec_lat q75
      refine ⟨w71 % 8, ⟨q75, m75, by simp only [List.length_append, List.length_nil, zsb_l15, zsb_l16, zsb_l11]; omega, by repeat' (first | exact zlat_nil | assumption | apply zlat.app)⟩, ⟨by simp only [List.length_append, List.length_nil, zsb_l15, zsb_l16, zsb_l11, zsb_l17]; omega, by repeat' (first | exact zlat_nil | assumption | apply zlat.app)⟩, fun v79 h79 => ?_⟩
      obtain ⟨w79, hw79, e79⟩ := zshr (nI w25) 12 12 (by decide) (by decide)
      rw [e79] at h79
      subst h79
      have m83 := pk_rem (d := 8) hw79 (by decide) (by decide)
      have q83 : w79 % 8 < 100 := by omega
      have l83 := zdec_len (w79 % 8)
      have a83 := zdec_lat q83
      have hfin : ztx ((((((([] ++ zsb 15) ++ zdec (w25 % 21)) ++ zsb 16) ++ zdec (w63 % 6)) ++ zsb 11) ++ zdec (w71 % 8)) ++ zsb 17 ++ zdec (w79 % 8)) := ⟨by simp only [List.length_append, List.length_nil, zsb_l15, zsb_l16, zsb_l11, zsb_l17]; omega, by repeat' (first | exact zlat_nil | assumption | apply zlat.app)⟩
      refine ⟨w79 % 8, ⟨q83, m83, hfin⟩, hfin, hfin, pT_run hG ht ?_ (ztx_lt hfin) (fun r z' hm => key r z' hm)⟩
      simp only [List.length_append, List.length_nil, zsb_l15, zsb_l16, zsb_l11, zsb_l17]; omega
theorem pL_undone {L : Nat} {xs : Nat → Int32} (hL : L ≤ 260) {z : zG} (hG : GI z) (ht : z.2.2.2.1.1 = 0) : wL_undone L xs z (fun r _ => r = 1) := by
  refine pL_un10 hL (fun d z f st hd h v4 h4 => ?_) 7 0 8 0 z (fun _ => 0) (fun _ _ => 0) (by decide) rfl (Nat.le_refl _) ⟨hG, ht, Nat.zero_le _, fun i hi => absurd hi (Nat.not_lt_zero _), fun i hi => absurd hi (Nat.not_lt_zero _)⟩
  subst h4
  exact pL_undo d 8 z st (by omega) hd h
